theorem dJ7_fill_bad5a_0 : decode cJ7_fill_bad5a 0 = .ok (.aload_n 0, 1) := by decide +kernel
theorem dJ7_fill_bad5a_1 : decode cJ7_fill_bad5a 1 = .ok (.arraylength, 1) := by decide +kernel
theorem dJ7_fill_bad5a_2 : decode cJ7_fill_bad5a 2 = .ok (.iload_n 1, 1) := by decide +kernel
theorem dJ7_fill_bad5a_3 : decode cJ7_fill_bad5a 3 = .ok (.iload_n 2, 1) := by decide +kernel
theorem dJ7_fill_bad5a_4 : decode cJ7_fill_bad5a 4 = .ok (.invokestatic 13, 3) := by decide +kernel
theorem dJ7_fill_bad5a_7 : decode cJ7_fill_bad5a 7 = .ok (.iload_n 1, 1) := by decide +kernel
theorem dJ7_fill_bad5a_8 : decode cJ7_fill_bad5a 8 = .ok (.istore 5, 2) := by decide +kernel
theorem dJ7_fill_bad5a_10 : decode cJ7_fill_bad5a 10 = .ok (.iload 5, 2) := by decide +kernel
theorem dJ7_fill_bad5a_12 : decode cJ7_fill_bad5a 12 = .ok (.iload_n 2, 1) := by decide +kernel
theorem dJ7_fill_bad5a_13 : decode cJ7_fill_bad5a 13 = .ok (.if_icmp .ge 14, 3) := by decide +kernel
theorem dJ7_fill_bad5a_16 : decode cJ7_fill_bad5a 16 = .ok (.aload_n 0, 1) := by decide +kernel
theorem dJ7_fill_bad5a_17 : decode cJ7_fill_bad5a 17 = .ok (.iload 5, 2) := by decide +kernel
theorem dJ7_fill_bad5a_19 : decode cJ7_fill_bad5a 19 = .ok (.lload_n 3, 1) := by decide +kernel
theorem dJ7_fill_bad5a_20 : decode cJ7_fill_bad5a 20 = .ok (.lastore, 1) := by decide +kernel
theorem dJ7_fill_bad5a_21 : decode cJ7_fill_bad5a 21 = .ok (.iinc 5 1, 3) := by decide +kernel
theorem dJ7_fill_bad5a_24 : decode cJ7_fill_bad5a 24 = .ok (.goto (-14), 3) := by decide +kernel
theorem dJ7_fill_bad5a_27 : decode cJ7_fill_bad5a 27 = .ok (.return_, 1) := by decide +kernel

theorem dJ7_rangeCheck_23922_0 : decode cJ7_rangeCheck_23922 0 = .ok (.iload_n 1, 1) := by decide +kernel
theorem dJ7_rangeCheck_23922_1 : decode cJ7_rangeCheck_23922 1 = .ok (.iload_n 2, 1) := by decide +kernel
theorem dJ7_rangeCheck_23922_2 : decode cJ7_rangeCheck_23922 2 = .ok (.if_icmp .le 44, 3) := by decide +kernel
theorem dJ7_rangeCheck_23922_5 : decode cJ7_rangeCheck_23922 5 = .ok (.new 43, 3) := by decide +kernel
theorem dJ7_rangeCheck_23922_8 : decode cJ7_rangeCheck_23922 8 = .ok (.dup, 1) := by decide +kernel
theorem dJ7_rangeCheck_23922_9 : decode cJ7_rangeCheck_23922 9 = .ok (.new 45, 3) := by decide +kernel
theorem dJ7_rangeCheck_23922_12 : decode cJ7_rangeCheck_23922 12 = .ok (.dup, 1) := by decide +kernel
theorem dJ7_rangeCheck_23922_13 : decode cJ7_rangeCheck_23922 13 = .ok (.invokespecial 47, 3) := by decide +kernel
theorem dJ7_rangeCheck_23922_16 : decode cJ7_rangeCheck_23922 16 = .ok (.ldc 48, 2) := by decide +kernel
theorem dJ7_rangeCheck_23922_18 : decode cJ7_rangeCheck_23922 18 = .ok (.invokevirtual 50, 3) := by decide +kernel
theorem dJ7_rangeCheck_23922_21 : decode cJ7_rangeCheck_23922 21 = .ok (.iload_n 1, 1) := by decide +kernel
theorem dJ7_rangeCheck_23922_22 : decode cJ7_rangeCheck_23922 22 = .ok (.invokevirtual 54, 3) := by decide +kernel
theorem dJ7_rangeCheck_23922_25 : decode cJ7_rangeCheck_23922 25 = .ok (.ldc 57, 2) := by decide +kernel
theorem dJ7_rangeCheck_23922_27 : decode cJ7_rangeCheck_23922 27 = .ok (.invokevirtual 50, 3) := by decide +kernel
theorem dJ7_rangeCheck_23922_30 : decode cJ7_rangeCheck_23922 30 = .ok (.iload_n 2, 1) := by decide +kernel
theorem dJ7_rangeCheck_23922_31 : decode cJ7_rangeCheck_23922 31 = .ok (.invokevirtual 54, 3) := by decide +kernel
theorem dJ7_rangeCheck_23922_34 : decode cJ7_rangeCheck_23922 34 = .ok (.ldc 59, 2) := by decide +kernel
theorem dJ7_rangeCheck_23922_36 : decode cJ7_rangeCheck_23922 36 = .ok (.invokevirtual 50, 3) := by decide +kernel
theorem dJ7_rangeCheck_23922_39 : decode cJ7_rangeCheck_23922 39 = .ok (.invokevirtual 61, 3) := by decide +kernel
theorem dJ7_rangeCheck_23922_42 : decode cJ7_rangeCheck_23922 42 = .ok (.invokespecial 65, 3) := by decide +kernel
theorem dJ7_rangeCheck_23922_45 : decode cJ7_rangeCheck_23922 45 = .ok (.athrow, 1) := by decide +kernel
theorem dJ7_rangeCheck_23922_46 : decode cJ7_rangeCheck_23922 46 = .ok (.iload_n 1, 1) := by decide +kernel
theorem dJ7_rangeCheck_23922_47 : decode cJ7_rangeCheck_23922 47 = .ok (.ifCond .ge 12, 3) := by decide +kernel
theorem dJ7_rangeCheck_23922_50 : decode cJ7_rangeCheck_23922 50 = .ok (.new 68, 3) := by decide +kernel
theorem dJ7_rangeCheck_23922_53 : decode cJ7_rangeCheck_23922 53 = .ok (.dup, 1) := by decide +kernel
theorem dJ7_rangeCheck_23922_54 : decode cJ7_rangeCheck_23922 54 = .ok (.iload_n 1, 1) := by decide +kernel
theorem dJ7_rangeCheck_23922_55 : decode cJ7_rangeCheck_23922 55 = .ok (.invokespecial 70, 3) := by decide +kernel
theorem dJ7_rangeCheck_23922_58 : decode cJ7_rangeCheck_23922 58 = .ok (.athrow, 1) := by decide +kernel
theorem dJ7_rangeCheck_23922_59 : decode cJ7_rangeCheck_23922 59 = .ok (.iload_n 2, 1) := by decide +kernel
theorem dJ7_rangeCheck_23922_60 : decode cJ7_rangeCheck_23922 60 = .ok (.iload_n 0, 1) := by decide +kernel
theorem dJ7_rangeCheck_23922_61 : decode cJ7_rangeCheck_23922 61 = .ok (.if_icmp .le 12, 3) := by decide +kernel
theorem dJ7_rangeCheck_23922_64 : decode cJ7_rangeCheck_23922 64 = .ok (.new 68, 3) := by decide +kernel
theorem dJ7_rangeCheck_23922_67 : decode cJ7_rangeCheck_23922 67 = .ok (.dup, 1) := by decide +kernel
theorem dJ7_rangeCheck_23922_68 : decode cJ7_rangeCheck_23922 68 = .ok (.iload_n 2, 1) := by decide +kernel
theorem dJ7_rangeCheck_23922_69 : decode cJ7_rangeCheck_23922 69 = .ok (.invokespecial 70, 3) := by decide +kernel
theorem dJ7_rangeCheck_23922_72 : decode cJ7_rangeCheck_23922 72 = .ok (.athrow, 1) := by decide +kernel
theorem dJ7_rangeCheck_23922_73 : decode cJ7_rangeCheck_23922 73 = .ok (.return_, 1) := by decide +kernel

theorem dX3_advance_0 : decode cX3_advance 0 = .ok (.aload_n 0, 1) := by decide +kernel
theorem dX3_advance_1 : decode cX3_advance 1 = .ok (.aload_n 0, 1) := by decide +kernel
theorem dX3_advance_2 : decode cX3_advance 2 = .ok (.getfield 31, 3) := by decide +kernel
theorem dX3_advance_5 : decode cX3_advance 5 = .ok (.putfield 137, 3) := by decide +kernel
theorem dX3_advance_8 : decode cX3_advance 8 = .ok (.aload_n 0, 1) := by decide +kernel
theorem dX3_advance_9 : decode cX3_advance 9 = .ok (.getfield 137, 3) := by decide +kernel
theorem dX3_advance_12 : decode cX3_advance 12 = .ok (.aload_n 0, 1) := by decide +kernel
theorem dX3_advance_13 : decode cX3_advance 13 = .ok (.getfield 15, 3) := by decide +kernel
theorem dX3_advance_16 : decode cX3_advance 16 = .ok (.getfield 140, 3) := by decide +kernel
theorem dX3_advance_19 : decode cX3_advance 19 = .ok (.if_icmp .ge 48, 3) := by decide +kernel
theorem dX3_advance_22 : decode cX3_advance 22 = .ok (.aload_n 0, 1) := by decide +kernel
theorem dX3_advance_23 : decode cX3_advance 23 = .ok (.getfield 15, 3) := by decide +kernel
theorem dX3_advance_26 : decode cX3_advance 26 = .ok (.aload_n 0, 1) := by decide +kernel
theorem dX3_advance_27 : decode cX3_advance 27 = .ok (.getfield 137, 3) := by decide +kernel
theorem dX3_advance_30 : decode cX3_advance 30 = .ok (.invokevirtual 145, 3) := by decide +kernel
theorem dX3_advance_33 : decode cX3_advance 33 = .ok (.bipush 32, 2) := by decide +kernel
theorem dX3_advance_35 : decode cX3_advance 35 = .ok (.if_icmp .eq 19, 3) := by decide +kernel
theorem dX3_advance_38 : decode cX3_advance 38 = .ok (.aload_n 0, 1) := by decide +kernel
theorem dX3_advance_39 : decode cX3_advance 39 = .ok (.getfield 15, 3) := by decide +kernel
theorem dX3_advance_42 : decode cX3_advance 42 = .ok (.aload_n 0, 1) := by decide +kernel
theorem dX3_advance_43 : decode cX3_advance 43 = .ok (.getfield 137, 3) := by decide +kernel
theorem dX3_advance_46 : decode cX3_advance 46 = .ok (.invokevirtual 145, 3) := by decide +kernel
theorem dX3_advance_49 : decode cX3_advance 49 = .ok (.bipush 10, 2) := by decide +kernel
theorem dX3_advance_51 : decode cX3_advance 51 = .ok (.if_icmp .ne 16, 3) := by decide +kernel
theorem dX3_advance_54 : decode cX3_advance 54 = .ok (.aload_n 0, 1) := by decide +kernel
theorem dX3_advance_55 : decode cX3_advance 55 = .ok (.dup, 1) := by decide +kernel
theorem dX3_advance_56 : decode cX3_advance 56 = .ok (.getfield 137, 3) := by decide +kernel
theorem dX3_advance_59 : decode cX3_advance 59 = .ok (.iconst 1, 1) := by decide +kernel
theorem dX3_advance_60 : decode cX3_advance 60 = .ok (.iadd, 1) := by decide +kernel
theorem dX3_advance_61 : decode cX3_advance 61 = .ok (.putfield 137, 3) := by decide +kernel
theorem dX3_advance_64 : decode cX3_advance 64 = .ok (.goto (-56), 3) := by decide +kernel
theorem dX3_advance_67 : decode cX3_advance 67 = .ok (.aload_n 0, 1) := by decide +kernel
theorem dX3_advance_68 : decode cX3_advance 68 = .ok (.aload_n 0, 1) := by decide +kernel
theorem dX3_advance_69 : decode cX3_advance 69 = .ok (.getfield 15, 3) := by decide +kernel
theorem dX3_advance_72 : decode cX3_advance 72 = .ok (.aload_n 0, 1) := by decide +kernel
theorem dX3_advance_73 : decode cX3_advance 73 = .ok (.getfield 137, 3) := by decide +kernel
theorem dX3_advance_76 : decode cX3_advance 76 = .ok (.invokevirtual 145, 3) := by decide +kernel
theorem dX3_advance_79 : decode cX3_advance 79 = .ok (.invokestatic 148, 3) := by decide +kernel
theorem dX3_advance_82 : decode cX3_advance 82 = .ok (.putfield 37, 3) := by decide +kernel
theorem dX3_advance_85 : decode cX3_advance 85 = .ok (.aload_n 0, 1) := by decide +kernel
theorem dX3_advance_86 : decode cX3_advance 86 = .ok (.aload_n 0, 1) := by decide +kernel
theorem dX3_advance_87 : decode cX3_advance 87 = .ok (.getfield 37, 3) := by decide +kernel
theorem dX3_advance_90 : decode cX3_advance 90 = .ok (.ifCond .ne 10, 3) := by decide +kernel
theorem dX3_advance_93 : decode cX3_advance 93 = .ok (.aload_n 0, 1) := by decide +kernel
theorem dX3_advance_94 : decode cX3_advance 94 = .ok (.getfield 137, 3) := by decide +kernel
theorem dX3_advance_97 : decode cX3_advance 97 = .ok (.goto 9, 3) := by decide +kernel
theorem dX3_advance_100 : decode cX3_advance 100 = .ok (.aload_n 0, 1) := by decide +kernel
theorem dX3_advance_101 : decode cX3_advance 101 = .ok (.getfield 137, 3) := by decide +kernel
theorem dX3_advance_104 : decode cX3_advance 104 = .ok (.iconst 1, 1) := by decide +kernel
theorem dX3_advance_105 : decode cX3_advance 105 = .ok (.iadd, 1) := by decide +kernel
theorem dX3_advance_106 : decode cX3_advance 106 = .ok (.putfield 31, 3) := by decide +kernel
theorem dX3_advance_109 : decode cX3_advance 109 = .ok (.aload_n 0, 1) := by decide +kernel
theorem dX3_advance_110 : decode cX3_advance 110 = .ok (.getfield 37, 3) := by decide +kernel
theorem dX3_advance_113 : decode cX3_advance 113 = .ok (.iconst 1, 1) := by decide +kernel
theorem dX3_advance_114 : decode cX3_advance 114 = .ok (.if_icmp .eq 11, 3) := by decide +kernel
theorem dX3_advance_117 : decode cX3_advance 117 = .ok (.aload_n 0, 1) := by decide +kernel
theorem dX3_advance_118 : decode cX3_advance 118 = .ok (.getfield 37, 3) := by decide +kernel
theorem dX3_advance_121 : decode cX3_advance 121 = .ok (.iconst 2, 1) := by decide +kernel
theorem dX3_advance_122 : decode cX3_advance 122 = .ok (.if_icmp .ne 7, 3) := by decide +kernel
theorem dX3_advance_125 : decode cX3_advance 125 = .ok (.iconst 1, 1) := by decide +kernel
theorem dX3_advance_126 : decode cX3_advance 126 = .ok (.goto 4, 3) := by decide +kernel
theorem dX3_advance_129 : decode cX3_advance 129 = .ok (.iconst 0, 1) := by decide +kernel
theorem dX3_advance_130 : decode cX3_advance 130 = .ok (.istore_n 1, 1) := by decide +kernel
theorem dX3_advance_131 : decode cX3_advance 131 = .ok (.iload_n 1, 1) := by decide +kernel
theorem dX3_advance_132 : decode cX3_advance 132 = .ok (.ifCond .eq 51, 3) := by decide +kernel
theorem dX3_advance_135 : decode cX3_advance 135 = .ok (.aload_n 0, 1) := by decide +kernel
theorem dX3_advance_136 : decode cX3_advance 136 = .ok (.getfield 31, 3) := by decide +kernel
theorem dX3_advance_139 : decode cX3_advance 139 = .ok (.aload_n 0, 1) := by decide +kernel
theorem dX3_advance_140 : decode cX3_advance 140 = .ok (.getfield 15, 3) := by decide +kernel
theorem dX3_advance_143 : decode cX3_advance 143 = .ok (.getfield 140, 3) := by decide +kernel
theorem dX3_advance_146 : decode cX3_advance 146 = .ok (.if_icmp .ge 37, 3) := by decide +kernel
theorem dX3_advance_149 : decode cX3_advance 149 = .ok (.aload_n 0, 1) := by decide +kernel
theorem dX3_advance_150 : decode cX3_advance 150 = .ok (.getfield 15, 3) := by decide +kernel
theorem dX3_advance_153 : decode cX3_advance 153 = .ok (.aload_n 0, 1) := by decide +kernel
theorem dX3_advance_154 : decode cX3_advance 154 = .ok (.getfield 31, 3) := by decide +kernel
theorem dX3_advance_157 : decode cX3_advance 157 = .ok (.invokevirtual 145, 3) := by decide +kernel
theorem dX3_advance_160 : decode cX3_advance 160 = .ok (.invokestatic 148, 3) := by decide +kernel
theorem dX3_advance_163 : decode cX3_advance 163 = .ok (.aload_n 0, 1) := by decide +kernel
theorem dX3_advance_164 : decode cX3_advance 164 = .ok (.getfield 37, 3) := by decide +kernel
theorem dX3_advance_167 : decode cX3_advance 167 = .ok (.if_icmp .ne 16, 3) := by decide +kernel
theorem dX3_advance_170 : decode cX3_advance 170 = .ok (.aload_n 0, 1) := by decide +kernel
theorem dX3_advance_171 : decode cX3_advance 171 = .ok (.dup, 1) := by decide +kernel
theorem dX3_advance_172 : decode cX3_advance 172 = .ok (.getfield 31, 3) := by decide +kernel
theorem dX3_advance_175 : decode cX3_advance 175 = .ok (.iconst 1, 1) := by decide +kernel
theorem dX3_advance_176 : decode cX3_advance 176 = .ok (.iadd, 1) := by decide +kernel
theorem dX3_advance_177 : decode cX3_advance 177 = .ok (.putfield 31, 3) := by decide +kernel
theorem dX3_advance_180 : decode cX3_advance 180 = .ok (.goto (-49), 3) := by decide +kernel
theorem dX3_advance_183 : decode cX3_advance 183 = .ok (.aload_n 0, 1) := by decide +kernel
theorem dX3_advance_184 : decode cX3_advance 184 = .ok (.iconst 0, 1) := by decide +kernel
theorem dX3_advance_185 : decode cX3_advance 185 = .ok (.putfield 118, 3) := by decide +kernel
theorem dX3_advance_188 : decode cX3_advance 188 = .ok (.aload_n 0, 1) := by decide +kernel
theorem dX3_advance_189 : decode cX3_advance 189 = .ok (.getfield 137, 3) := by decide +kernel
theorem dX3_advance_192 : decode cX3_advance 192 = .ok (.istore_n 2, 1) := by decide +kernel
theorem dX3_advance_193 : decode cX3_advance 193 = .ok (.aload_n 0, 1) := by decide +kernel
theorem dX3_advance_194 : decode cX3_advance 194 = .ok (.getfield 37, 3) := by decide +kernel
theorem dX3_advance_197 : decode cX3_advance 197 = .ok (.iconst 2, 1) := by decide +kernel
theorem dX3_advance_198 : decode cX3_advance 198 = .ok (.if_icmp .ne 46, 3) := by decide +kernel
theorem dX3_advance_201 : decode cX3_advance 201 = .ok (.iload_n 2, 1) := by decide +kernel
theorem dX3_advance_202 : decode cX3_advance 202 = .ok (.aload_n 0, 1) := by decide +kernel
theorem dX3_advance_203 : decode cX3_advance 203 = .ok (.getfield 31, 3) := by decide +kernel
theorem dX3_advance_206 : decode cX3_advance 206 = .ok (.if_icmp .ge 38, 3) := by decide +kernel
theorem dX3_advance_209 : decode cX3_advance 209 = .ok (.aload_n 0, 1) := by decide +kernel
theorem dX3_advance_210 : decode cX3_advance 210 = .ok (.sipush 1000, 3) := by decide +kernel
theorem dX3_advance_213 : decode cX3_advance 213 = .ok (.aload_n 0, 1) := by decide +kernel
theorem dX3_advance_214 : decode cX3_advance 214 = .ok (.getfield 118, 3) := by decide +kernel
theorem dX3_advance_217 : decode cX3_advance 217 = .ok (.bipush 10, 2) := by decide +kernel
theorem dX3_advance_219 : decode cX3_advance 219 = .ok (.imul, 1) := by decide +kernel
theorem dX3_advance_220 : decode cX3_advance 220 = .ok (.aload_n 0, 1) := by decide +kernel
theorem dX3_advance_221 : decode cX3_advance 221 = .ok (.getfield 15, 3) := by decide +kernel
theorem dX3_advance_224 : decode cX3_advance 224 = .ok (.iload_n 2, 1) := by decide +kernel
theorem dX3_advance_225 : decode cX3_advance 225 = .ok (.invokevirtual 145, 3) := by decide +kernel
theorem dX3_advance_228 : decode cX3_advance 228 = .ok (.iadd, 1) := by decide +kernel
theorem dX3_advance_229 : decode cX3_advance 229 = .ok (.bipush 48, 2) := by decide +kernel
theorem dX3_advance_231 : decode cX3_advance 231 = .ok (.isub, 1) := by decide +kernel
theorem dX3_advance_232 : decode cX3_advance 232 = .ok (.invokestatic 151, 3) := by decide +kernel
theorem dX3_advance_235 : decode cX3_advance 235 = .ok (.putfield 118, 3) := by decide +kernel
theorem dX3_advance_238 : decode cX3_advance 238 = .ok (.iinc 2 1, 3) := by decide +kernel
theorem dX3_advance_241 : decode cX3_advance 241 = .ok (.goto (-48), 3) := by decide +kernel
theorem dX3_advance_244 : decode cX3_advance 244 = .ok (.return_, 1) := by decide +kernel

theorem dX3_kindOf_0 : decode cX3_kindOf 0 = .ok (.iload_n 0, 1) := by decide +kernel
theorem dX3_kindOf_1 : decode cX3_kindOf 1 = .ok (.bipush 97, 2) := by decide +kernel
theorem dX3_kindOf_3 : decode cX3_kindOf 3 = .ok (.if_icmp .lt 11, 3) := by decide +kernel
theorem dX3_kindOf_6 : decode cX3_kindOf 6 = .ok (.iload_n 0, 1) := by decide +kernel
theorem dX3_kindOf_7 : decode cX3_kindOf 7 = .ok (.bipush 122, 2) := by decide +kernel
theorem dX3_kindOf_9 : decode cX3_kindOf 9 = .ok (.if_icmp .gt 5, 3) := by decide +kernel
theorem dX3_kindOf_12 : decode cX3_kindOf 12 = .ok (.iconst 1, 1) := by decide +kernel
theorem dX3_kindOf_13 : decode cX3_kindOf 13 = .ok (.ireturn, 1) := by decide +kernel
theorem dX3_kindOf_14 : decode cX3_kindOf 14 = .ok (.iload_n 0, 1) := by decide +kernel
theorem dX3_kindOf_15 : decode cX3_kindOf 15 = .ok (.bipush 48, 2) := by decide +kernel
theorem dX3_kindOf_17 : decode cX3_kindOf 17 = .ok (.if_icmp .lt 11, 3) := by decide +kernel
theorem dX3_kindOf_20 : decode cX3_kindOf 20 = .ok (.iload_n 0, 1) := by decide +kernel
theorem dX3_kindOf_21 : decode cX3_kindOf 21 = .ok (.bipush 57, 2) := by decide +kernel
theorem dX3_kindOf_23 : decode cX3_kindOf 23 = .ok (.if_icmp .gt 5, 3) := by decide +kernel
theorem dX3_kindOf_26 : decode cX3_kindOf 26 = .ok (.iconst 2, 1) := by decide +kernel
theorem dX3_kindOf_27 : decode cX3_kindOf 27 = .ok (.ireturn, 1) := by decide +kernel
theorem dX3_kindOf_28 : decode cX3_kindOf 28 = .ok (.iload_n 0, 1) := by decide +kernel
theorem dX3_kindOf_29 : decode cX3_kindOf 29 = .ok (.bipush 59, 2) := by decide +kernel
theorem dX3_kindOf_31 : decode cX3_kindOf 31 = .ok (.if_icmp .ne 5, 3) := by decide +kernel
theorem dX3_kindOf_34 : decode cX3_kindOf 34 = .ok (.iconst 3, 1) := by decide +kernel
theorem dX3_kindOf_35 : decode cX3_kindOf 35 = .ok (.ireturn, 1) := by decide +kernel
theorem dX3_kindOf_36 : decode cX3_kindOf 36 = .ok (.iload_n 0, 1) := by decide +kernel
theorem dX3_kindOf_37 : decode cX3_kindOf 37 = .ok (.iconst (-1), 1) := by decide +kernel
theorem dX3_kindOf_38 : decode cX3_kindOf 38 = .ok (.if_icmp .ne 7, 3) := by decide +kernel
theorem dX3_kindOf_41 : decode cX3_kindOf 41 = .ok (.iconst 0, 1) := by decide +kernel
theorem dX3_kindOf_42 : decode cX3_kindOf 42 = .ok (.goto 4, 3) := by decide +kernel
theorem dX3_kindOf_45 : decode cX3_kindOf 45 = .ok (.iconst 4, 1) := by decide +kernel
theorem dX3_kindOf_46 : decode cX3_kindOf 46 = .ok (.ireturn, 1) := by decide +kernel

theorem dX3_parse_0 : decode cX3_parse 0 = .ok (.aload_n 0, 1) := by decide +kernel
theorem dX3_parse_1 : decode cX3_parse 1 = .ok (.getfield 19, 3) := by decide +kernel
theorem dX3_parse_4 : decode cX3_parse 4 = .ok (.invokevirtual 23, 3) := by decide +kernel
theorem dX3_parse_7 : decode cX3_parse 7 = .ok (.aload_n 0, 1) := by decide +kernel
theorem dX3_parse_8 : decode cX3_parse 8 = .ok (.iconst 0, 1) := by decide +kernel
theorem dX3_parse_9 : decode cX3_parse 9 = .ok (.putfield 28, 3) := by decide +kernel
theorem dX3_parse_12 : decode cX3_parse 12 = .ok (.aload_n 0, 1) := by decide +kernel
theorem dX3_parse_13 : decode cX3_parse 13 = .ok (.iconst (-1), 1) := by decide +kernel
theorem dX3_parse_14 : decode cX3_parse 14 = .ok (.putfield 9, 3) := by decide +kernel
theorem dX3_parse_17 : decode cX3_parse 17 = .ok (.aload_n 0, 1) := by decide +kernel
theorem dX3_parse_18 : decode cX3_parse 18 = .ok (.iconst 0, 1) := by decide +kernel
theorem dX3_parse_19 : decode cX3_parse 19 = .ok (.putfield 31, 3) := by decide +kernel
theorem dX3_parse_22 : decode cX3_parse 22 = .ok (.aload_n 0, 1) := by decide +kernel
theorem dX3_parse_23 : decode cX3_parse 23 = .ok (.invokevirtual 34, 3) := by decide +kernel
theorem dX3_parse_26 : decode cX3_parse 26 = .ok (.iconst 0, 1) := by decide +kernel
theorem dX3_parse_27 : decode cX3_parse 27 = .ok (.istore_n 1, 1) := by decide +kernel
theorem dX3_parse_28 : decode cX3_parse 28 = .ok (.iload_n 1, 1) := by decide +kernel
theorem dX3_parse_29 : decode cX3_parse 29 = .ok (.sipush 700, 3) := by decide +kernel
theorem dX3_parse_32 : decode cX3_parse 32 = .ok (.if_icmp .ge 38, 3) := by decide +kernel
theorem dX3_parse_35 : decode cX3_parse 35 = .ok (.aload_n 0, 1) := by decide +kernel
theorem dX3_parse_36 : decode cX3_parse 36 = .ok (.getfield 37, 3) := by decide +kernel
theorem dX3_parse_39 : decode cX3_parse 39 = .ok (.ifCond .eq 31, 3) := by decide +kernel
theorem dX3_parse_42 : decode cX3_parse 42 = .ok (.aload_n 0, 1) := by decide +kernel
theorem dX3_parse_43 : decode cX3_parse 43 = .ok (.invokevirtual 40, 3) := by decide +kernel
theorem dX3_parse_46 : decode cX3_parse 46 = .ok (.ifCond .ne 5, 3) := by decide +kernel
theorem dX3_parse_49 : decode cX3_parse 49 = .ok (.iconst 0, 1) := by decide +kernel
theorem dX3_parse_50 : decode cX3_parse 50 = .ok (.ireturn, 1) := by decide +kernel
theorem dX3_parse_51 : decode cX3_parse 51 = .ok (.aload_n 0, 1) := by decide +kernel
theorem dX3_parse_52 : decode cX3_parse 52 = .ok (.getfield 19, 3) := by decide +kernel
theorem dX3_parse_55 : decode cX3_parse 55 = .ok (.dup, 1) := by decide +kernel
theorem dX3_parse_56 : decode cX3_parse 56 = .ok (.getfield 44, 3) := by decide +kernel
theorem dX3_parse_59 : decode cX3_parse 59 = .ok (.iconst 1, 1) := by decide +kernel
theorem dX3_parse_60 : decode cX3_parse 60 = .ok (.iadd, 1) := by decide +kernel
theorem dX3_parse_61 : decode cX3_parse 61 = .ok (.putfield 44, 3) := by decide +kernel
theorem dX3_parse_64 : decode cX3_parse 64 = .ok (.iinc 1 1, 3) := by decide +kernel
theorem dX3_parse_67 : decode cX3_parse 67 = .ok (.goto (-39), 3) := by decide +kernel
theorem dX3_parse_70 : decode cX3_parse 70 = .ok (.iconst 1, 1) := by decide +kernel
theorem dX3_parse_71 : decode cX3_parse 71 = .ok (.ireturn, 1) := by decide +kernel

theorem dX5_filled_0 : decode cX5_filled 0 = .ok (.iconst 0, 1) := by decide +kernel
theorem dX5_filled_1 : decode cX5_filled 1 = .ok (.istore_n 1, 1) := by decide +kernel
theorem dX5_filled_2 : decode cX5_filled 2 = .ok (.iconst 0, 1) := by decide +kernel
theorem dX5_filled_3 : decode cX5_filled 3 = .ok (.istore_n 2, 1) := by decide +kernel
theorem dX5_filled_4 : decode cX5_filled 4 = .ok (.iload_n 2, 1) := by decide +kernel
theorem dX5_filled_5 : decode cX5_filled 5 = .ok (.iconst 4, 1) := by decide +kernel
theorem dX5_filled_6 : decode cX5_filled 6 = .ok (.if_icmp .ge 25, 3) := by decide +kernel
theorem dX5_filled_9 : decode cX5_filled 9 = .ok (.iload_n 1, 1) := by decide +kernel
theorem dX5_filled_10 : decode cX5_filled 10 = .ok (.aload_n 0, 1) := by decide +kernel
theorem dX5_filled_11 : decode cX5_filled 11 = .ok (.iload_n 2, 1) := by decide +kernel
theorem dX5_filled_12 : decode cX5_filled 12 = .ok (.invokevirtual 22, 3) := by decide +kernel
theorem dX5_filled_15 : decode cX5_filled 15 = .ok (.ifCond .eq 7, 3) := by decide +kernel
theorem dX5_filled_18 : decode cX5_filled 18 = .ok (.iconst 0, 1) := by decide +kernel
theorem dX5_filled_19 : decode cX5_filled 19 = .ok (.goto 4, 3) := by decide +kernel
theorem dX5_filled_22 : decode cX5_filled 22 = .ok (.iconst 1, 1) := by decide +kernel
theorem dX5_filled_23 : decode cX5_filled 23 = .ok (.iadd, 1) := by decide +kernel
theorem dX5_filled_24 : decode cX5_filled 24 = .ok (.istore_n 1, 1) := by decide +kernel
theorem dX5_filled_25 : decode cX5_filled 25 = .ok (.iinc 2 1, 3) := by decide +kernel
theorem dX5_filled_28 : decode cX5_filled 28 = .ok (.goto (-24), 3) := by decide +kernel
theorem dX5_filled_31 : decode cX5_filled 31 = .ok (.iload_n 1, 1) := by decide +kernel
theorem dX5_filled_32 : decode cX5_filled 32 = .ok (.ireturn, 1) := by decide +kernel

theorem dX5_isBare_0 : decode cX5_isBare 0 = .ok (.aload_n 0, 1) := by decide +kernel
theorem dX5_isBare_1 : decode cX5_isBare 1 = .ok (.getfield 9, 3) := by decide +kernel
theorem dX5_isBare_4 : decode cX5_isBare 4 = .ok (.iload_n 1, 1) := by decide +kernel
theorem dX5_isBare_5 : decode cX5_isBare 5 = .ok (.iaload, 1) := by decide +kernel
theorem dX5_isBare_6 : decode cX5_isBare 6 = .ok (.iconst (-1), 1) := by decide +kernel
theorem dX5_isBare_7 : decode cX5_isBare 7 = .ok (.if_icmp .ne 7, 3) := by decide +kernel
theorem dX5_isBare_10 : decode cX5_isBare 10 = .ok (.iconst 1, 1) := by decide +kernel
theorem dX5_isBare_11 : decode cX5_isBare 11 = .ok (.goto 4, 3) := by decide +kernel
theorem dX5_isBare_14 : decode cX5_isBare 14 = .ok (.iconst 0, 1) := by decide +kernel
theorem dX5_isBare_15 : decode cX5_isBare 15 = .ok (.ireturn, 1) := by decide +kernel

theorem dX5_isSlot_0 : decode cX5_isSlot 0 = .ok (.iload_n 1, 1) := by decide +kernel
theorem dX5_isSlot_1 : decode cX5_isSlot 1 = .ok (.ifCond .lt 12, 3) := by decide +kernel
theorem dX5_isSlot_4 : decode cX5_isSlot 4 = .ok (.iload_n 1, 1) := by decide +kernel
theorem dX5_isSlot_5 : decode cX5_isSlot 5 = .ok (.iconst 4, 1) := by decide +kernel
theorem dX5_isSlot_6 : decode cX5_isSlot 6 = .ok (.if_icmp .ge 7, 3) := by decide +kernel
theorem dX5_isSlot_9 : decode cX5_isSlot 9 = .ok (.iconst 1, 1) := by decide +kernel
theorem dX5_isSlot_10 : decode cX5_isSlot 10 = .ok (.goto 4, 3) := by decide +kernel
theorem dX5_isSlot_13 : decode cX5_isSlot 13 = .ok (.iconst 0, 1) := by decide +kernel
theorem dX5_isSlot_14 : decode cX5_isSlot 14 = .ok (.ireturn, 1) := by decide +kernel

theorem dX5_lay_0 : decode cX5_lay 0 = .ok (.aload_n 0, 1) := by decide +kernel
theorem dX5_lay_1 : decode cX5_lay 1 = .ok (.getfield 9, 3) := by decide +kernel
theorem dX5_lay_4 : decode cX5_lay 4 = .ok (.iload_n 1, 1) := by decide +kernel
theorem dX5_lay_5 : decode cX5_lay 5 = .ok (.iload_n 2, 1) := by decide +kernel
theorem dX5_lay_6 : decode cX5_lay 6 = .ok (.iastore, 1) := by decide +kernel
theorem dX5_lay_7 : decode cX5_lay 7 = .ok (.aload_n 0, 1) := by decide +kernel
theorem dX5_lay_8 : decode cX5_lay 8 = .ok (.getfield 15, 3) := by decide +kernel
theorem dX5_lay_11 : decode cX5_lay 11 = .ok (.iload_n 1, 1) := by decide +kernel
theorem dX5_lay_12 : decode cX5_lay 12 = .ok (.iload_n 3, 1) := by decide +kernel
theorem dX5_lay_13 : decode cX5_lay 13 = .ok (.iastore, 1) := by decide +kernel
theorem dX5_lay_14 : decode cX5_lay 14 = .ok (.iload_n 1, 1) := by decide +kernel
theorem dX5_lay_15 : decode cX5_lay 15 = .ok (.bipush 60, 2) := by decide +kernel
theorem dX5_lay_17 : decode cX5_lay 17 = .ok (.imul, 1) := by decide +kernel
theorem dX5_lay_18 : decode cX5_lay 18 = .ok (.istore 4, 2) := by decide +kernel
theorem dX5_lay_20 : decode cX5_lay 20 = .ok (.aload_n 0, 1) := by decide +kernel
theorem dX5_lay_21 : decode cX5_lay 21 = .ok (.getfield 18, 3) := by decide +kernel
theorem dX5_lay_24 : decode cX5_lay 24 = .ok (.iload 4, 2) := by decide +kernel
theorem dX5_lay_26 : decode cX5_lay 26 = .ok (.iload 4, 2) := by decide +kernel
theorem dX5_lay_28 : decode cX5_lay 28 = .ok (.bipush 60, 2) := by decide +kernel
theorem dX5_lay_30 : decode cX5_lay 30 = .ok (.iadd, 1) := by decide +kernel
theorem dX5_lay_31 : decode cX5_lay 31 = .ok (.lconst 0, 1) := by decide +kernel
theorem dX5_lay_32 : decode cX5_lay 32 = .ok (.invokestatic 26, 3) := by decide +kernel
theorem dX5_lay_35 : decode cX5_lay 35 = .ok (.return_, 1) := by decide +kernel

theorem dX6_become_0 : decode cX6_become 0 = .ok (.aload_n 0, 1) := by decide +kernel
theorem dX6_become_1 : decode cX6_become 1 = .ok (.aload_n 1, 1) := by decide +kernel
theorem dX6_become_2 : decode cX6_become 2 = .ok (.getfield 42, 3) := by decide +kernel
theorem dX6_become_5 : decode cX6_become 5 = .ok (.putfield 42, 3) := by decide +kernel
theorem dX6_become_8 : decode cX6_become 8 = .ok (.aload_n 0, 1) := by decide +kernel
theorem dX6_become_9 : decode cX6_become 9 = .ok (.aload_n 1, 1) := by decide +kernel
theorem dX6_become_10 : decode cX6_become 10 = .ok (.getfield 46, 3) := by decide +kernel
theorem dX6_become_13 : decode cX6_become 13 = .ok (.putfield 46, 3) := by decide +kernel
theorem dX6_become_16 : decode cX6_become 16 = .ok (.aload_n 0, 1) := by decide +kernel
theorem dX6_become_17 : decode cX6_become 17 = .ok (.aload_n 1, 1) := by decide +kernel
theorem dX6_become_18 : decode cX6_become 18 = .ok (.getfield 49, 3) := by decide +kernel
theorem dX6_become_21 : decode cX6_become 21 = .ok (.putfield 49, 3) := by decide +kernel
theorem dX6_become_24 : decode cX6_become 24 = .ok (.aload_n 0, 1) := by decide +kernel
theorem dX6_become_25 : decode cX6_become 25 = .ok (.aload_n 1, 1) := by decide +kernel
theorem dX6_become_26 : decode cX6_become 26 = .ok (.getfield 52, 3) := by decide +kernel
theorem dX6_become_29 : decode cX6_become 29 = .ok (.putfield 52, 3) := by decide +kernel
theorem dX6_become_32 : decode cX6_become 32 = .ok (.aload_n 0, 1) := by decide +kernel
theorem dX6_become_33 : decode cX6_become 33 = .ok (.aload_n 1, 1) := by decide +kernel
theorem dX6_become_34 : decode cX6_become 34 = .ok (.getfield 55, 3) := by decide +kernel
theorem dX6_become_37 : decode cX6_become 37 = .ok (.putfield 55, 3) := by decide +kernel
theorem dX6_become_40 : decode cX6_become 40 = .ok (.aload_n 0, 1) := by decide +kernel
theorem dX6_become_41 : decode cX6_become 41 = .ok (.aload_n 1, 1) := by decide +kernel
theorem dX6_become_42 : decode cX6_become 42 = .ok (.getfield 58, 3) := by decide +kernel
theorem dX6_become_45 : decode cX6_become 45 = .ok (.putfield 58, 3) := by decide +kernel
theorem dX6_become_48 : decode cX6_become 48 = .ok (.aload_n 0, 1) := by decide +kernel
theorem dX6_become_49 : decode cX6_become 49 = .ok (.aload_n 1, 1) := by decide +kernel
theorem dX6_become_50 : decode cX6_become 50 = .ok (.getfield 61, 3) := by decide +kernel
theorem dX6_become_53 : decode cX6_become 53 = .ok (.putfield 61, 3) := by decide +kernel
theorem dX6_become_56 : decode cX6_become 56 = .ok (.aload_n 0, 1) := by decide +kernel
theorem dX6_become_57 : decode cX6_become 57 = .ok (.aload_n 1, 1) := by decide +kernel
theorem dX6_become_58 : decode cX6_become 58 = .ok (.getfield 64, 3) := by decide +kernel
theorem dX6_become_61 : decode cX6_become 61 = .ok (.putfield 64, 3) := by decide +kernel
theorem dX6_become_64 : decode cX6_become 64 = .ok (.aload_n 1, 1) := by decide +kernel
theorem dX6_become_65 : decode cX6_become 65 = .ok (.getfield 9, 3) := by decide +kernel
theorem dX6_become_68 : decode cX6_become 68 = .ok (.iconst 0, 1) := by decide +kernel
theorem dX6_become_69 : decode cX6_become 69 = .ok (.aload_n 0, 1) := by decide +kernel
theorem dX6_become_70 : decode cX6_become 70 = .ok (.getfield 9, 3) := by decide +kernel
theorem dX6_become_73 : decode cX6_become 73 = .ok (.iconst 0, 1) := by decide +kernel
theorem dX6_become_74 : decode cX6_become 74 = .ok (.bipush 6, 2) := by decide +kernel
theorem dX6_become_76 : decode cX6_become 76 = .ok (.invokestatic 67, 3) := by decide +kernel
theorem dX6_become_79 : decode cX6_become 79 = .ok (.aload_n 1, 1) := by decide +kernel
theorem dX6_become_80 : decode cX6_become 80 = .ok (.getfield 15, 3) := by decide +kernel
theorem dX6_become_83 : decode cX6_become 83 = .ok (.iconst 0, 1) := by decide +kernel
theorem dX6_become_84 : decode cX6_become 84 = .ok (.aload_n 0, 1) := by decide +kernel
theorem dX6_become_85 : decode cX6_become 85 = .ok (.getfield 15, 3) := by decide +kernel
theorem dX6_become_88 : decode cX6_become 88 = .ok (.iconst 0, 1) := by decide +kernel
theorem dX6_become_89 : decode cX6_become 89 = .ok (.bipush 6, 2) := by decide +kernel
theorem dX6_become_91 : decode cX6_become 91 = .ok (.invokestatic 67, 3) := by decide +kernel
theorem dX6_become_94 : decode cX6_become 94 = .ok (.aload_n 1, 1) := by decide +kernel
theorem dX6_become_95 : decode cX6_become 95 = .ok (.getfield 18, 3) := by decide +kernel
theorem dX6_become_98 : decode cX6_become 98 = .ok (.iconst 0, 1) := by decide +kernel
theorem dX6_become_99 : decode cX6_become 99 = .ok (.aload_n 0, 1) := by decide +kernel
theorem dX6_become_100 : decode cX6_become 100 = .ok (.getfield 18, 3) := by decide +kernel
theorem dX6_become_103 : decode cX6_become 103 = .ok (.iconst 0, 1) := by decide +kernel
theorem dX6_become_104 : decode cX6_become 104 = .ok (.bipush 6, 2) := by decide +kernel
theorem dX6_become_106 : decode cX6_become 106 = .ok (.invokestatic 67, 3) := by decide +kernel
theorem dX6_become_109 : decode cX6_become 109 = .ok (.aload_n 1, 1) := by decide +kernel
theorem dX6_become_110 : decode cX6_become 110 = .ok (.getfield 21, 3) := by decide +kernel
theorem dX6_become_113 : decode cX6_become 113 = .ok (.iconst 0, 1) := by decide +kernel
theorem dX6_become_114 : decode cX6_become 114 = .ok (.aload_n 0, 1) := by decide +kernel
theorem dX6_become_115 : decode cX6_become 115 = .ok (.getfield 21, 3) := by decide +kernel
theorem dX6_become_118 : decode cX6_become 118 = .ok (.iconst 0, 1) := by decide +kernel
theorem dX6_become_119 : decode cX6_become 119 = .ok (.bipush 10, 2) := by decide +kernel
theorem dX6_become_121 : decode cX6_become 121 = .ok (.invokestatic 67, 3) := by decide +kernel
theorem dX6_become_124 : decode cX6_become 124 = .ok (.aload_n 1, 1) := by decide +kernel
theorem dX6_become_125 : decode cX6_become 125 = .ok (.getfield 24, 3) := by decide +kernel
theorem dX6_become_128 : decode cX6_become 128 = .ok (.iconst 0, 1) := by decide +kernel
theorem dX6_become_129 : decode cX6_become 129 = .ok (.aload_n 0, 1) := by decide +kernel
theorem dX6_become_130 : decode cX6_become 130 = .ok (.getfield 24, 3) := by decide +kernel
theorem dX6_become_133 : decode cX6_become 133 = .ok (.iconst 0, 1) := by decide +kernel
theorem dX6_become_134 : decode cX6_become 134 = .ok (.bipush 10, 2) := by decide +kernel
theorem dX6_become_136 : decode cX6_become 136 = .ok (.invokestatic 67, 3) := by decide +kernel
theorem dX6_become_139 : decode cX6_become 139 = .ok (.aload_n 1, 1) := by decide +kernel
theorem dX6_become_140 : decode cX6_become 140 = .ok (.getfield 27, 3) := by decide +kernel
theorem dX6_become_143 : decode cX6_become 143 = .ok (.iconst 0, 1) := by decide +kernel
theorem dX6_become_144 : decode cX6_become 144 = .ok (.aload_n 0, 1) := by decide +kernel
theorem dX6_become_145 : decode cX6_become 145 = .ok (.getfield 27, 3) := by decide +kernel
theorem dX6_become_148 : decode cX6_become 148 = .ok (.iconst 0, 1) := by decide +kernel
theorem dX6_become_149 : decode cX6_become 149 = .ok (.bipush 8, 2) := by decide +kernel
theorem dX6_become_151 : decode cX6_become 151 = .ok (.invokestatic 67, 3) := by decide +kernel
theorem dX6_become_154 : decode cX6_become 154 = .ok (.aload_n 1, 1) := by decide +kernel
theorem dX6_become_155 : decode cX6_become 155 = .ok (.getfield 30, 3) := by decide +kernel
theorem dX6_become_158 : decode cX6_become 158 = .ok (.iconst 0, 1) := by decide +kernel
theorem dX6_become_159 : decode cX6_become 159 = .ok (.aload_n 0, 1) := by decide +kernel
theorem dX6_become_160 : decode cX6_become 160 = .ok (.getfield 30, 3) := by decide +kernel
theorem dX6_become_163 : decode cX6_become 163 = .ok (.iconst 0, 1) := by decide +kernel
theorem dX6_become_164 : decode cX6_become 164 = .ok (.bipush 8, 2) := by decide +kernel
theorem dX6_become_166 : decode cX6_become 166 = .ok (.invokestatic 67, 3) := by decide +kernel
theorem dX6_become_169 : decode cX6_become 169 = .ok (.aload_n 1, 1) := by decide +kernel
theorem dX6_become_170 : decode cX6_become 170 = .ok (.getfield 33, 3) := by decide +kernel
theorem dX6_become_173 : decode cX6_become 173 = .ok (.iconst 0, 1) := by decide +kernel
theorem dX6_become_174 : decode cX6_become 174 = .ok (.aload_n 0, 1) := by decide +kernel
theorem dX6_become_175 : decode cX6_become 175 = .ok (.getfield 33, 3) := by decide +kernel
theorem dX6_become_178 : decode cX6_become 178 = .ok (.iconst 0, 1) := by decide +kernel
theorem dX6_become_179 : decode cX6_become 179 = .ok (.bipush 20, 2) := by decide +kernel
theorem dX6_become_181 : decode cX6_become 181 = .ok (.invokestatic 67, 3) := by decide +kernel
theorem dX6_become_184 : decode cX6_become 184 = .ok (.aload_n 1, 1) := by decide +kernel
theorem dX6_become_185 : decode cX6_become 185 = .ok (.getfield 36, 3) := by decide +kernel
theorem dX6_become_188 : decode cX6_become 188 = .ok (.iconst 0, 1) := by decide +kernel
theorem dX6_become_189 : decode cX6_become 189 = .ok (.aload_n 0, 1) := by decide +kernel
theorem dX6_become_190 : decode cX6_become 190 = .ok (.getfield 36, 3) := by decide +kernel
theorem dX6_become_193 : decode cX6_become 193 = .ok (.iconst 0, 1) := by decide +kernel
theorem dX6_become_194 : decode cX6_become 194 = .ok (.bipush 20, 2) := by decide +kernel
theorem dX6_become_196 : decode cX6_become 196 = .ok (.invokestatic 67, 3) := by decide +kernel
theorem dX6_become_199 : decode cX6_become 199 = .ok (.aload_n 1, 1) := by decide +kernel
theorem dX6_become_200 : decode cX6_become 200 = .ok (.getfield 39, 3) := by decide +kernel
theorem dX6_become_203 : decode cX6_become 203 = .ok (.iconst 0, 1) := by decide +kernel
theorem dX6_become_204 : decode cX6_become 204 = .ok (.aload_n 0, 1) := by decide +kernel
theorem dX6_become_205 : decode cX6_become 205 = .ok (.getfield 39, 3) := by decide +kernel
theorem dX6_become_208 : decode cX6_become 208 = .ok (.iconst 0, 1) := by decide +kernel
theorem dX6_become_209 : decode cX6_become 209 = .ok (.bipush 20, 2) := by decide +kernel
theorem dX6_become_211 : decode cX6_become 211 = .ok (.invokestatic 67, 3) := by decide +kernel
theorem dX6_become_214 : decode cX6_become 214 = .ok (.return_, 1) := by decide +kernel

theorem dX6_clear_0 : decode cX6_clear 0 = .ok (.aload_n 0, 1) := by decide +kernel
theorem dX6_clear_1 : decode cX6_clear 1 = .ok (.iconst 0, 1) := by decide +kernel
theorem dX6_clear_2 : decode cX6_clear 2 = .ok (.putfield 42, 3) := by decide +kernel
theorem dX6_clear_5 : decode cX6_clear 5 = .ok (.aload_n 0, 1) := by decide +kernel
theorem dX6_clear_6 : decode cX6_clear 6 = .ok (.iconst 0, 1) := by decide +kernel
theorem dX6_clear_7 : decode cX6_clear 7 = .ok (.putfield 46, 3) := by decide +kernel
theorem dX6_clear_10 : decode cX6_clear 10 = .ok (.aload_n 0, 1) := by decide +kernel
theorem dX6_clear_11 : decode cX6_clear 11 = .ok (.iconst 0, 1) := by decide +kernel
theorem dX6_clear_12 : decode cX6_clear 12 = .ok (.putfield 49, 3) := by decide +kernel
theorem dX6_clear_15 : decode cX6_clear 15 = .ok (.aload_n 0, 1) := by decide +kernel
theorem dX6_clear_16 : decode cX6_clear 16 = .ok (.iconst 0, 1) := by decide +kernel
theorem dX6_clear_17 : decode cX6_clear 17 = .ok (.putfield 52, 3) := by decide +kernel
theorem dX6_clear_20 : decode cX6_clear 20 = .ok (.aload_n 0, 1) := by decide +kernel
theorem dX6_clear_21 : decode cX6_clear 21 = .ok (.iconst 0, 1) := by decide +kernel
theorem dX6_clear_22 : decode cX6_clear 22 = .ok (.putfield 55, 3) := by decide +kernel
theorem dX6_clear_25 : decode cX6_clear 25 = .ok (.aload_n 0, 1) := by decide +kernel
theorem dX6_clear_26 : decode cX6_clear 26 = .ok (.iconst 0, 1) := by decide +kernel
theorem dX6_clear_27 : decode cX6_clear 27 = .ok (.putfield 58, 3) := by decide +kernel
theorem dX6_clear_30 : decode cX6_clear 30 = .ok (.aload_n 0, 1) := by decide +kernel
theorem dX6_clear_31 : decode cX6_clear 31 = .ok (.iconst 0, 1) := by decide +kernel
theorem dX6_clear_32 : decode cX6_clear 32 = .ok (.putfield 61, 3) := by decide +kernel
theorem dX6_clear_35 : decode cX6_clear 35 = .ok (.aload_n 0, 1) := by decide +kernel
theorem dX6_clear_36 : decode cX6_clear 36 = .ok (.iconst 0, 1) := by decide +kernel
theorem dX6_clear_37 : decode cX6_clear 37 = .ok (.putfield 64, 3) := by decide +kernel
theorem dX6_clear_40 : decode cX6_clear 40 = .ok (.return_, 1) := by decide +kernel

theorem dX6_hasPart_0 : decode cX6_hasPart 0 = .ok (.iload_n 1, 1) := by decide +kernel
theorem dX6_hasPart_1 : decode cX6_hasPart 1 = .ok (.ifCond .lt 15, 3) := by decide +kernel
theorem dX6_hasPart_4 : decode cX6_hasPart 4 = .ok (.iload_n 1, 1) := by decide +kernel
theorem dX6_hasPart_5 : decode cX6_hasPart 5 = .ok (.aload_n 0, 1) := by decide +kernel
theorem dX6_hasPart_6 : decode cX6_hasPart 6 = .ok (.getfield 52, 3) := by decide +kernel
theorem dX6_hasPart_9 : decode cX6_hasPart 9 = .ok (.if_icmp .ge 7, 3) := by decide +kernel
theorem dX6_hasPart_12 : decode cX6_hasPart 12 = .ok (.iconst 1, 1) := by decide +kernel
theorem dX6_hasPart_13 : decode cX6_hasPart 13 = .ok (.goto 4, 3) := by decide +kernel
theorem dX6_hasPart_16 : decode cX6_hasPart 16 = .ok (.iconst 0, 1) := by decide +kernel
theorem dX6_hasPart_17 : decode cX6_hasPart 17 = .ok (.ireturn, 1) := by decide +kernel

theorem dX6_hasWorkingYear_0 : decode cX6_hasWorkingYear 0 = .ok (.iload_n 1, 1) := by decide +kernel
theorem dX6_hasWorkingYear_1 : decode cX6_hasWorkingYear 1 = .ok (.ifCond .lt 15, 3) := by decide +kernel
theorem dX6_hasWorkingYear_4 : decode cX6_hasWorkingYear 4 = .ok (.iload_n 1, 1) := by decide +kernel
theorem dX6_hasWorkingYear_5 : decode cX6_hasWorkingYear 5 = .ok (.aload_n 0, 1) := by decide +kernel
theorem dX6_hasWorkingYear_6 : decode cX6_hasWorkingYear 6 = .ok (.getfield 42, 3) := by decide +kernel
theorem dX6_hasWorkingYear_9 : decode cX6_hasWorkingYear 9 = .ok (.if_icmp .ge 7, 3) := by decide +kernel
theorem dX6_hasWorkingYear_12 : decode cX6_hasWorkingYear 12 = .ok (.iconst 1, 1) := by decide +kernel
theorem dX6_hasWorkingYear_13 : decode cX6_hasWorkingYear 13 = .ok (.goto 4, 3) := by decide +kernel
theorem dX6_hasWorkingYear_16 : decode cX6_hasWorkingYear 16 = .ok (.iconst 0, 1) := by decide +kernel
theorem dX6_hasWorkingYear_17 : decode cX6_hasWorkingYear 17 = .ok (.ireturn, 1) := by decide +kernel

theorem dX6_hasYear_0 : decode cX6_hasYear 0 = .ok (.aload_n 0, 1) := by decide +kernel
theorem dX6_hasYear_1 : decode cX6_hasYear 1 = .ok (.invokevirtual 73, 3) := by decide +kernel
theorem dX6_hasYear_4 : decode cX6_hasYear 4 = .ok (.ifCond .eq 19, 3) := by decide +kernel
theorem dX6_hasYear_7 : decode cX6_hasYear 7 = .ok (.iload_n 1, 1) := by decide +kernel
theorem dX6_hasYear_8 : decode cX6_hasYear 8 = .ok (.ifCond .lt 15, 3) := by decide +kernel
theorem dX6_hasYear_11 : decode cX6_hasYear 11 = .ok (.iload_n 1, 1) := by decide +kernel
theorem dX6_hasYear_12 : decode cX6_hasYear 12 = .ok (.aload_n 0, 1) := by decide +kernel
theorem dX6_hasYear_13 : decode cX6_hasYear 13 = .ok (.getfield 42, 3) := by decide +kernel
theorem dX6_hasYear_16 : decode cX6_hasYear 16 = .ok (.if_icmp .gt 7, 3) := by decide +kernel
theorem dX6_hasYear_19 : decode cX6_hasYear 19 = .ok (.iconst 1, 1) := by decide +kernel
theorem dX6_hasYear_20 : decode cX6_hasYear 20 = .ok (.goto 4, 3) := by decide +kernel
theorem dX6_hasYear_23 : decode cX6_hasYear 23 = .ok (.iconst 0, 1) := by decide +kernel
theorem dX6_hasYear_24 : decode cX6_hasYear 24 = .ok (.ireturn, 1) := by decide +kernel

theorem dX6_isTold_0 : decode cX6_isTold 0 = .ok (.aload_n 0, 1) := by decide +kernel
theorem dX6_isTold_1 : decode cX6_isTold 1 = .ok (.getfield 64, 3) := by decide +kernel
theorem dX6_isTold_4 : decode cX6_isTold 4 = .ok (.ifCond .le 7, 3) := by decide +kernel
theorem dX6_isTold_7 : decode cX6_isTold 7 = .ok (.iconst 1, 1) := by decide +kernel
theorem dX6_isTold_8 : decode cX6_isTold 8 = .ok (.goto 4, 3) := by decide +kernel
theorem dX6_isTold_11 : decode cX6_isTold 11 = .ok (.iconst 0, 1) := by decide +kernel
theorem dX6_isTold_12 : decode cX6_isTold 12 = .ok (.ireturn, 1) := by decide +kernel

theorem dX7_append_0 : decode cX7_append 0 = .ok (.bipush 24, 2) := by decide +kernel
theorem dX7_append_2 : decode cX7_append 2 = .ok (.istore_n 2, 1) := by decide +kernel
theorem dX7_append_3 : decode cX7_append 3 = .ok (.iload_n 2, 1) := by decide +kernel
theorem dX7_append_4 : decode cX7_append 4 = .ok (.ifCond .lt 42, 3) := by decide +kernel
theorem dX7_append_7 : decode cX7_append 7 = .ok (.aload_n 0, 1) := by decide +kernel
theorem dX7_append_8 : decode cX7_append 8 = .ok (.getfield 15, 3) := by decide +kernel
theorem dX7_append_11 : decode cX7_append 11 = .ok (.sipush 700, 3) := by decide +kernel
theorem dX7_append_14 : decode cX7_append 14 = .ok (.if_icmp .ge 32, 3) := by decide +kernel
theorem dX7_append_17 : decode cX7_append 17 = .ok (.aload_n 0, 1) := by decide +kernel
theorem dX7_append_18 : decode cX7_append 18 = .ok (.getfield 9, 3) := by decide +kernel
theorem dX7_append_21 : decode cX7_append 21 = .ok (.aload_n 0, 1) := by decide +kernel
theorem dX7_append_22 : decode cX7_append 22 = .ok (.getfield 15, 3) := by decide +kernel
theorem dX7_append_25 : decode cX7_append 25 = .ok (.iload_n 1, 1) := by decide +kernel
theorem dX7_append_26 : decode cX7_append 26 = .ok (.iload_n 2, 1) := by decide +kernel
theorem dX7_append_27 : decode cX7_append 27 = .ok (.ishr, 1) := by decide +kernel
theorem dX7_append_28 : decode cX7_append 28 = .ok (.i2b, 1) := by decide +kernel
theorem dX7_append_29 : decode cX7_append 29 = .ok (.bastore, 1) := by decide +kernel
theorem dX7_append_30 : decode cX7_append 30 = .ok (.aload_n 0, 1) := by decide +kernel
theorem dX7_append_31 : decode cX7_append 31 = .ok (.dup, 1) := by decide +kernel
theorem dX7_append_32 : decode cX7_append 32 = .ok (.getfield 15, 3) := by decide +kernel
theorem dX7_append_35 : decode cX7_append 35 = .ok (.iconst 1, 1) := by decide +kernel
theorem dX7_append_36 : decode cX7_append 36 = .ok (.iadd, 1) := by decide +kernel
theorem dX7_append_37 : decode cX7_append 37 = .ok (.putfield 15, 3) := by decide +kernel
theorem dX7_append_40 : decode cX7_append 40 = .ok (.iinc 2 (-8), 3) := by decide +kernel
theorem dX7_append_43 : decode cX7_append 43 = .ok (.goto (-40), 3) := by decide +kernel
theorem dX7_append_46 : decode cX7_append 46 = .ok (.return_, 1) := by decide +kernel

theorem dX7_at_0 : decode cX7_at 0 = .ok (.iload_n 1, 1) := by decide +kernel
theorem dX7_at_1 : decode cX7_at 1 = .ok (.ifCond .lt 24, 3) := by decide +kernel
theorem dX7_at_4 : decode cX7_at 4 = .ok (.iload_n 1, 1) := by decide +kernel
theorem dX7_at_5 : decode cX7_at 5 = .ok (.aload_n 0, 1) := by decide +kernel
theorem dX7_at_6 : decode cX7_at 6 = .ok (.getfield 15, 3) := by decide +kernel
theorem dX7_at_9 : decode cX7_at 9 = .ok (.if_icmp .ge 16, 3) := by decide +kernel
theorem dX7_at_12 : decode cX7_at 12 = .ok (.aload_n 0, 1) := by decide +kernel
theorem dX7_at_13 : decode cX7_at 13 = .ok (.getfield 9, 3) := by decide +kernel
theorem dX7_at_16 : decode cX7_at 16 = .ok (.iload_n 1, 1) := by decide +kernel
theorem dX7_at_17 : decode cX7_at 17 = .ok (.baload, 1) := by decide +kernel
theorem dX7_at_18 : decode cX7_at 18 = .ok (.sipush 255, 3) := by decide +kernel
theorem dX7_at_21 : decode cX7_at 21 = .ok (.iand, 1) := by decide +kernel
theorem dX7_at_22 : decode cX7_at 22 = .ok (.goto 4, 3) := by decide +kernel
theorem dX7_at_25 : decode cX7_at 25 = .ok (.iconst (-1), 1) := by decide +kernel
theorem dX7_at_26 : decode cX7_at 26 = .ok (.ireturn, 1) := by decide +kernel

theorem dX7_hasRoomForFive_0 : decode cX7_hasRoomForFive 0 = .ok (.aload_n 0, 1) := by decide +kernel
theorem dX7_hasRoomForFive_1 : decode cX7_hasRoomForFive 1 = .ok (.getfield 15, 3) := by decide +kernel
theorem dX7_hasRoomForFive_4 : decode cX7_hasRoomForFive 4 = .ok (.bipush 20, 2) := by decide +kernel
theorem dX7_hasRoomForFive_6 : decode cX7_hasRoomForFive 6 = .ok (.iadd, 1) := by decide +kernel
theorem dX7_hasRoomForFive_7 : decode cX7_hasRoomForFive 7 = .ok (.sipush 700, 3) := by decide +kernel
theorem dX7_hasRoomForFive_10 : decode cX7_hasRoomForFive 10 = .ok (.if_icmp .gt 7, 3) := by decide +kernel
theorem dX7_hasRoomForFive_13 : decode cX7_hasRoomForFive 13 = .ok (.iconst 1, 1) := by decide +kernel
theorem dX7_hasRoomForFive_14 : decode cX7_hasRoomForFive 14 = .ok (.goto 4, 3) := by decide +kernel
theorem dX7_hasRoomForFive_17 : decode cX7_hasRoomForFive 17 = .ok (.iconst 0, 1) := by decide +kernel
theorem dX7_hasRoomForFive_18 : decode cX7_hasRoomForFive 18 = .ok (.ireturn, 1) := by decide +kernel

theorem dX8_ages_0 : decode cX8_ages 0 = .ok (.aload_n 0, 1) := by decide +kernel
theorem dX8_ages_1 : decode cX8_ages 1 = .ok (.getfield 32, 3) := by decide +kernel
theorem dX8_ages_4 : decode cX8_ages 4 = .ok (.iload_n 1, 1) := by decide +kernel
theorem dX8_ages_5 : decode cX8_ages 5 = .ok (.invokevirtual 127, 3) := by decide +kernel
theorem dX8_ages_8 : decode cX8_ages 8 = .ok (.ifCond .ne 6, 3) := by decide +kernel
theorem dX8_ages_11 : decode cX8_ages 11 = .ok (.bipush (-100), 2) := by decide +kernel
theorem dX8_ages_13 : decode cX8_ages 13 = .ok (.ireturn, 1) := by decide +kernel
theorem dX8_ages_14 : decode cX8_ages 14 = .ok (.aload_n 0, 1) := by decide +kernel
theorem dX8_ages_15 : decode cX8_ages 15 = .ok (.invokevirtual 189, 3) := by decide +kernel
theorem dX8_ages_18 : decode cX8_ages 18 = .ok (.iload_n 1, 1) := by decide +kernel
theorem dX8_ages_19 : decode cX8_ages 19 = .ok (.aload_n 0, 1) := by decide +kernel
theorem dX8_ages_20 : decode cX8_ages 20 = .ok (.getfield 32, 3) := by decide +kernel
theorem dX8_ages_23 : decode cX8_ages 23 = .ok (.getfield 168, 3) := by decide +kernel
theorem dX8_ages_26 : decode cX8_ages 26 = .ok (.invokevirtual 193, 3) := by decide +kernel
theorem dX8_ages_29 : decode cX8_ages 29 = .ok (.aload_n 0, 1) := by decide +kernel
theorem dX8_ages_30 : decode cX8_ages 30 = .ok (.getfield 32, 3) := by decide +kernel
theorem dX8_ages_33 : decode cX8_ages 33 = .ok (.getfield 138, 3) := by decide +kernel
theorem dX8_ages_36 : decode cX8_ages 36 = .ok (.iload_n 1, 1) := by decide +kernel
theorem dX8_ages_37 : decode cX8_ages 37 = .ok (.iaload, 1) := by decide +kernel
theorem dX8_ages_38 : decode cX8_ages 38 = .ok (.isub, 1) := by decide +kernel
theorem dX8_ages_39 : decode cX8_ages 39 = .ok (.ireturn, 1) := by decide +kernel

theorem dX8_air_0 : decode cX8_air 0 = .ok (.aload_n 0, 1) := by decide +kernel
theorem dX8_air_1 : decode cX8_air 1 = .ok (.iload_n 1, 1) := by decide +kernel
theorem dX8_air_2 : decode cX8_air 2 = .ok (.iload_n 2, 1) := by decide +kernel
theorem dX8_air_3 : decode cX8_air 3 = .ok (.invokevirtual 371, 3) := by decide +kernel
theorem dX8_air_6 : decode cX8_air 6 = .ok (.istore_n 3, 1) := by decide +kernel
theorem dX8_air_7 : decode cX8_air 7 = .ok (.iload_n 3, 1) := by decide +kernel
theorem dX8_air_8 : decode cX8_air 8 = .ok (.ifCond .eq 5, 3) := by decide +kernel
theorem dX8_air_11 : decode cX8_air 11 = .ok (.iload_n 3, 1) := by decide +kernel
theorem dX8_air_12 : decode cX8_air 12 = .ok (.ireturn, 1) := by decide +kernel
theorem dX8_air_13 : decode cX8_air 13 = .ok (.aload_n 0, 1) := by decide +kernel
theorem dX8_air_14 : decode cX8_air 14 = .ok (.getfield 32, 3) := by decide +kernel
theorem dX8_air_17 : decode cX8_air 17 = .ok (.iconst 1, 1) := by decide +kernel
theorem dX8_air_18 : decode cX8_air 18 = .ok (.iload_n 1, 1) := by decide +kernel
theorem dX8_air_19 : decode cX8_air 19 = .ok (.iload_n 2, 1) := by decide +kernel
theorem dX8_air_20 : decode cX8_air 20 = .ok (.invokevirtual 374, 3) := by decide +kernel
theorem dX8_air_23 : decode cX8_air 23 = .ok (.aload_n 0, 1) := by decide +kernel
theorem dX8_air_24 : decode cX8_air 24 = .ok (.invokevirtual 115, 3) := by decide +kernel
theorem dX8_air_27 : decode cX8_air 27 = .ok (.aload_n 0, 1) := by decide +kernel
theorem dX8_air_28 : decode cX8_air 28 = .ok (.invokevirtual 189, 3) := by decide +kernel
theorem dX8_air_31 : decode cX8_air 31 = .ok (.iload_n 1, 1) := by decide +kernel
theorem dX8_air_32 : decode cX8_air 32 = .ok (.aload_n 0, 1) := by decide +kernel
theorem dX8_air_33 : decode cX8_air 33 = .ok (.getfield 32, 3) := by decide +kernel
theorem dX8_air_36 : decode cX8_air 36 = .ok (.getfield 168, 3) := by decide +kernel
theorem dX8_air_39 : decode cX8_air 39 = .ok (.invokevirtual 193, 3) := by decide +kernel
theorem dX8_air_42 : decode cX8_air 42 = .ok (.ireturn, 1) := by decide +kernel

theorem dX8_all_0 : decode cX8_all 0 = .ok (.aload_n 0, 1) := by decide +kernel
theorem dX8_all_1 : decode cX8_all 1 = .ok (.getfield 32, 3) := by decide +kernel
theorem dX8_all_4 : decode cX8_all 4 = .ok (.invokevirtual 153, 3) := by decide +kernel
theorem dX8_all_7 : decode cX8_all 7 = .ok (.ifCond .eq 13, 3) := by decide +kernel
theorem dX8_all_10 : decode cX8_all 10 = .ok (.aload_n 0, 1) := by decide +kernel
theorem dX8_all_11 : decode cX8_all 11 = .ok (.invokevirtual 189, 3) := by decide +kernel
theorem dX8_all_14 : decode cX8_all 14 = .ok (.invokevirtual 217, 3) := by decide +kernel
theorem dX8_all_17 : decode cX8_all 17 = .ok (.goto 5, 3) := by decide +kernel
theorem dX8_all_20 : decode cX8_all 20 = .ok (.bipush (-2), 2) := by decide +kernel
theorem dX8_all_22 : decode cX8_all 22 = .ok (.ireturn, 1) := by decide +kernel

theorem dX8_anew_0 : decode cX8_anew 0 = .ok (.aload_n 0, 1) := by decide +kernel
theorem dX8_anew_1 : decode cX8_anew 1 = .ok (.getfield 32, 3) := by decide +kernel
theorem dX8_anew_4 : decode cX8_anew 4 = .ok (.invokevirtual 153, 3) := by decide +kernel
theorem dX8_anew_7 : decode cX8_anew 7 = .ok (.ifCond .ne 6, 3) := by decide +kernel
theorem dX8_anew_10 : decode cX8_anew 10 = .ok (.bipush (-2), 2) := by decide +kernel
theorem dX8_anew_12 : decode cX8_anew 12 = .ok (.ireturn, 1) := by decide +kernel
theorem dX8_anew_13 : decode cX8_anew 13 = .ok (.aload_n 0, 1) := by decide +kernel
theorem dX8_anew_14 : decode cX8_anew 14 = .ok (.getfield 32, 3) := by decide +kernel
theorem dX8_anew_17 : decode cX8_anew 17 = .ok (.getfield 179, 3) := by decide +kernel
theorem dX8_anew_20 : decode cX8_anew 20 = .ok (.istore_n 1, 1) := by decide +kernel
theorem dX8_anew_21 : decode cX8_anew 21 = .ok (.aload_n 0, 1) := by decide +kernel
theorem dX8_anew_22 : decode cX8_anew 22 = .ok (.getfield 32, 3) := by decide +kernel
theorem dX8_anew_25 : decode cX8_anew 25 = .ok (.iconst 0, 1) := by decide +kernel
theorem dX8_anew_26 : decode cX8_anew 26 = .ok (.putfield 179, 3) := by decide +kernel
theorem dX8_anew_29 : decode cX8_anew 29 = .ok (.aload_n 0, 1) := by decide +kernel
theorem dX8_anew_30 : decode cX8_anew 30 = .ok (.invokevirtual 115, 3) := by decide +kernel
theorem dX8_anew_33 : decode cX8_anew 33 = .ok (.iload_n 1, 1) := by decide +kernel
theorem dX8_anew_34 : decode cX8_anew 34 = .ok (.ireturn, 1) := by decide +kernel

theorem dX8_ask_0 : decode cX8_ask 0 = .ok (.aload_n 0, 1) := by decide +kernel
theorem dX8_ask_1 : decode cX8_ask 1 = .ok (.iload_n 1, 1) := by decide +kernel
theorem dX8_ask_2 : decode cX8_ask 2 = .ok (.iload_n 2, 1) := by decide +kernel
theorem dX8_ask_3 : decode cX8_ask 3 = .ok (.invokevirtual 289, 3) := by decide +kernel
theorem dX8_ask_6 : decode cX8_ask 6 = .ok (.istore_n 3, 1) := by decide +kernel
theorem dX8_ask_7 : decode cX8_ask 7 = .ok (.iload_n 3, 1) := by decide +kernel
theorem dX8_ask_8 : decode cX8_ask 8 = .ok (.ifCond .eq 5, 3) := by decide +kernel
theorem dX8_ask_11 : decode cX8_ask 11 = .ok (.iload_n 3, 1) := by decide +kernel
theorem dX8_ask_12 : decode cX8_ask 12 = .ok (.ireturn, 1) := by decide +kernel
theorem dX8_ask_13 : decode cX8_ask 13 = .ok (.aload_n 0, 1) := by decide +kernel
theorem dX8_ask_14 : decode cX8_ask 14 = .ok (.getfield 83, 3) := by decide +kernel
theorem dX8_ask_17 : decode cX8_ask 17 = .ok (.iload_n 1, 1) := by decide +kernel
theorem dX8_ask_18 : decode cX8_ask 18 = .ok (.iload_n 2, 1) := by decide +kernel
theorem dX8_ask_19 : decode cX8_ask 19 = .ok (.aload_n 0, 1) := by decide +kernel
theorem dX8_ask_20 : decode cX8_ask 20 = .ok (.invokevirtual 189, 3) := by decide +kernel
theorem dX8_ask_23 : decode cX8_ask 23 = .ok (.invokevirtual 302, 3) := by decide +kernel
theorem dX8_ask_26 : decode cX8_ask 26 = .ok (.aload_n 0, 1) := by decide +kernel
theorem dX8_ask_27 : decode cX8_ask 27 = .ok (.getfield 83, 3) := by decide +kernel
theorem dX8_ask_30 : decode cX8_ask 30 = .ok (.getfield 306, 3) := by decide +kernel
theorem dX8_ask_33 : decode cX8_ask 33 = .ok (.ireturn, 1) := by decide +kernel

theorem dX8_back_0 : decode cX8_back 0 = .ok (.iload_n 1, 1) := by decide +kernel
theorem dX8_back_1 : decode cX8_back 1 = .ok (.ifCond .lt 8, 3) := by decide +kernel
theorem dX8_back_4 : decode cX8_back 4 = .ok (.iload_n 1, 1) := by decide +kernel
theorem dX8_back_5 : decode cX8_back 5 = .ok (.iconst 3, 1) := by decide +kernel
theorem dX8_back_6 : decode cX8_back 6 = .ok (.if_icmp .lt 6, 3) := by decide +kernel
theorem dX8_back_9 : decode cX8_back 9 = .ok (.bipush (-2), 2) := by decide +kernel
theorem dX8_back_11 : decode cX8_back 11 = .ok (.ireturn, 1) := by decide +kernel
theorem dX8_back_12 : decode cX8_back 12 = .ok (.aload_n 0, 1) := by decide +kernel
theorem dX8_back_13 : decode cX8_back 13 = .ok (.getfield 39, 3) := by decide +kernel
theorem dX8_back_16 : decode cX8_back 16 = .ok (.iload_n 1, 1) := by decide +kernel
theorem dX8_back_17 : decode cX8_back 17 = .ok (.baload, 1) := by decide +kernel
theorem dX8_back_18 : decode cX8_back 18 = .ok (.ifCond .ne 6, 3) := by decide +kernel
theorem dX8_back_21 : decode cX8_back 21 = .ok (.bipush (-6), 2) := by decide +kernel
theorem dX8_back_23 : decode cX8_back 23 = .ok (.ireturn, 1) := by decide +kernel
theorem dX8_back_24 : decode cX8_back 24 = .ok (.aload_n 0, 1) := by decide +kernel
theorem dX8_back_25 : decode cX8_back 25 = .ok (.getfield 32, 3) := by decide +kernel
theorem dX8_back_28 : decode cX8_back 28 = .ok (.aload_n 0, 1) := by decide +kernel
theorem dX8_back_29 : decode cX8_back 29 = .ok (.getfield 35, 3) := by decide +kernel
theorem dX8_back_32 : decode cX8_back 32 = .ok (.iload_n 1, 1) := by decide +kernel
theorem dX8_back_33 : decode cX8_back 33 = .ok (.aaload, 1) := by decide +kernel
theorem dX8_back_34 : decode cX8_back 34 = .ok (.invokevirtual 112, 3) := by decide +kernel
theorem dX8_back_37 : decode cX8_back 37 = .ok (.aload_n 0, 1) := by decide +kernel
theorem dX8_back_38 : decode cX8_back 38 = .ok (.invokevirtual 115, 3) := by decide +kernel
theorem dX8_back_41 : decode cX8_back 41 = .ok (.iconst 0, 1) := by decide +kernel
theorem dX8_back_42 : decode cX8_back 42 = .ok (.ireturn, 1) := by decide +kernel

theorem dX8_best_0 : decode cX8_best 0 = .ok (.aload_n 0, 1) := by decide +kernel
theorem dX8_best_1 : decode cX8_best 1 = .ok (.getfield 32, 3) := by decide +kernel
theorem dX8_best_4 : decode cX8_best 4 = .ok (.iload_n 1, 1) := by decide +kernel
theorem dX8_best_5 : decode cX8_best 5 = .ok (.invokevirtual 127, 3) := by decide +kernel
theorem dX8_best_8 : decode cX8_best 8 = .ok (.ifCond .ne 6, 3) := by decide +kernel
theorem dX8_best_11 : decode cX8_best 11 = .ok (.bipush (-2), 2) := by decide +kernel
theorem dX8_best_13 : decode cX8_best 13 = .ok (.ireturn, 1) := by decide +kernel
theorem dX8_best_14 : decode cX8_best 14 = .ok (.iconst 0, 1) := by decide +kernel
theorem dX8_best_15 : decode cX8_best 15 = .ok (.istore_n 2, 1) := by decide +kernel
theorem dX8_best_16 : decode cX8_best 16 = .ok (.iconst 0, 1) := by decide +kernel
theorem dX8_best_17 : decode cX8_best 17 = .ok (.istore_n 3, 1) := by decide +kernel
theorem dX8_best_18 : decode cX8_best 18 = .ok (.iload_n 3, 1) := by decide +kernel
theorem dX8_best_19 : decode cX8_best 19 = .ok (.aload_n 0, 1) := by decide +kernel
theorem dX8_best_20 : decode cX8_best 20 = .ok (.getfield 32, 3) := by decide +kernel
theorem dX8_best_23 : decode cX8_best 23 = .ok (.getfield 168, 3) := by decide +kernel
theorem dX8_best_26 : decode cX8_best 26 = .ok (.if_icmp .gt 23, 3) := by decide +kernel
theorem dX8_best_29 : decode cX8_best 29 = .ok (.iload_n 2, 1) := by decide +kernel
theorem dX8_best_30 : decode cX8_best 30 = .ok (.aload_n 0, 1) := by decide +kernel
theorem dX8_best_31 : decode cX8_best 31 = .ok (.invokevirtual 189, 3) := by decide +kernel
theorem dX8_best_34 : decode cX8_best 34 = .ok (.iload_n 1, 1) := by decide +kernel
theorem dX8_best_35 : decode cX8_best 35 = .ok (.iload_n 3, 1) := by decide +kernel
theorem dX8_best_36 : decode cX8_best 36 = .ok (.invokevirtual 220, 3) := by decide +kernel
theorem dX8_best_39 : decode cX8_best 39 = .ok (.invokestatic 223, 3) := by decide +kernel
theorem dX8_best_42 : decode cX8_best 42 = .ok (.istore_n 2, 1) := by decide +kernel
theorem dX8_best_43 : decode cX8_best 43 = .ok (.iinc 3 1, 3) := by decide +kernel
theorem dX8_best_46 : decode cX8_best 46 = .ok (.goto (-28), 3) := by decide +kernel
theorem dX8_best_49 : decode cX8_best 49 = .ok (.iload_n 2, 1) := by decide +kernel
theorem dX8_best_50 : decode cX8_best 50 = .ok (.ireturn, 1) := by decide +kernel

theorem dX8_blunt_0 : decode cX8_blunt 0 = .ok (.aload_n 0, 1) := by decide +kernel
theorem dX8_blunt_1 : decode cX8_blunt 1 = .ok (.getfield 32, 3) := by decide +kernel
theorem dX8_blunt_4 : decode cX8_blunt 4 = .ok (.invokevirtual 153, 3) := by decide +kernel
theorem dX8_blunt_7 : decode cX8_blunt 7 = .ok (.ifCond .ne 6, 3) := by decide +kernel
theorem dX8_blunt_10 : decode cX8_blunt 10 = .ok (.bipush (-2), 2) := by decide +kernel
theorem dX8_blunt_12 : decode cX8_blunt 12 = .ok (.ireturn, 1) := by decide +kernel
theorem dX8_blunt_13 : decode cX8_blunt 13 = .ok (.iconst (-1), 1) := by decide +kernel
theorem dX8_blunt_14 : decode cX8_blunt 14 = .ok (.istore_n 1, 1) := by decide +kernel
theorem dX8_blunt_15 : decode cX8_blunt 15 = .ok (.aload_n 0, 1) := by decide +kernel
theorem dX8_blunt_16 : decode cX8_blunt 16 = .ok (.invokevirtual 189, 3) := by decide +kernel
theorem dX8_blunt_19 : decode cX8_blunt 19 = .ok (.invokevirtual 217, 3) := by decide +kernel
theorem dX8_blunt_22 : decode cX8_blunt 22 = .ok (.istore_n 2, 1) := by decide +kernel
theorem dX8_blunt_23 : decode cX8_blunt 23 = .ok (.iconst 0, 1) := by decide +kernel
theorem dX8_blunt_24 : decode cX8_blunt 24 = .ok (.istore_n 3, 1) := by decide +kernel
theorem dX8_blunt_25 : decode cX8_blunt 25 = .ok (.iload_n 3, 1) := by decide +kernel
theorem dX8_blunt_26 : decode cX8_blunt 26 = .ok (.aload_n 0, 1) := by decide +kernel
theorem dX8_blunt_27 : decode cX8_blunt 27 = .ok (.getfield 32, 3) := by decide +kernel
theorem dX8_blunt_30 : decode cX8_blunt 30 = .ok (.getfield 162, 3) := by decide +kernel
theorem dX8_blunt_33 : decode cX8_blunt 33 = .ok (.if_icmp .ge 46, 3) := by decide +kernel
theorem dX8_blunt_36 : decode cX8_blunt 36 = .ok (.aload_n 0, 1) := by decide +kernel
theorem dX8_blunt_37 : decode cX8_blunt 37 = .ok (.aload_n 0, 1) := by decide +kernel
theorem dX8_blunt_38 : decode cX8_blunt 38 = .ok (.getfield 32, 3) := by decide +kernel
theorem dX8_blunt_41 : decode cX8_blunt 41 = .ok (.invokevirtual 315, 3) := by decide +kernel
theorem dX8_blunt_44 : decode cX8_blunt 44 = .ok (.iconst 1, 1) := by decide +kernel
theorem dX8_blunt_45 : decode cX8_blunt 45 = .ok (.iload_n 3, 1) := by decide +kernel
theorem dX8_blunt_46 : decode cX8_blunt 46 = .ok (.ishl, 1) := by decide +kernel
theorem dX8_blunt_47 : decode cX8_blunt 47 = .ok (.iconst (-1), 1) := by decide +kernel
theorem dX8_blunt_48 : decode cX8_blunt 48 = .ok (.ixor, 1) := by decide +kernel
theorem dX8_blunt_49 : decode cX8_blunt 49 = .ok (.iand, 1) := by decide +kernel
theorem dX8_blunt_50 : decode cX8_blunt 50 = .ok (.invokevirtual 318, 3) := by decide +kernel
theorem dX8_blunt_53 : decode cX8_blunt 53 = .ok (.aload_n 0, 1) := by decide +kernel
theorem dX8_blunt_54 : decode cX8_blunt 54 = .ok (.getfield 59, 3) := by decide +kernel
theorem dX8_blunt_57 : decode cX8_blunt 57 = .ok (.invokevirtual 217, 3) := by decide +kernel
theorem dX8_blunt_60 : decode cX8_blunt 60 = .ok (.istore 4, 2) := by decide +kernel
theorem dX8_blunt_62 : decode cX8_blunt 62 = .ok (.iload 4, 2) := by decide +kernel
theorem dX8_blunt_64 : decode cX8_blunt 64 = .ok (.iload_n 2, 1) := by decide +kernel
theorem dX8_blunt_65 : decode cX8_blunt 65 = .ok (.if_icmp .le 8, 3) := by decide +kernel
theorem dX8_blunt_68 : decode cX8_blunt 68 = .ok (.iload 4, 2) := by decide +kernel
theorem dX8_blunt_70 : decode cX8_blunt 70 = .ok (.istore_n 2, 1) := by decide +kernel
theorem dX8_blunt_71 : decode cX8_blunt 71 = .ok (.iload_n 3, 1) := by decide +kernel
theorem dX8_blunt_72 : decode cX8_blunt 72 = .ok (.istore_n 1, 1) := by decide +kernel
theorem dX8_blunt_73 : decode cX8_blunt 73 = .ok (.iinc 3 1, 3) := by decide +kernel
theorem dX8_blunt_76 : decode cX8_blunt 76 = .ok (.goto (-51), 3) := by decide +kernel
theorem dX8_blunt_79 : decode cX8_blunt 79 = .ok (.iload_n 1, 1) := by decide +kernel
theorem dX8_blunt_80 : decode cX8_blunt 80 = .ok (.ireturn, 1) := by decide +kernel

theorem dX8_by_0 : decode cX8_by 0 = .ok (.aload_n 0, 1) := by decide +kernel
theorem dX8_by_1 : decode cX8_by 1 = .ok (.getfield 32, 3) := by decide +kernel
theorem dX8_by_4 : decode cX8_by 4 = .ok (.invokevirtual 153, 3) := by decide +kernel
theorem dX8_by_7 : decode cX8_by 7 = .ok (.ifCond .eq 20, 3) := by decide +kernel
theorem dX8_by_10 : decode cX8_by 10 = .ok (.iload_n 1, 1) := by decide +kernel
theorem dX8_by_11 : decode cX8_by 11 = .ok (.ifCond .lt 16, 3) := by decide +kernel
theorem dX8_by_14 : decode cX8_by 14 = .ok (.iload_n 1, 1) := by decide +kernel
theorem dX8_by_15 : decode cX8_by 15 = .ok (.iconst 4, 1) := by decide +kernel
theorem dX8_by_16 : decode cX8_by 16 = .ok (.if_icmp .ge 11, 3) := by decide +kernel
theorem dX8_by_19 : decode cX8_by 19 = .ok (.aload_n 0, 1) := by decide +kernel
theorem dX8_by_20 : decode cX8_by 20 = .ok (.iload_n 1, 1) := by decide +kernel
theorem dX8_by_21 : decode cX8_by 21 = .ok (.invokevirtual 326, 3) := by decide +kernel
theorem dX8_by_24 : decode cX8_by 24 = .ok (.goto 5, 3) := by decide +kernel
theorem dX8_by_27 : decode cX8_by 27 = .ok (.bipush (-2), 2) := by decide +kernel
theorem dX8_by_29 : decode cX8_by 29 = .ok (.ireturn, 1) := by decide +kernel

theorem dX8_chance_0 : decode cX8_chance 0 = .ok (.aload_n 0, 1) := by decide +kernel
theorem dX8_chance_1 : decode cX8_chance 1 = .ok (.getfield 32, 3) := by decide +kernel
theorem dX8_chance_4 : decode cX8_chance 4 = .ok (.iload_n 1, 1) := by decide +kernel
theorem dX8_chance_5 : decode cX8_chance 5 = .ok (.invokevirtual 127, 3) := by decide +kernel
theorem dX8_chance_8 : decode cX8_chance 8 = .ok (.ifCond .eq 10, 3) := by decide +kernel
theorem dX8_chance_11 : decode cX8_chance 11 = .ok (.iload_n 2, 1) := by decide +kernel
theorem dX8_chance_12 : decode cX8_chance 12 = .ok (.invokestatic 263, 3) := by decide +kernel
theorem dX8_chance_15 : decode cX8_chance 15 = .ok (.ifCond .ne 6, 3) := by decide +kernel
theorem dX8_chance_18 : decode cX8_chance 18 = .ok (.bipush (-2), 2) := by decide +kernel
theorem dX8_chance_20 : decode cX8_chance 20 = .ok (.ireturn, 1) := by decide +kernel
theorem dX8_chance_21 : decode cX8_chance 21 = .ok (.aload_n 0, 1) := by decide +kernel
theorem dX8_chance_22 : decode cX8_chance 22 = .ok (.invokevirtual 348, 3) := by decide +kernel
theorem dX8_chance_25 : decode cX8_chance 25 = .ok (.aload_n 0, 1) := by decide +kernel
theorem dX8_chance_26 : decode cX8_chance 26 = .ok (.getfield 74, 3) := by decide +kernel
theorem dX8_chance_29 : decode cX8_chance 29 = .ok (.getfield 351, 3) := by decide +kernel
theorem dX8_chance_32 : decode cX8_chance 32 = .ok (.iload_n 1, 1) := by decide +kernel
theorem dX8_chance_33 : decode cX8_chance 33 = .ok (.laload, 1) := by decide +kernel
theorem dX8_chance_34 : decode cX8_chance 34 = .ok (.aload_n 0, 1) := by decide +kernel
theorem dX8_chance_35 : decode cX8_chance 35 = .ok (.getfield 74, 3) := by decide +kernel
theorem dX8_chance_38 : decode cX8_chance 38 = .ok (.getfield 355, 3) := by decide +kernel
theorem dX8_chance_41 : decode cX8_chance 41 = .ok (.iload_n 2, 1) := by decide +kernel
theorem dX8_chance_42 : decode cX8_chance 42 = .ok (.invokestatic 270, 3) := by decide +kernel
theorem dX8_chance_45 : decode cX8_chance 45 = .ok (.l2i, 1) := by decide +kernel
theorem dX8_chance_46 : decode cX8_chance 46 = .ok (.ireturn, 1) := by decide +kernel

theorem dX8_charms_0 : decode cX8_charms 0 = .ok (.aload_n 0, 1) := by decide +kernel
theorem dX8_charms_1 : decode cX8_charms 1 = .ok (.getfield 32, 3) := by decide +kernel
theorem dX8_charms_4 : decode cX8_charms 4 = .ok (.invokevirtual 153, 3) := by decide +kernel
theorem dX8_charms_7 : decode cX8_charms 7 = .ok (.ifCond .ne 6, 3) := by decide +kernel
theorem dX8_charms_10 : decode cX8_charms 10 = .ok (.bipush (-2), 2) := by decide +kernel
theorem dX8_charms_12 : decode cX8_charms 12 = .ok (.ireturn, 1) := by decide +kernel
theorem dX8_charms_13 : decode cX8_charms 13 = .ok (.aload_n 0, 1) := by decide +kernel
theorem dX8_charms_14 : decode cX8_charms 14 = .ok (.invokevirtual 240, 3) := by decide +kernel
theorem dX8_charms_17 : decode cX8_charms 17 = .ok (.istore_n 1, 1) := by decide +kernel
theorem dX8_charms_18 : decode cX8_charms 18 = .ok (.iconst 0, 1) := by decide +kernel
theorem dX8_charms_19 : decode cX8_charms 19 = .ok (.istore_n 2, 1) := by decide +kernel
theorem dX8_charms_20 : decode cX8_charms 20 = .ok (.iconst 0, 1) := by decide +kernel
theorem dX8_charms_21 : decode cX8_charms 21 = .ok (.istore_n 3, 1) := by decide +kernel
theorem dX8_charms_22 : decode cX8_charms 22 = .ok (.iload_n 3, 1) := by decide +kernel
theorem dX8_charms_23 : decode cX8_charms 23 = .ok (.aload_n 0, 1) := by decide +kernel
theorem dX8_charms_24 : decode cX8_charms 24 = .ok (.getfield 32, 3) := by decide +kernel
theorem dX8_charms_27 : decode cX8_charms 27 = .ok (.getfield 156, 3) := by decide +kernel
theorem dX8_charms_30 : decode cX8_charms 30 = .ok (.if_icmp .ge 33, 3) := by decide +kernel
theorem dX8_charms_33 : decode cX8_charms 33 = .ok (.iload_n 2, 1) := by decide +kernel
theorem dX8_charms_34 : decode cX8_charms 34 = .ok (.iload_n 1, 1) := by decide +kernel
theorem dX8_charms_35 : decode cX8_charms 35 = .ok (.iload_n 3, 1) := by decide +kernel
theorem dX8_charms_36 : decode cX8_charms 36 = .ok (.invokestatic 145, 3) := by decide +kernel
theorem dX8_charms_39 : decode cX8_charms 39 = .ok (.ifCond .eq 15, 3) := by decide +kernel
theorem dX8_charms_42 : decode cX8_charms 42 = .ok (.aload_n 0, 1) := by decide +kernel
theorem dX8_charms_43 : decode cX8_charms 43 = .ok (.getfield 32, 3) := by decide +kernel
theorem dX8_charms_46 : decode cX8_charms 46 = .ok (.getfield 131, 3) := by decide +kernel
theorem dX8_charms_49 : decode cX8_charms 49 = .ok (.iload_n 3, 1) := by decide +kernel
theorem dX8_charms_50 : decode cX8_charms 50 = .ok (.iaload, 1) := by decide +kernel
theorem dX8_charms_51 : decode cX8_charms 51 = .ok (.goto 4, 3) := by decide +kernel
theorem dX8_charms_54 : decode cX8_charms 54 = .ok (.iconst 0, 1) := by decide +kernel
theorem dX8_charms_55 : decode cX8_charms 55 = .ok (.iadd, 1) := by decide +kernel
theorem dX8_charms_56 : decode cX8_charms 56 = .ok (.istore_n 2, 1) := by decide +kernel
theorem dX8_charms_57 : decode cX8_charms 57 = .ok (.iinc 3 1, 3) := by decide +kernel
theorem dX8_charms_60 : decode cX8_charms 60 = .ok (.goto (-38), 3) := by decide +kernel
theorem dX8_charms_63 : decode cX8_charms 63 = .ok (.iload_n 2, 1) := by decide +kernel
theorem dX8_charms_64 : decode cX8_charms 64 = .ok (.ireturn, 1) := by decide +kernel

theorem dX8_count_0 : decode cX8_count 0 = .ok (.iload_n 1, 1) := by decide +kernel
theorem dX8_count_1 : decode cX8_count 1 = .ok (.tableswitch 135 0 9 #[55, 63, 71, 79, 87, 95, 103, 111, 119, 127], 55) := by decide +kernel
theorem dX8_count_56 : decode cX8_count 56 = .ok (.aload_n 0, 1) := by decide +kernel
theorem dX8_count_57 : decode cX8_count 57 = .ok (.getfield 32, 3) := by decide +kernel
theorem dX8_count_60 : decode cX8_count 60 = .ok (.getfield 168, 3) := by decide +kernel
theorem dX8_count_63 : decode cX8_count 63 = .ok (.ireturn, 1) := by decide +kernel
theorem dX8_count_64 : decode cX8_count 64 = .ok (.aload_n 0, 1) := by decide +kernel
theorem dX8_count_65 : decode cX8_count 65 = .ok (.getfield 32, 3) := by decide +kernel
theorem dX8_count_68 : decode cX8_count 68 = .ok (.getfield 171, 3) := by decide +kernel
theorem dX8_count_71 : decode cX8_count 71 = .ok (.ireturn, 1) := by decide +kernel
theorem dX8_count_72 : decode cX8_count 72 = .ok (.aload_n 0, 1) := by decide +kernel
theorem dX8_count_73 : decode cX8_count 73 = .ok (.getfield 32, 3) := by decide +kernel
theorem dX8_count_76 : decode cX8_count 76 = .ok (.getfield 174, 3) := by decide +kernel
theorem dX8_count_79 : decode cX8_count 79 = .ok (.ireturn, 1) := by decide +kernel
theorem dX8_count_80 : decode cX8_count 80 = .ok (.aload_n 0, 1) := by decide +kernel
theorem dX8_count_81 : decode cX8_count 81 = .ok (.getfield 32, 3) := by decide +kernel
theorem dX8_count_84 : decode cX8_count 84 = .ok (.getfield 156, 3) := by decide +kernel
theorem dX8_count_87 : decode cX8_count 87 = .ok (.ireturn, 1) := by decide +kernel
theorem dX8_count_88 : decode cX8_count 88 = .ok (.aload_n 0, 1) := by decide +kernel
theorem dX8_count_89 : decode cX8_count 89 = .ok (.getfield 32, 3) := by decide +kernel
theorem dX8_count_92 : decode cX8_count 92 = .ok (.getfield 176, 3) := by decide +kernel
theorem dX8_count_95 : decode cX8_count 95 = .ok (.ireturn, 1) := by decide +kernel
theorem dX8_count_96 : decode cX8_count 96 = .ok (.aload_n 0, 1) := by decide +kernel
theorem dX8_count_97 : decode cX8_count 97 = .ok (.getfield 32, 3) := by decide +kernel
theorem dX8_count_100 : decode cX8_count 100 = .ok (.getfield 162, 3) := by decide +kernel
theorem dX8_count_103 : decode cX8_count 103 = .ok (.ireturn, 1) := by decide +kernel
theorem dX8_count_104 : decode cX8_count 104 = .ok (.aload_n 0, 1) := by decide +kernel
theorem dX8_count_105 : decode cX8_count 105 = .ok (.getfield 32, 3) := by decide +kernel
theorem dX8_count_108 : decode cX8_count 108 = .ok (.getfield 179, 3) := by decide +kernel
theorem dX8_count_111 : decode cX8_count 111 = .ok (.ireturn, 1) := by decide +kernel
theorem dX8_count_112 : decode cX8_count 112 = .ok (.aload_n 0, 1) := by decide +kernel
theorem dX8_count_113 : decode cX8_count 113 = .ok (.getfield 32, 3) := by decide +kernel
theorem dX8_count_116 : decode cX8_count 116 = .ok (.getfield 118, 3) := by decide +kernel
theorem dX8_count_119 : decode cX8_count 119 = .ok (.ireturn, 1) := by decide +kernel
theorem dX8_count_120 : decode cX8_count 120 = .ok (.aload_n 0, 1) := by decide +kernel
theorem dX8_count_121 : decode cX8_count 121 = .ok (.getfield 10, 3) := by decide +kernel
theorem dX8_count_124 : decode cX8_count 124 = .ok (.getfield 106, 3) := by decide +kernel
theorem dX8_count_127 : decode cX8_count 127 = .ok (.ireturn, 1) := by decide +kernel
theorem dX8_count_128 : decode cX8_count 128 = .ok (.aload_n 0, 1) := by decide +kernel
theorem dX8_count_129 : decode cX8_count 129 = .ok (.getfield 46, 3) := by decide +kernel
theorem dX8_count_132 : decode cX8_count 132 = .ok (.invokevirtual 182, 3) := by decide +kernel
theorem dX8_count_135 : decode cX8_count 135 = .ok (.ireturn, 1) := by decide +kernel
theorem dX8_count_136 : decode cX8_count 136 = .ok (.iconst (-1), 1) := by decide +kernel
theorem dX8_count_137 : decode cX8_count 137 = .ok (.ireturn, 1) := by decide +kernel

theorem dX8_cut_0 : decode cX8_cut 0 = .ok (.aload_n 0, 1) := by decide +kernel
theorem dX8_cut_1 : decode cX8_cut 1 = .ok (.getfield 32, 3) := by decide +kernel
theorem dX8_cut_4 : decode cX8_cut 4 = .ok (.iload_n 1, 1) := by decide +kernel
theorem dX8_cut_5 : decode cX8_cut 5 = .ok (.invokevirtual 196, 3) := by decide +kernel
theorem dX8_cut_8 : decode cX8_cut 8 = .ok (.ifCond .ne 6, 3) := by decide +kernel
theorem dX8_cut_11 : decode cX8_cut 11 = .ok (.bipush (-2), 2) := by decide +kernel
theorem dX8_cut_13 : decode cX8_cut 13 = .ok (.ireturn, 1) := by decide +kernel
theorem dX8_cut_14 : decode cX8_cut 14 = .ok (.aload_n 0, 1) := by decide +kernel
theorem dX8_cut_15 : decode cX8_cut 15 = .ok (.invokevirtual 189, 3) := by decide +kernel
theorem dX8_cut_18 : decode cX8_cut 18 = .ok (.iload_n 1, 1) := by decide +kernel
theorem dX8_cut_19 : decode cX8_cut 19 = .ok (.invokevirtual 199, 3) := by decide +kernel
theorem dX8_cut_22 : decode cX8_cut 22 = .ok (.istore_n 2, 1) := by decide +kernel
theorem dX8_cut_23 : decode cX8_cut 23 = .ok (.iconst 0, 1) := by decide +kernel
theorem dX8_cut_24 : decode cX8_cut 24 = .ok (.istore_n 3, 1) := by decide +kernel
theorem dX8_cut_25 : decode cX8_cut 25 = .ok (.iconst 0, 1) := by decide +kernel
theorem dX8_cut_26 : decode cX8_cut 26 = .ok (.istore 4, 2) := by decide +kernel
theorem dX8_cut_28 : decode cX8_cut 28 = .ok (.iload 4, 2) := by decide +kernel
theorem dX8_cut_30 : decode cX8_cut 30 = .ok (.aload_n 0, 1) := by decide +kernel
theorem dX8_cut_31 : decode cX8_cut 31 = .ok (.getfield 32, 3) := by decide +kernel
theorem dX8_cut_34 : decode cX8_cut 34 = .ok (.getfield 176, 3) := by decide +kernel
theorem dX8_cut_37 : decode cX8_cut 37 = .ok (.if_icmp .ge 50, 3) := by decide +kernel
theorem dX8_cut_40 : decode cX8_cut 40 = .ok (.iload_n 2, 1) := by decide +kernel
theorem dX8_cut_41 : decode cX8_cut 41 = .ok (.aload_n 0, 1) := by decide +kernel
theorem dX8_cut_42 : decode cX8_cut 42 = .ok (.getfield 32, 3) := by decide +kernel
theorem dX8_cut_45 : decode cX8_cut 45 = .ok (.getfield 228, 3) := by decide +kernel
theorem dX8_cut_48 : decode cX8_cut 48 = .ok (.iload 4, 2) := by decide +kernel
theorem dX8_cut_50 : decode cX8_cut 50 = .ok (.iaload, 1) := by decide +kernel
theorem dX8_cut_51 : decode cX8_cut 51 = .ok (.invokestatic 145, 3) := by decide +kernel
theorem dX8_cut_54 : decode cX8_cut 54 = .ok (.ifCond .ne 20, 3) := by decide +kernel
theorem dX8_cut_57 : decode cX8_cut 57 = .ok (.iload_n 2, 1) := by decide +kernel
theorem dX8_cut_58 : decode cX8_cut 58 = .ok (.aload_n 0, 1) := by decide +kernel
theorem dX8_cut_59 : decode cX8_cut 59 = .ok (.getfield 32, 3) := by decide +kernel
theorem dX8_cut_62 : decode cX8_cut 62 = .ok (.getfield 231, 3) := by decide +kernel
theorem dX8_cut_65 : decode cX8_cut 65 = .ok (.iload 4, 2) := by decide +kernel
theorem dX8_cut_67 : decode cX8_cut 67 = .ok (.iaload, 1) := by decide +kernel
theorem dX8_cut_68 : decode cX8_cut 68 = .ok (.invokestatic 145, 3) := by decide +kernel
theorem dX8_cut_71 : decode cX8_cut 71 = .ok (.ifCond .eq 10, 3) := by decide +kernel
theorem dX8_cut_74 : decode cX8_cut 74 = .ok (.iload_n 3, 1) := by decide +kernel
theorem dX8_cut_75 : decode cX8_cut 75 = .ok (.iconst 1, 1) := by decide +kernel
theorem dX8_cut_76 : decode cX8_cut 76 = .ok (.iload 4, 2) := by decide +kernel
theorem dX8_cut_78 : decode cX8_cut 78 = .ok (.ishl, 1) := by decide +kernel
theorem dX8_cut_79 : decode cX8_cut 79 = .ok (.ior, 1) := by decide +kernel
theorem dX8_cut_80 : decode cX8_cut 80 = .ok (.istore_n 3, 1) := by decide +kernel
theorem dX8_cut_81 : decode cX8_cut 81 = .ok (.iinc 4 1, 3) := by decide +kernel
theorem dX8_cut_84 : decode cX8_cut 84 = .ok (.goto (-56), 3) := by decide +kernel
theorem dX8_cut_87 : decode cX8_cut 87 = .ok (.iload_n 3, 1) := by decide +kernel
theorem dX8_cut_88 : decode cX8_cut 88 = .ok (.ireturn, 1) := by decide +kernel

theorem dX8_dies_0 : decode cX8_dies 0 = .ok (.aload_n 0, 1) := by decide +kernel
theorem dX8_dies_1 : decode cX8_dies 1 = .ok (.getfield 32, 3) := by decide +kernel
theorem dX8_dies_4 : decode cX8_dies 4 = .ok (.iload_n 1, 1) := by decide +kernel
theorem dX8_dies_5 : decode cX8_dies 5 = .ok (.invokevirtual 127, 3) := by decide +kernel
theorem dX8_dies_8 : decode cX8_dies 8 = .ok (.ifCond .ne 6, 3) := by decide +kernel
theorem dX8_dies_11 : decode cX8_dies 11 = .ok (.bipush (-2), 2) := by decide +kernel
theorem dX8_dies_13 : decode cX8_dies 13 = .ok (.ireturn, 1) := by decide +kernel
theorem dX8_dies_14 : decode cX8_dies 14 = .ok (.iconst 0, 1) := by decide +kernel
theorem dX8_dies_15 : decode cX8_dies 15 = .ok (.istore_n 2, 1) := by decide +kernel
theorem dX8_dies_16 : decode cX8_dies 16 = .ok (.iload_n 2, 1) := by decide +kernel
theorem dX8_dies_17 : decode cX8_dies 17 = .ok (.aload_n 0, 1) := by decide +kernel
theorem dX8_dies_18 : decode cX8_dies 18 = .ok (.getfield 32, 3) := by decide +kernel
theorem dX8_dies_21 : decode cX8_dies 21 = .ok (.getfield 168, 3) := by decide +kernel
theorem dX8_dies_24 : decode cX8_dies 24 = .ok (.if_icmp .gt 23, 3) := by decide +kernel
theorem dX8_dies_27 : decode cX8_dies 27 = .ok (.aload_n 0, 1) := by decide +kernel
theorem dX8_dies_28 : decode cX8_dies 28 = .ok (.invokevirtual 189, 3) := by decide +kernel
theorem dX8_dies_31 : decode cX8_dies 31 = .ok (.iload_n 1, 1) := by decide +kernel
theorem dX8_dies_32 : decode cX8_dies 32 = .ok (.iload_n 2, 1) := by decide +kernel
theorem dX8_dies_33 : decode cX8_dies 33 = .ok (.invokevirtual 220, 3) := by decide +kernel
theorem dX8_dies_36 : decode cX8_dies 36 = .ok (.ifCond .ne 5, 3) := by decide +kernel
theorem dX8_dies_39 : decode cX8_dies 39 = .ok (.iload_n 2, 1) := by decide +kernel
theorem dX8_dies_40 : decode cX8_dies 40 = .ok (.ireturn, 1) := by decide +kernel
theorem dX8_dies_41 : decode cX8_dies 41 = .ok (.iinc 2 1, 3) := by decide +kernel
theorem dX8_dies_44 : decode cX8_dies 44 = .ok (.goto (-28), 3) := by decide +kernel
theorem dX8_dies_47 : decode cX8_dies 47 = .ok (.iconst (-1), 1) := by decide +kernel
theorem dX8_dies_48 : decode cX8_dies 48 = .ok (.ireturn, 1) := by decide +kernel

theorem dX8_done_0 : decode cX8_done 0 = .ok (.aload_n 0, 1) := by decide +kernel
theorem dX8_done_1 : decode cX8_done 1 = .ok (.getfield 32, 3) := by decide +kernel
theorem dX8_done_4 : decode cX8_done 4 = .ok (.invokevirtual 153, 3) := by decide +kernel
theorem dX8_done_7 : decode cX8_done 7 = .ok (.ifCond .ne 6, 3) := by decide +kernel
theorem dX8_done_10 : decode cX8_done 10 = .ok (.bipush (-2), 2) := by decide +kernel
theorem dX8_done_12 : decode cX8_done 12 = .ok (.ireturn, 1) := by decide +kernel
theorem dX8_done_13 : decode cX8_done 13 = .ok (.iconst 0, 1) := by decide +kernel
theorem dX8_done_14 : decode cX8_done 14 = .ok (.istore_n 1, 1) := by decide +kernel
theorem dX8_done_15 : decode cX8_done 15 = .ok (.iload_n 1, 1) := by decide +kernel
theorem dX8_done_16 : decode cX8_done 16 = .ok (.aload_n 0, 1) := by decide +kernel
theorem dX8_done_17 : decode cX8_done 17 = .ok (.getfield 32, 3) := by decide +kernel
theorem dX8_done_20 : decode cX8_done 20 = .ok (.getfield 168, 3) := by decide +kernel
theorem dX8_done_23 : decode cX8_done 23 = .ok (.if_icmp .gt 39, 3) := by decide +kernel
theorem dX8_done_26 : decode cX8_done 26 = .ok (.aload_n 0, 1) := by decide +kernel
theorem dX8_done_27 : decode cX8_done 27 = .ok (.getfield 32, 3) := by decide +kernel
theorem dX8_done_30 : decode cX8_done 30 = .ok (.getfield 156, 3) := by decide +kernel
theorem dX8_done_33 : decode cX8_done 33 = .ok (.ifCond .le 29, 3) := by decide +kernel
theorem dX8_done_36 : decode cX8_done 36 = .ok (.aload_n 0, 1) := by decide +kernel
theorem dX8_done_37 : decode cX8_done 37 = .ok (.invokevirtual 189, 3) := by decide +kernel
theorem dX8_done_40 : decode cX8_done 40 = .ok (.iload_n 1, 1) := by decide +kernel
theorem dX8_done_41 : decode cX8_done 41 = .ok (.invokevirtual 199, 3) := by decide +kernel
theorem dX8_done_44 : decode cX8_done 44 = .ok (.aload_n 0, 1) := by decide +kernel
theorem dX8_done_45 : decode cX8_done 45 = .ok (.getfield 32, 3) := by decide +kernel
theorem dX8_done_48 : decode cX8_done 48 = .ok (.invokevirtual 243, 3) := by decide +kernel
theorem dX8_done_51 : decode cX8_done 51 = .ok (.if_icmp .ne 5, 3) := by decide +kernel
theorem dX8_done_54 : decode cX8_done 54 = .ok (.iload_n 1, 1) := by decide +kernel
theorem dX8_done_55 : decode cX8_done 55 = .ok (.ireturn, 1) := by decide +kernel
theorem dX8_done_56 : decode cX8_done 56 = .ok (.iinc 1 1, 3) := by decide +kernel
theorem dX8_done_59 : decode cX8_done 59 = .ok (.goto (-44), 3) := by decide +kernel
theorem dX8_done_62 : decode cX8_done 62 = .ok (.iconst (-1), 1) := by decide +kernel
theorem dX8_done_63 : decode cX8_done 63 = .ok (.ireturn, 1) := by decide +kernel

theorem dX8_drawn_0 : decode cX8_drawn 0 = .ok (.aload_n 0, 1) := by decide +kernel
theorem dX8_drawn_1 : decode cX8_drawn 1 = .ok (.getfield 32, 3) := by decide +kernel
theorem dX8_drawn_4 : decode cX8_drawn 4 = .ok (.invokevirtual 153, 3) := by decide +kernel
theorem dX8_drawn_7 : decode cX8_drawn 7 = .ok (.ifCond .eq 19, 3) := by decide +kernel
theorem dX8_drawn_10 : decode cX8_drawn 10 = .ok (.iload_n 1, 1) := by decide +kernel
theorem dX8_drawn_11 : decode cX8_drawn 11 = .ok (.invokestatic 364, 3) := by decide +kernel
theorem dX8_drawn_14 : decode cX8_drawn 14 = .ok (.ifCond .eq 12, 3) := by decide +kernel
theorem dX8_drawn_17 : decode cX8_drawn 17 = .ok (.iload_n 2, 1) := by decide +kernel
theorem dX8_drawn_18 : decode cX8_drawn 18 = .ok (.ifCond .eq 11, 3) := by decide +kernel
theorem dX8_drawn_21 : decode cX8_drawn 21 = .ok (.iload_n 2, 1) := by decide +kernel
theorem dX8_drawn_22 : decode cX8_drawn 22 = .ok (.iconst 1, 1) := by decide +kernel
theorem dX8_drawn_23 : decode cX8_drawn 23 = .ok (.if_icmp .eq 6, 3) := by decide +kernel
theorem dX8_drawn_26 : decode cX8_drawn 26 = .ok (.bipush (-2), 2) := by decide +kernel
theorem dX8_drawn_28 : decode cX8_drawn 28 = .ok (.ireturn, 1) := by decide +kernel
theorem dX8_drawn_29 : decode cX8_drawn 29 = .ok (.aload_n 0, 1) := by decide +kernel
theorem dX8_drawn_30 : decode cX8_drawn 30 = .ok (.iload_n 1, 1) := by decide +kernel
theorem dX8_drawn_31 : decode cX8_drawn 31 = .ok (.i2l, 1) := by decide +kernel
theorem dX8_drawn_32 : decode cX8_drawn 32 = .ok (.invokevirtual 367, 3) := by decide +kernel
theorem dX8_drawn_35 : decode cX8_drawn 35 = .ok (.istore_n 3, 1) := by decide +kernel
theorem dX8_drawn_36 : decode cX8_drawn 36 = .ok (.iload_n 2, 1) := by decide +kernel
theorem dX8_drawn_37 : decode cX8_drawn 37 = .ok (.ifCond .ne 5, 3) := by decide +kernel
theorem dX8_drawn_40 : decode cX8_drawn 40 = .ok (.iload_n 3, 1) := by decide +kernel
theorem dX8_drawn_41 : decode cX8_drawn 41 = .ok (.ireturn, 1) := by decide +kernel
theorem dX8_drawn_42 : decode cX8_drawn 42 = .ok (.aload_n 0, 1) := by decide +kernel
theorem dX8_drawn_43 : decode cX8_drawn 43 = .ok (.iload_n 3, 1) := by decide +kernel
theorem dX8_drawn_44 : decode cX8_drawn 44 = .ok (.invokevirtual 318, 3) := by decide +kernel
theorem dX8_drawn_47 : decode cX8_drawn 47 = .ok (.aload_n 0, 1) := by decide +kernel
theorem dX8_drawn_48 : decode cX8_drawn 48 = .ok (.getfield 59, 3) := by decide +kernel
theorem dX8_drawn_51 : decode cX8_drawn 51 = .ok (.aload_n 0, 1) := by decide +kernel
theorem dX8_drawn_52 : decode cX8_drawn 52 = .ok (.getfield 32, 3) := by decide +kernel
theorem dX8_drawn_55 : decode cX8_drawn 55 = .ok (.getfield 168, 3) := by decide +kernel
theorem dX8_drawn_58 : decode cX8_drawn 58 = .ok (.invokevirtual 199, 3) := by decide +kernel
theorem dX8_drawn_61 : decode cX8_drawn 61 = .ok (.ireturn, 1) := by decide +kernel

theorem dX8_dull_0 : decode cX8_dull 0 = .ok (.aload_n 0, 1) := by decide +kernel
theorem dX8_dull_1 : decode cX8_dull 1 = .ok (.getfield 32, 3) := by decide +kernel
theorem dX8_dull_4 : decode cX8_dull 4 = .ok (.iload_n 1, 1) := by decide +kernel
theorem dX8_dull_5 : decode cX8_dull 5 = .ok (.invokevirtual 196, 3) := by decide +kernel
theorem dX8_dull_8 : decode cX8_dull 8 = .ok (.ifCond .ne 6, 3) := by decide +kernel
theorem dX8_dull_11 : decode cX8_dull 11 = .ok (.bipush (-2), 2) := by decide +kernel
theorem dX8_dull_13 : decode cX8_dull 13 = .ok (.ireturn, 1) := by decide +kernel
theorem dX8_dull_14 : decode cX8_dull 14 = .ok (.iconst 0, 1) := by decide +kernel
theorem dX8_dull_15 : decode cX8_dull 15 = .ok (.istore_n 2, 1) := by decide +kernel
theorem dX8_dull_16 : decode cX8_dull 16 = .ok (.iconst 0, 1) := by decide +kernel
theorem dX8_dull_17 : decode cX8_dull 17 = .ok (.istore_n 3, 1) := by decide +kernel
theorem dX8_dull_18 : decode cX8_dull 18 = .ok (.iload_n 3, 1) := by decide +kernel
theorem dX8_dull_19 : decode cX8_dull 19 = .ok (.aload_n 0, 1) := by decide +kernel
theorem dX8_dull_20 : decode cX8_dull 20 = .ok (.getfield 32, 3) := by decide +kernel
theorem dX8_dull_23 : decode cX8_dull 23 = .ok (.getfield 156, 3) := by decide +kernel
theorem dX8_dull_26 : decode cX8_dull 26 = .ok (.if_icmp .ge 27, 3) := by decide +kernel
theorem dX8_dull_29 : decode cX8_dull 29 = .ok (.aload_n 0, 1) := by decide +kernel
theorem dX8_dull_30 : decode cX8_dull 30 = .ok (.invokevirtual 189, 3) := by decide +kernel
theorem dX8_dull_33 : decode cX8_dull 33 = .ok (.iload_n 3, 1) := by decide +kernel
theorem dX8_dull_34 : decode cX8_dull 34 = .ok (.iload_n 1, 1) := by decide +kernel
theorem dX8_dull_35 : decode cX8_dull 35 = .ok (.invokevirtual 220, 3) := by decide +kernel
theorem dX8_dull_38 : decode cX8_dull 38 = .ok (.ifCond .ne 9, 3) := by decide +kernel
theorem dX8_dull_41 : decode cX8_dull 41 = .ok (.iload_n 2, 1) := by decide +kernel
theorem dX8_dull_42 : decode cX8_dull 42 = .ok (.iconst 1, 1) := by decide +kernel
theorem dX8_dull_43 : decode cX8_dull 43 = .ok (.iload_n 3, 1) := by decide +kernel
theorem dX8_dull_44 : decode cX8_dull 44 = .ok (.ishl, 1) := by decide +kernel
theorem dX8_dull_45 : decode cX8_dull 45 = .ok (.ior, 1) := by decide +kernel
theorem dX8_dull_46 : decode cX8_dull 46 = .ok (.istore_n 2, 1) := by decide +kernel
theorem dX8_dull_47 : decode cX8_dull 47 = .ok (.iinc 3 1, 3) := by decide +kernel
theorem dX8_dull_50 : decode cX8_dull 50 = .ok (.goto (-32), 3) := by decide +kernel
theorem dX8_dull_53 : decode cX8_dull 53 = .ok (.iload_n 2, 1) := by decide +kernel
theorem dX8_dull_54 : decode cX8_dull 54 = .ok (.ireturn, 1) := by decide +kernel

theorem dX8_end_0 : decode cX8_end 0 = .ok (.iload_n 1, 1) := by decide +kernel
theorem dX8_end_1 : decode cX8_end 1 = .ok (.ifCond .lt 14, 3) := by decide +kernel
theorem dX8_end_4 : decode cX8_end 4 = .ok (.iload_n 1, 1) := by decide +kernel
theorem dX8_end_5 : decode cX8_end 5 = .ok (.aload_n 0, 1) := by decide +kernel
theorem dX8_end_6 : decode cX8_end 6 = .ok (.getfield 10, 3) := by decide +kernel
theorem dX8_end_9 : decode cX8_end 9 = .ok (.getfield 106, 3) := by decide +kernel
theorem dX8_end_12 : decode cX8_end 12 = .ok (.if_icmp .le 5, 3) := by decide +kernel
theorem dX8_end_15 : decode cX8_end 15 = .ok (.iconst (-1), 1) := by decide +kernel
theorem dX8_end_16 : decode cX8_end 16 = .ok (.ireturn, 1) := by decide +kernel
theorem dX8_end_17 : decode cX8_end 17 = .ok (.aload_n 0, 1) := by decide +kernel
theorem dX8_end_18 : decode cX8_end 18 = .ok (.getfield 10, 3) := by decide +kernel
theorem dX8_end_21 : decode cX8_end 21 = .ok (.iload_n 1, 1) := by decide +kernel
theorem dX8_end_22 : decode cX8_end 22 = .ok (.putfield 106, 3) := by decide +kernel
theorem dX8_end_25 : decode cX8_end 25 = .ok (.iload_n 1, 1) := by decide +kernel
theorem dX8_end_26 : decode cX8_end 26 = .ok (.ireturn, 1) := by decide +kernel

theorem dX8_far_0 : decode cX8_far 0 = .ok (.aload_n 0, 1) := by decide +kernel
theorem dX8_far_1 : decode cX8_far 1 = .ok (.getfield 32, 3) := by decide +kernel
theorem dX8_far_4 : decode cX8_far 4 = .ok (.iload_n 1, 1) := by decide +kernel
theorem dX8_far_5 : decode cX8_far 5 = .ok (.invokevirtual 127, 3) := by decide +kernel
theorem dX8_far_8 : decode cX8_far 8 = .ok (.ifCond .eq 14, 3) := by decide +kernel
theorem dX8_far_11 : decode cX8_far 11 = .ok (.aload_n 0, 1) := by decide +kernel
theorem dX8_far_12 : decode cX8_far 12 = .ok (.getfield 32, 3) := by decide +kernel
theorem dX8_far_15 : decode cX8_far 15 = .ok (.iload_n 2, 1) := by decide +kernel
theorem dX8_far_16 : decode cX8_far 16 = .ok (.invokevirtual 127, 3) := by decide +kernel
theorem dX8_far_19 : decode cX8_far 19 = .ok (.ifCond .ne 6, 3) := by decide +kernel
theorem dX8_far_22 : decode cX8_far 22 = .ok (.bipush (-2), 2) := by decide +kernel
theorem dX8_far_24 : decode cX8_far 24 = .ok (.ireturn, 1) := by decide +kernel
theorem dX8_far_25 : decode cX8_far 25 = .ok (.iconst 1, 1) := by decide +kernel
theorem dX8_far_26 : decode cX8_far 26 = .ok (.iload_n 1, 1) := by decide +kernel
theorem dX8_far_27 : decode cX8_far 27 = .ok (.ishl, 1) := by decide +kernel
theorem dX8_far_28 : decode cX8_far 28 = .ok (.istore_n 3, 1) := by decide +kernel
theorem dX8_far_29 : decode cX8_far 29 = .ok (.iconst 0, 1) := by decide +kernel
theorem dX8_far_30 : decode cX8_far 30 = .ok (.istore 4, 2) := by decide +kernel
theorem dX8_far_32 : decode cX8_far 32 = .ok (.iload 4, 2) := by decide +kernel
theorem dX8_far_34 : decode cX8_far 34 = .ok (.bipush 6, 2) := by decide +kernel
theorem dX8_far_36 : decode cX8_far 36 = .ok (.if_icmp .ge 29, 3) := by decide +kernel
theorem dX8_far_39 : decode cX8_far 39 = .ok (.iload_n 3, 1) := by decide +kernel
theorem dX8_far_40 : decode cX8_far 40 = .ok (.iload_n 2, 1) := by decide +kernel
theorem dX8_far_41 : decode cX8_far 41 = .ok (.invokestatic 145, 3) := by decide +kernel
theorem dX8_far_44 : decode cX8_far 44 = .ok (.ifCond .eq 6, 3) := by decide +kernel
theorem dX8_far_47 : decode cX8_far 47 = .ok (.iload 4, 2) := by decide +kernel
theorem dX8_far_49 : decode cX8_far 49 = .ok (.ireturn, 1) := by decide +kernel
theorem dX8_far_50 : decode cX8_far 50 = .ok (.aload_n 0, 1) := by decide +kernel
theorem dX8_far_51 : decode cX8_far 51 = .ok (.getfield 32, 3) := by decide +kernel
theorem dX8_far_54 : decode cX8_far 54 = .ok (.iload_n 3, 1) := by decide +kernel
theorem dX8_far_55 : decode cX8_far 55 = .ok (.invokevirtual 149, 3) := by decide +kernel
theorem dX8_far_58 : decode cX8_far 58 = .ok (.istore_n 3, 1) := by decide +kernel
theorem dX8_far_59 : decode cX8_far 59 = .ok (.iinc 4 1, 3) := by decide +kernel
theorem dX8_far_62 : decode cX8_far 62 = .ok (.goto (-30), 3) := by decide +kernel
theorem dX8_far_65 : decode cX8_far 65 = .ok (.iconst (-1), 1) := by decide +kernel
theorem dX8_far_66 : decode cX8_far 66 = .ok (.ireturn, 1) := by decide +kernel

theorem dX8_fault_0 : decode cX8_fault 0 = .ok (.iload_n 1, 1) := by decide +kernel
theorem dX8_fault_1 : decode cX8_fault 1 = .ok (.lookupswitch 43 #[(0, 27), (1, 35)], 27) := by decide +kernel
theorem dX8_fault_28 : decode cX8_fault 28 = .ok (.aload_n 0, 1) := by decide +kernel
theorem dX8_fault_29 : decode cX8_fault 29 = .ok (.getfield 28, 3) := by decide +kernel
theorem dX8_fault_32 : decode cX8_fault 32 = .ok (.getfield 121, 3) := by decide +kernel
theorem dX8_fault_35 : decode cX8_fault 35 = .ok (.ireturn, 1) := by decide +kernel
theorem dX8_fault_36 : decode cX8_fault 36 = .ok (.aload_n 0, 1) := by decide +kernel
theorem dX8_fault_37 : decode cX8_fault 37 = .ok (.getfield 28, 3) := by decide +kernel
theorem dX8_fault_40 : decode cX8_fault 40 = .ok (.getfield 124, 3) := by decide +kernel
theorem dX8_fault_43 : decode cX8_fault 43 = .ok (.ireturn, 1) := by decide +kernel
theorem dX8_fault_44 : decode cX8_fault 44 = .ok (.iconst (-1), 1) := by decide +kernel
theorem dX8_fault_45 : decode cX8_fault 45 = .ok (.ireturn, 1) := by decide +kernel

theorem dX8_feed_0 : decode cX8_feed 0 = .ok (.aload_n 0, 1) := by decide +kernel
theorem dX8_feed_1 : decode cX8_feed 1 = .ok (.getfield 10, 3) := by decide +kernel
theorem dX8_feed_4 : decode cX8_feed 4 = .ok (.invokevirtual 98, 3) := by decide +kernel
theorem dX8_feed_7 : decode cX8_feed 7 = .ok (.ifCond .ne 5, 3) := by decide +kernel
theorem dX8_feed_10 : decode cX8_feed 10 = .ok (.iconst (-1), 1) := by decide +kernel
theorem dX8_feed_11 : decode cX8_feed 11 = .ok (.ireturn, 1) := by decide +kernel
theorem dX8_feed_12 : decode cX8_feed 12 = .ok (.aload_n 0, 1) := by decide +kernel
theorem dX8_feed_13 : decode cX8_feed 13 = .ok (.getfield 10, 3) := by decide +kernel
theorem dX8_feed_16 : decode cX8_feed 16 = .ok (.iload_n 1, 1) := by decide +kernel
theorem dX8_feed_17 : decode cX8_feed 17 = .ok (.invokevirtual 102, 3) := by decide +kernel
theorem dX8_feed_20 : decode cX8_feed 20 = .ok (.aload_n 0, 1) := by decide +kernel
theorem dX8_feed_21 : decode cX8_feed 21 = .ok (.getfield 10, 3) := by decide +kernel
theorem dX8_feed_24 : decode cX8_feed 24 = .ok (.iload_n 2, 1) := by decide +kernel
theorem dX8_feed_25 : decode cX8_feed 25 = .ok (.invokevirtual 102, 3) := by decide +kernel
theorem dX8_feed_28 : decode cX8_feed 28 = .ok (.aload_n 0, 1) := by decide +kernel
theorem dX8_feed_29 : decode cX8_feed 29 = .ok (.getfield 10, 3) := by decide +kernel
theorem dX8_feed_32 : decode cX8_feed 32 = .ok (.iload_n 3, 1) := by decide +kernel
theorem dX8_feed_33 : decode cX8_feed 33 = .ok (.invokevirtual 102, 3) := by decide +kernel
theorem dX8_feed_36 : decode cX8_feed 36 = .ok (.aload_n 0, 1) := by decide +kernel
theorem dX8_feed_37 : decode cX8_feed 37 = .ok (.getfield 10, 3) := by decide +kernel
theorem dX8_feed_40 : decode cX8_feed 40 = .ok (.iload 4, 2) := by decide +kernel
theorem dX8_feed_42 : decode cX8_feed 42 = .ok (.invokevirtual 102, 3) := by decide +kernel
theorem dX8_feed_45 : decode cX8_feed 45 = .ok (.aload_n 0, 1) := by decide +kernel
theorem dX8_feed_46 : decode cX8_feed 46 = .ok (.getfield 10, 3) := by decide +kernel
theorem dX8_feed_49 : decode cX8_feed 49 = .ok (.iload 5, 2) := by decide +kernel
theorem dX8_feed_51 : decode cX8_feed 51 = .ok (.invokevirtual 102, 3) := by decide +kernel
theorem dX8_feed_54 : decode cX8_feed 54 = .ok (.aload_n 0, 1) := by decide +kernel
theorem dX8_feed_55 : decode cX8_feed 55 = .ok (.getfield 10, 3) := by decide +kernel
theorem dX8_feed_58 : decode cX8_feed 58 = .ok (.getfield 106, 3) := by decide +kernel
theorem dX8_feed_61 : decode cX8_feed 61 = .ok (.ireturn, 1) := by decide +kernel

theorem dX8_few_0 : decode cX8_few 0 = .ok (.aload_n 0, 1) := by decide +kernel
theorem dX8_few_1 : decode cX8_few 1 = .ok (.getfield 32, 3) := by decide +kernel
theorem dX8_few_4 : decode cX8_few 4 = .ok (.invokevirtual 153, 3) := by decide +kernel
theorem dX8_few_7 : decode cX8_few 7 = .ok (.ifCond .eq 13, 3) := by decide +kernel
theorem dX8_few_10 : decode cX8_few 10 = .ok (.aload_n 0, 1) := by decide +kernel
theorem dX8_few_11 : decode cX8_few 11 = .ok (.invokevirtual 249, 3) := by decide +kernel
theorem dX8_few_14 : decode cX8_few 14 = .ok (.invokestatic 252, 3) := by decide +kernel
theorem dX8_few_17 : decode cX8_few 17 = .ok (.goto 5, 3) := by decide +kernel
theorem dX8_few_20 : decode cX8_few 20 = .ok (.bipush (-2), 2) := by decide +kernel
theorem dX8_few_22 : decode cX8_few 22 = .ok (.ireturn, 1) := by decide +kernel

theorem dX8_fews_0 : decode cX8_fews 0 = .ok (.aload_n 0, 1) := by decide +kernel
theorem dX8_fews_1 : decode cX8_fews 1 = .ok (.getfield 32, 3) := by decide +kernel
theorem dX8_fews_4 : decode cX8_fews 4 = .ok (.invokevirtual 153, 3) := by decide +kernel
theorem dX8_fews_7 : decode cX8_fews 7 = .ok (.ifCond .eq 10, 3) := by decide +kernel
theorem dX8_fews_10 : decode cX8_fews 10 = .ok (.aload_n 0, 1) := by decide +kernel
theorem dX8_fews_11 : decode cX8_fews 11 = .ok (.invokevirtual 249, 3) := by decide +kernel
theorem dX8_fews_14 : decode cX8_fews 14 = .ok (.goto 5, 3) := by decide +kernel
theorem dX8_fews_17 : decode cX8_fews 17 = .ok (.bipush (-2), 2) := by decide +kernel
theorem dX8_fews_19 : decode cX8_fews 19 = .ok (.ireturn, 1) := by decide +kernel

theorem dX8_first_0 : decode cX8_first 0 = .ok (.aload_n 0, 1) := by decide +kernel
theorem dX8_first_1 : decode cX8_first 1 = .ok (.getfield 32, 3) := by decide +kernel
theorem dX8_first_4 : decode cX8_first 4 = .ok (.invokevirtual 153, 3) := by decide +kernel
theorem dX8_first_7 : decode cX8_first 7 = .ok (.ifCond .ne 6, 3) := by decide +kernel
theorem dX8_first_10 : decode cX8_first 10 = .ok (.bipush (-2), 2) := by decide +kernel
theorem dX8_first_12 : decode cX8_first 12 = .ok (.ireturn, 1) := by decide +kernel
theorem dX8_first_13 : decode cX8_first 13 = .ok (.iconst 0, 1) := by decide +kernel
theorem dX8_first_14 : decode cX8_first 14 = .ok (.istore_n 1, 1) := by decide +kernel
theorem dX8_first_15 : decode cX8_first 15 = .ok (.iload_n 1, 1) := by decide +kernel
theorem dX8_first_16 : decode cX8_first 16 = .ok (.aload_n 0, 1) := by decide +kernel
theorem dX8_first_17 : decode cX8_first 17 = .ok (.getfield 32, 3) := by decide +kernel
theorem dX8_first_20 : decode cX8_first 20 = .ok (.getfield 168, 3) := by decide +kernel
theorem dX8_first_23 : decode cX8_first 23 = .ok (.if_icmp .ge 19, 3) := by decide +kernel
theorem dX8_first_26 : decode cX8_first 26 = .ok (.aload_n 0, 1) := by decide +kernel
theorem dX8_first_27 : decode cX8_first 27 = .ok (.iload_n 1, 1) := by decide +kernel
theorem dX8_first_28 : decode cX8_first 28 = .ok (.invokevirtual 246, 3) := by decide +kernel
theorem dX8_first_31 : decode cX8_first 31 = .ok (.ifCond .le 5, 3) := by decide +kernel
theorem dX8_first_34 : decode cX8_first 34 = .ok (.iload_n 1, 1) := by decide +kernel
theorem dX8_first_35 : decode cX8_first 35 = .ok (.ireturn, 1) := by decide +kernel
theorem dX8_first_36 : decode cX8_first 36 = .ok (.iinc 1 1, 3) := by decide +kernel
theorem dX8_first_39 : decode cX8_first 39 = .ok (.goto (-24), 3) := by decide +kernel
theorem dX8_first_42 : decode cX8_first 42 = .ok (.iconst (-1), 1) := by decide +kernel
theorem dX8_first_43 : decode cX8_first 43 = .ok (.ireturn, 1) := by decide +kernel

theorem dX8_forgetAnswers_0 : decode cX8_forgetAnswers 0 = .ok (.aload_n 0, 1) := by decide +kernel
theorem dX8_forgetAnswers_1 : decode cX8_forgetAnswers 1 = .ok (.iconst 1, 1) := by decide +kernel
theorem dX8_forgetAnswers_2 : decode cX8_forgetAnswers 2 = .ok (.putfield 87, 3) := by decide +kernel
theorem dX8_forgetAnswers_5 : decode cX8_forgetAnswers 5 = .ok (.aload_n 0, 1) := by decide +kernel
theorem dX8_forgetAnswers_6 : decode cX8_forgetAnswers 6 = .ok (.iconst 1, 1) := by decide +kernel
theorem dX8_forgetAnswers_7 : decode cX8_forgetAnswers 7 = .ok (.putfield 91, 3) := by decide +kernel
theorem dX8_forgetAnswers_10 : decode cX8_forgetAnswers 10 = .ok (.aload_n 0, 1) := by decide +kernel
theorem dX8_forgetAnswers_11 : decode cX8_forgetAnswers 11 = .ok (.iconst 0, 1) := by decide +kernel
theorem dX8_forgetAnswers_12 : decode cX8_forgetAnswers 12 = .ok (.putfield 94, 3) := by decide +kernel
theorem dX8_forgetAnswers_15 : decode cX8_forgetAnswers 15 = .ok (.return_, 1) := by decide +kernel

theorem dX8_gets_0 : decode cX8_gets 0 = .ok (.aload_n 0, 1) := by decide +kernel
theorem dX8_gets_1 : decode cX8_gets 1 = .ok (.iload_n 1, 1) := by decide +kernel
theorem dX8_gets_2 : decode cX8_gets 2 = .ok (.iload_n 2, 1) := by decide +kernel
theorem dX8_gets_3 : decode cX8_gets 3 = .ok (.invokevirtual 338, 3) := by decide +kernel
theorem dX8_gets_6 : decode cX8_gets 6 = .ok (.ifCond .eq 18, 3) := by decide +kernel
theorem dX8_gets_9 : decode cX8_gets 9 = .ok (.iload_n 3, 1) := by decide +kernel
theorem dX8_gets_10 : decode cX8_gets 10 = .ok (.invokestatic 345, 3) := by decide +kernel
theorem dX8_gets_13 : decode cX8_gets 13 = .ok (.ifCond .eq 11, 3) := by decide +kernel
theorem dX8_gets_16 : decode cX8_gets 16 = .ok (.iload 4, 2) := by decide +kernel
theorem dX8_gets_18 : decode cX8_gets 18 = .ok (.invokestatic 345, 3) := by decide +kernel
theorem dX8_gets_21 : decode cX8_gets 21 = .ok (.ifCond .ne 7, 3) := by decide +kernel
theorem dX8_gets_24 : decode cX8_gets 24 = .ok (.sipush (-1000), 3) := by decide +kernel
theorem dX8_gets_27 : decode cX8_gets 27 = .ok (.ireturn, 1) := by decide +kernel
theorem dX8_gets_28 : decode cX8_gets 28 = .ok (.aload_n 0, 1) := by decide +kernel
theorem dX8_gets_29 : decode cX8_gets 29 = .ok (.iload_n 1, 1) := by decide +kernel
theorem dX8_gets_30 : decode cX8_gets 30 = .ok (.iload_n 2, 1) := by decide +kernel
theorem dX8_gets_31 : decode cX8_gets 31 = .ok (.iload_n 3, 1) := by decide +kernel
theorem dX8_gets_32 : decode cX8_gets 32 = .ok (.iload 4, 2) := by decide +kernel
theorem dX8_gets_34 : decode cX8_gets 34 = .ok (.invokevirtual 341, 3) := by decide +kernel
theorem dX8_gets_37 : decode cX8_gets 37 = .ok (.ireturn, 1) := by decide +kernel

theorem dX8_hasPartAndYear_0 : decode cX8_hasPartAndYear 0 = .ok (.aload_n 0, 1) := by decide +kernel
theorem dX8_hasPartAndYear_1 : decode cX8_hasPartAndYear 1 = .ok (.getfield 32, 3) := by decide +kernel
theorem dX8_hasPartAndYear_4 : decode cX8_hasPartAndYear 4 = .ok (.iload_n 1, 1) := by decide +kernel
theorem dX8_hasPartAndYear_5 : decode cX8_hasPartAndYear 5 = .ok (.invokevirtual 127, 3) := by decide +kernel
theorem dX8_hasPartAndYear_8 : decode cX8_hasPartAndYear 8 = .ok (.ifCond .eq 18, 3) := by decide +kernel
theorem dX8_hasPartAndYear_11 : decode cX8_hasPartAndYear 11 = .ok (.aload_n 0, 1) := by decide +kernel
theorem dX8_hasPartAndYear_12 : decode cX8_hasPartAndYear 12 = .ok (.getfield 32, 3) := by decide +kernel
theorem dX8_hasPartAndYear_15 : decode cX8_hasPartAndYear 15 = .ok (.iload_n 2, 1) := by decide +kernel
theorem dX8_hasPartAndYear_16 : decode cX8_hasPartAndYear 16 = .ok (.invokevirtual 196, 3) := by decide +kernel
theorem dX8_hasPartAndYear_19 : decode cX8_hasPartAndYear 19 = .ok (.ifCond .eq 7, 3) := by decide +kernel
theorem dX8_hasPartAndYear_22 : decode cX8_hasPartAndYear 22 = .ok (.iconst 1, 1) := by decide +kernel
theorem dX8_hasPartAndYear_23 : decode cX8_hasPartAndYear 23 = .ok (.goto 4, 3) := by decide +kernel
theorem dX8_hasPartAndYear_26 : decode cX8_hasPartAndYear 26 = .ok (.iconst 0, 1) := by decide +kernel
theorem dX8_hasPartAndYear_27 : decode cX8_hasPartAndYear 27 = .ok (.ireturn, 1) := by decide +kernel

theorem dX8_hasPlan_0 : decode cX8_hasPlan 0 = .ok (.aload_n 0, 1) := by decide +kernel
theorem dX8_hasPlan_1 : decode cX8_hasPlan 1 = .ok (.getfield 32, 3) := by decide +kernel
theorem dX8_hasPlan_4 : decode cX8_hasPlan 4 = .ok (.invokevirtual 153, 3) := by decide +kernel
theorem dX8_hasPlan_7 : decode cX8_hasPlan 7 = .ok (.ifCond .eq 28, 3) := by decide +kernel
theorem dX8_hasPlan_10 : decode cX8_hasPlan 10 = .ok (.iload_n 1, 1) := by decide +kernel
theorem dX8_hasPlan_11 : decode cX8_hasPlan 11 = .ok (.iconst 1, 1) := by decide +kernel
theorem dX8_hasPlan_12 : decode cX8_hasPlan 12 = .ok (.if_icmp .lt 23, 3) := by decide +kernel
theorem dX8_hasPlan_15 : decode cX8_hasPlan 15 = .ok (.iload_n 1, 1) := by decide +kernel
theorem dX8_hasPlan_16 : decode cX8_hasPlan 16 = .ok (.iconst 5, 1) := by decide +kernel
theorem dX8_hasPlan_17 : decode cX8_hasPlan 17 = .ok (.if_icmp .gt 18, 3) := by decide +kernel
theorem dX8_hasPlan_20 : decode cX8_hasPlan 20 = .ok (.iload_n 1, 1) := by decide +kernel
theorem dX8_hasPlan_21 : decode cX8_hasPlan 21 = .ok (.aload_n 0, 1) := by decide +kernel
theorem dX8_hasPlan_22 : decode cX8_hasPlan 22 = .ok (.getfield 32, 3) := by decide +kernel
theorem dX8_hasPlan_25 : decode cX8_hasPlan 25 = .ok (.getfield 168, 3) := by decide +kernel
theorem dX8_hasPlan_28 : decode cX8_hasPlan 28 = .ok (.if_icmp .gt 7, 3) := by decide +kernel
theorem dX8_hasPlan_31 : decode cX8_hasPlan 31 = .ok (.iconst 1, 1) := by decide +kernel
theorem dX8_hasPlan_32 : decode cX8_hasPlan 32 = .ok (.goto 4, 3) := by decide +kernel
theorem dX8_hasPlan_35 : decode cX8_hasPlan 35 = .ok (.iconst 0, 1) := by decide +kernel
theorem dX8_hasPlan_36 : decode cX8_hasPlan 36 = .ok (.ireturn, 1) := by decide +kernel

theorem dX8_high_0 : decode cX8_high 0 = .ok (.aload_n 0, 1) := by decide +kernel
theorem dX8_high_1 : decode cX8_high 1 = .ok (.iload_n 1, 1) := by decide +kernel
theorem dX8_high_2 : decode cX8_high 2 = .ok (.iload_n 2, 1) := by decide +kernel
theorem dX8_high_3 : decode cX8_high 3 = .ok (.invokevirtual 289, 3) := by decide +kernel
theorem dX8_high_6 : decode cX8_high 6 = .ok (.istore_n 3, 1) := by decide +kernel
theorem dX8_high_7 : decode cX8_high 7 = .ok (.iload_n 3, 1) := by decide +kernel
theorem dX8_high_8 : decode cX8_high 8 = .ok (.ifCond .eq 5, 3) := by decide +kernel
theorem dX8_high_11 : decode cX8_high 11 = .ok (.iload_n 3, 1) := by decide +kernel
theorem dX8_high_12 : decode cX8_high 12 = .ok (.ireturn, 1) := by decide +kernel
theorem dX8_high_13 : decode cX8_high 13 = .ok (.aload_n 0, 1) := by decide +kernel
theorem dX8_high_14 : decode cX8_high 14 = .ok (.getfield 83, 3) := by decide +kernel
theorem dX8_high_17 : decode cX8_high 17 = .ok (.iload_n 1, 1) := by decide +kernel
theorem dX8_high_18 : decode cX8_high 18 = .ok (.iload_n 2, 1) := by decide +kernel
theorem dX8_high_19 : decode cX8_high 19 = .ok (.aload_n 0, 1) := by decide +kernel
theorem dX8_high_20 : decode cX8_high 20 = .ok (.invokevirtual 189, 3) := by decide +kernel
theorem dX8_high_23 : decode cX8_high 23 = .ok (.invokevirtual 292, 3) := by decide +kernel
theorem dX8_high_26 : decode cX8_high 26 = .ok (.pop, 1) := by decide +kernel
theorem dX8_high_27 : decode cX8_high 27 = .ok (.aload_n 0, 1) := by decide +kernel
theorem dX8_high_28 : decode cX8_high 28 = .ok (.getfield 83, 3) := by decide +kernel
theorem dX8_high_31 : decode cX8_high 31 = .ok (.invokevirtual 299, 3) := by decide +kernel
theorem dX8_high_34 : decode cX8_high 34 = .ok (.ireturn, 1) := by decide +kernel

theorem dX8_how_0 : decode cX8_how 0 = .ok (.aload_n 0, 1) := by decide +kernel
theorem dX8_how_1 : decode cX8_how 1 = .ok (.getfield 32, 3) := by decide +kernel
theorem dX8_how_4 : decode cX8_how 4 = .ok (.iload_n 1, 1) := by decide +kernel
theorem dX8_how_5 : decode cX8_how 5 = .ok (.invokevirtual 127, 3) := by decide +kernel
theorem dX8_how_8 : decode cX8_how 8 = .ok (.ifCond .ne 6, 3) := by decide +kernel
theorem dX8_how_11 : decode cX8_how 11 = .ok (.bipush (-2), 2) := by decide +kernel
theorem dX8_how_13 : decode cX8_how 13 = .ok (.ireturn, 1) := by decide +kernel
theorem dX8_how_14 : decode cX8_how 14 = .ok (.aload_n 0, 1) := by decide +kernel
theorem dX8_how_15 : decode cX8_how 15 = .ok (.invokevirtual 189, 3) := by decide +kernel
theorem dX8_how_18 : decode cX8_how 18 = .ok (.astore_n 2, 1) := by decide +kernel
theorem dX8_how_19 : decode cX8_how 19 = .ok (.aload_n 2, 1) := by decide +kernel
theorem dX8_how_20 : decode cX8_how 20 = .ok (.iload_n 1, 1) := by decide +kernel
theorem dX8_how_21 : decode cX8_how 21 = .ok (.invokevirtual 202, 3) := by decide +kernel
theorem dX8_how_24 : decode cX8_how 24 = .ok (.iconst (-1), 1) := by decide +kernel
theorem dX8_how_25 : decode cX8_how 25 = .ok (.if_icmp .ne 5, 3) := by decide +kernel
theorem dX8_how_28 : decode cX8_how 28 = .ok (.iconst 0, 1) := by decide +kernel
theorem dX8_how_29 : decode cX8_how 29 = .ok (.ireturn, 1) := by decide +kernel
theorem dX8_how_30 : decode cX8_how 30 = .ok (.aload_n 2, 1) := by decide +kernel
theorem dX8_how_31 : decode cX8_how 31 = .ok (.getfield 205, 3) := by decide +kernel
theorem dX8_how_34 : decode cX8_how 34 = .ok (.iload_n 1, 1) := by decide +kernel
theorem dX8_how_35 : decode cX8_how 35 = .ok (.invokestatic 145, 3) := by decide +kernel
theorem dX8_how_38 : decode cX8_how 38 = .ok (.ifCond .eq 7, 3) := by decide +kernel
theorem dX8_how_41 : decode cX8_how 41 = .ok (.iconst 2, 1) := by decide +kernel
theorem dX8_how_42 : decode cX8_how 42 = .ok (.goto 4, 3) := by decide +kernel
theorem dX8_how_45 : decode cX8_how 45 = .ok (.iconst 1, 1) := by decide +kernel
theorem dX8_how_46 : decode cX8_how 46 = .ok (.ireturn, 1) := by decide +kernel

theorem dX8_idle_0 : decode cX8_idle 0 = .ok (.aload_n 0, 1) := by decide +kernel
theorem dX8_idle_1 : decode cX8_idle 1 = .ok (.getfield 32, 3) := by decide +kernel
theorem dX8_idle_4 : decode cX8_idle 4 = .ok (.invokevirtual 153, 3) := by decide +kernel
theorem dX8_idle_7 : decode cX8_idle 7 = .ok (.ifCond .ne 6, 3) := by decide +kernel
theorem dX8_idle_10 : decode cX8_idle 10 = .ok (.bipush (-2), 2) := by decide +kernel
theorem dX8_idle_12 : decode cX8_idle 12 = .ok (.ireturn, 1) := by decide +kernel
theorem dX8_idle_13 : decode cX8_idle 13 = .ok (.aload_n 0, 1) := by decide +kernel
theorem dX8_idle_14 : decode cX8_idle 14 = .ok (.invokevirtual 234, 3) := by decide +kernel
theorem dX8_idle_17 : decode cX8_idle 17 = .ok (.istore_n 1, 1) := by decide +kernel
theorem dX8_idle_18 : decode cX8_idle 18 = .ok (.iconst 0, 1) := by decide +kernel
theorem dX8_idle_19 : decode cX8_idle 19 = .ok (.istore_n 2, 1) := by decide +kernel
theorem dX8_idle_20 : decode cX8_idle 20 = .ok (.iconst 0, 1) := by decide +kernel
theorem dX8_idle_21 : decode cX8_idle 21 = .ok (.istore_n 3, 1) := by decide +kernel
theorem dX8_idle_22 : decode cX8_idle 22 = .ok (.iload_n 3, 1) := by decide +kernel
theorem dX8_idle_23 : decode cX8_idle 23 = .ok (.aload_n 0, 1) := by decide +kernel
theorem dX8_idle_24 : decode cX8_idle 24 = .ok (.getfield 32, 3) := by decide +kernel
theorem dX8_idle_27 : decode cX8_idle 27 = .ok (.getfield 162, 3) := by decide +kernel
theorem dX8_idle_30 : decode cX8_idle 30 = .ok (.if_icmp .ge 42, 3) := by decide +kernel
theorem dX8_idle_33 : decode cX8_idle 33 = .ok (.aload_n 0, 1) := by decide +kernel
theorem dX8_idle_34 : decode cX8_idle 34 = .ok (.getfield 32, 3) := by decide +kernel
theorem dX8_idle_37 : decode cX8_idle 37 = .ok (.aload_n 0, 1) := by decide +kernel
theorem dX8_idle_38 : decode cX8_idle 38 = .ok (.getfield 32, 3) := by decide +kernel
theorem dX8_idle_41 : decode cX8_idle 41 = .ok (.getfield 237, 3) := by decide +kernel
theorem dX8_idle_44 : decode cX8_idle 44 = .ok (.iload_n 3, 1) := by decide +kernel
theorem dX8_idle_45 : decode cX8_idle 45 = .ok (.iaload, 1) := by decide +kernel
theorem dX8_idle_46 : decode cX8_idle 46 = .ok (.invokevirtual 211, 3) := by decide +kernel
theorem dX8_idle_49 : decode cX8_idle 49 = .ok (.ifCond .eq 17, 3) := by decide +kernel
theorem dX8_idle_52 : decode cX8_idle 52 = .ok (.iload_n 1, 1) := by decide +kernel
theorem dX8_idle_53 : decode cX8_idle 53 = .ok (.iload_n 3, 1) := by decide +kernel
theorem dX8_idle_54 : decode cX8_idle 54 = .ok (.invokestatic 145, 3) := by decide +kernel
theorem dX8_idle_57 : decode cX8_idle 57 = .ok (.ifCond .ne 9, 3) := by decide +kernel
theorem dX8_idle_60 : decode cX8_idle 60 = .ok (.iload_n 2, 1) := by decide +kernel
theorem dX8_idle_61 : decode cX8_idle 61 = .ok (.iconst 1, 1) := by decide +kernel
theorem dX8_idle_62 : decode cX8_idle 62 = .ok (.iload_n 3, 1) := by decide +kernel
theorem dX8_idle_63 : decode cX8_idle 63 = .ok (.ishl, 1) := by decide +kernel
theorem dX8_idle_64 : decode cX8_idle 64 = .ok (.ior, 1) := by decide +kernel
theorem dX8_idle_65 : decode cX8_idle 65 = .ok (.istore_n 2, 1) := by decide +kernel
theorem dX8_idle_66 : decode cX8_idle 66 = .ok (.iinc 3 1, 3) := by decide +kernel
theorem dX8_idle_69 : decode cX8_idle 69 = .ok (.goto (-47), 3) := by decide +kernel
theorem dX8_idle_72 : decode cX8_idle 72 = .ok (.iload_n 2, 1) := by decide +kernel
theorem dX8_idle_73 : decode cX8_idle 73 = .ok (.ireturn, 1) := by decide +kernel

theorem dX8_image_0 : decode cX8_image 0 = .ok (.iload_n 1, 1) := by decide +kernel
theorem dX8_image_1 : decode cX8_image 1 = .ok (.ifCond .lt 8, 3) := by decide +kernel
theorem dX8_image_4 : decode cX8_image 4 = .ok (.iload_n 1, 1) := by decide +kernel
theorem dX8_image_5 : decode cX8_image 5 = .ok (.iconst 3, 1) := by decide +kernel
theorem dX8_image_6 : decode cX8_image 6 = .ok (.if_icmp .lt 6, 3) := by decide +kernel
theorem dX8_image_9 : decode cX8_image 9 = .ok (.bipush (-2), 2) := by decide +kernel
theorem dX8_image_11 : decode cX8_image 11 = .ok (.ireturn, 1) := by decide +kernel
theorem dX8_image_12 : decode cX8_image 12 = .ok (.aload_n 0, 1) := by decide +kernel
theorem dX8_image_13 : decode cX8_image 13 = .ok (.getfield 35, 3) := by decide +kernel
theorem dX8_image_16 : decode cX8_image 16 = .ok (.iload_n 1, 1) := by decide +kernel
theorem dX8_image_17 : decode cX8_image 17 = .ok (.aaload, 1) := by decide +kernel
theorem dX8_image_18 : decode cX8_image 18 = .ok (.aload_n 0, 1) := by decide +kernel
theorem dX8_image_19 : decode cX8_image 19 = .ok (.getfield 32, 3) := by decide +kernel
theorem dX8_image_22 : decode cX8_image 22 = .ok (.invokevirtual 112, 3) := by decide +kernel
theorem dX8_image_25 : decode cX8_image 25 = .ok (.aload_n 0, 1) := by decide +kernel
theorem dX8_image_26 : decode cX8_image 26 = .ok (.getfield 39, 3) := by decide +kernel
theorem dX8_image_29 : decode cX8_image 29 = .ok (.iload_n 1, 1) := by decide +kernel
theorem dX8_image_30 : decode cX8_image 30 = .ok (.iconst 1, 1) := by decide +kernel
theorem dX8_image_31 : decode cX8_image 31 = .ok (.bastore, 1) := by decide +kernel
theorem dX8_image_32 : decode cX8_image 32 = .ok (.iconst 0, 1) := by decide +kernel
theorem dX8_image_33 : decode cX8_image 33 = .ok (.ireturn, 1) := by decide +kernel

theorem dX8_isPair_0 : decode cX8_isPair 0 = .ok (.aload_n 0, 1) := by decide +kernel
theorem dX8_isPair_1 : decode cX8_isPair 1 = .ok (.getfield 32, 3) := by decide +kernel
theorem dX8_isPair_4 : decode cX8_isPair 4 = .ok (.iload_n 1, 1) := by decide +kernel
theorem dX8_isPair_5 : decode cX8_isPair 5 = .ok (.invokevirtual 127, 3) := by decide +kernel
theorem dX8_isPair_8 : decode cX8_isPair 8 = .ok (.ifCond .eq 23, 3) := by decide +kernel
theorem dX8_isPair_11 : decode cX8_isPair 11 = .ok (.aload_n 0, 1) := by decide +kernel
theorem dX8_isPair_12 : decode cX8_isPair 12 = .ok (.getfield 32, 3) := by decide +kernel
theorem dX8_isPair_15 : decode cX8_isPair 15 = .ok (.iload_n 2, 1) := by decide +kernel
theorem dX8_isPair_16 : decode cX8_isPair 16 = .ok (.invokevirtual 127, 3) := by decide +kernel
theorem dX8_isPair_19 : decode cX8_isPair 19 = .ok (.ifCond .eq 12, 3) := by decide +kernel
theorem dX8_isPair_22 : decode cX8_isPair 22 = .ok (.iload_n 1, 1) := by decide +kernel
theorem dX8_isPair_23 : decode cX8_isPair 23 = .ok (.iload_n 2, 1) := by decide +kernel
theorem dX8_isPair_24 : decode cX8_isPair 24 = .ok (.if_icmp .eq 7, 3) := by decide +kernel
theorem dX8_isPair_27 : decode cX8_isPair 27 = .ok (.iconst 1, 1) := by decide +kernel
theorem dX8_isPair_28 : decode cX8_isPair 28 = .ok (.goto 4, 3) := by decide +kernel
theorem dX8_isPair_31 : decode cX8_isPair 31 = .ok (.iconst 0, 1) := by decide +kernel
theorem dX8_isPair_32 : decode cX8_isPair 32 = .ok (.ireturn, 1) := by decide +kernel

theorem dX8_keeps_0 : decode cX8_keeps 0 = .ok (.aload_n 0, 1) := by decide +kernel
theorem dX8_keeps_1 : decode cX8_keeps 1 = .ok (.iload_n 1, 1) := by decide +kernel
theorem dX8_keeps_2 : decode cX8_keeps 2 = .ok (.iload_n 2, 1) := by decide +kernel
theorem dX8_keeps_3 : decode cX8_keeps 3 = .ok (.invokevirtual 186, 3) := by decide +kernel
theorem dX8_keeps_6 : decode cX8_keeps 6 = .ok (.ifCond .eq 15, 3) := by decide +kernel
theorem dX8_keeps_9 : decode cX8_keeps 9 = .ok (.aload_n 0, 1) := by decide +kernel
theorem dX8_keeps_10 : decode cX8_keeps 10 = .ok (.invokevirtual 189, 3) := by decide +kernel
theorem dX8_keeps_13 : decode cX8_keeps 13 = .ok (.iload_n 1, 1) := by decide +kernel
theorem dX8_keeps_14 : decode cX8_keeps 14 = .ok (.iload_n 2, 1) := by decide +kernel
theorem dX8_keeps_15 : decode cX8_keeps 15 = .ok (.invokevirtual 220, 3) := by decide +kernel
theorem dX8_keeps_18 : decode cX8_keeps 18 = .ok (.goto 5, 3) := by decide +kernel
theorem dX8_keeps_21 : decode cX8_keeps 21 = .ok (.bipush (-2), 2) := by decide +kernel
theorem dX8_keeps_23 : decode cX8_keeps 23 = .ok (.ireturn, 1) := by decide +kernel

theorem dX8_knife_0 : decode cX8_knife 0 = .ok (.aload_n 0, 1) := by decide +kernel
theorem dX8_knife_1 : decode cX8_knife 1 = .ok (.iload_n 1, 1) := by decide +kernel
theorem dX8_knife_2 : decode cX8_knife 2 = .ok (.iload_n 2, 1) := by decide +kernel
theorem dX8_knife_3 : decode cX8_knife 3 = .ok (.invokevirtual 371, 3) := by decide +kernel
theorem dX8_knife_6 : decode cX8_knife 6 = .ok (.istore_n 3, 1) := by decide +kernel
theorem dX8_knife_7 : decode cX8_knife 7 = .ok (.iload_n 3, 1) := by decide +kernel
theorem dX8_knife_8 : decode cX8_knife 8 = .ok (.ifCond .eq 5, 3) := by decide +kernel
theorem dX8_knife_11 : decode cX8_knife 11 = .ok (.iload_n 3, 1) := by decide +kernel
theorem dX8_knife_12 : decode cX8_knife 12 = .ok (.ireturn, 1) := by decide +kernel
theorem dX8_knife_13 : decode cX8_knife 13 = .ok (.aload_n 0, 1) := by decide +kernel
theorem dX8_knife_14 : decode cX8_knife 14 = .ok (.getfield 32, 3) := by decide +kernel
theorem dX8_knife_17 : decode cX8_knife 17 = .ok (.iconst 0, 1) := by decide +kernel
theorem dX8_knife_18 : decode cX8_knife 18 = .ok (.iload_n 1, 1) := by decide +kernel
theorem dX8_knife_19 : decode cX8_knife 19 = .ok (.iload_n 2, 1) := by decide +kernel
theorem dX8_knife_20 : decode cX8_knife 20 = .ok (.invokevirtual 374, 3) := by decide +kernel
theorem dX8_knife_23 : decode cX8_knife 23 = .ok (.aload_n 0, 1) := by decide +kernel
theorem dX8_knife_24 : decode cX8_knife 24 = .ok (.invokevirtual 115, 3) := by decide +kernel
theorem dX8_knife_27 : decode cX8_knife 27 = .ok (.aload_n 0, 1) := by decide +kernel
theorem dX8_knife_28 : decode cX8_knife 28 = .ok (.invokevirtual 189, 3) := by decide +kernel
theorem dX8_knife_31 : decode cX8_knife 31 = .ok (.invokevirtual 217, 3) := by decide +kernel
theorem dX8_knife_34 : decode cX8_knife 34 = .ok (.ireturn, 1) := by decide +kernel

theorem dX8_knives_0 : decode cX8_knives 0 = .ok (.aload_n 0, 1) := by decide +kernel
theorem dX8_knives_1 : decode cX8_knives 1 = .ok (.getfield 32, 3) := by decide +kernel
theorem dX8_knives_4 : decode cX8_knives 4 = .ok (.iload_n 1, 1) := by decide +kernel
theorem dX8_knives_5 : decode cX8_knives 5 = .ok (.invokevirtual 127, 3) := by decide +kernel
theorem dX8_knives_8 : decode cX8_knives 8 = .ok (.ifCond .ne 6, 3) := by decide +kernel
theorem dX8_knives_11 : decode cX8_knives 11 = .ok (.bipush (-2), 2) := by decide +kernel
theorem dX8_knives_13 : decode cX8_knives 13 = .ok (.ireturn, 1) := by decide +kernel
theorem dX8_knives_14 : decode cX8_knives 14 = .ok (.iconst 0, 1) := by decide +kernel
theorem dX8_knives_15 : decode cX8_knives 15 = .ok (.istore_n 2, 1) := by decide +kernel
theorem dX8_knives_16 : decode cX8_knives 16 = .ok (.iconst 0, 1) := by decide +kernel
theorem dX8_knives_17 : decode cX8_knives 17 = .ok (.istore_n 3, 1) := by decide +kernel
theorem dX8_knives_18 : decode cX8_knives 18 = .ok (.iload_n 3, 1) := by decide +kernel
theorem dX8_knives_19 : decode cX8_knives 19 = .ok (.aload_n 0, 1) := by decide +kernel
theorem dX8_knives_20 : decode cX8_knives 20 = .ok (.getfield 32, 3) := by decide +kernel
theorem dX8_knives_23 : decode cX8_knives 23 = .ok (.getfield 162, 3) := by decide +kernel
theorem dX8_knives_26 : decode cX8_knives 26 = .ok (.if_icmp .ge 28, 3) := by decide +kernel
theorem dX8_knives_29 : decode cX8_knives 29 = .ok (.aload_n 0, 1) := by decide +kernel
theorem dX8_knives_30 : decode cX8_knives 30 = .ok (.getfield 32, 3) := by decide +kernel
theorem dX8_knives_33 : decode cX8_knives 33 = .ok (.getfield 165, 3) := by decide +kernel
theorem dX8_knives_36 : decode cX8_knives 36 = .ok (.iload_n 3, 1) := by decide +kernel
theorem dX8_knives_37 : decode cX8_knives 37 = .ok (.iaload, 1) := by decide +kernel
theorem dX8_knives_38 : decode cX8_knives 38 = .ok (.iload_n 1, 1) := by decide +kernel
theorem dX8_knives_39 : decode cX8_knives 39 = .ok (.if_icmp .ne 9, 3) := by decide +kernel
theorem dX8_knives_42 : decode cX8_knives 42 = .ok (.iload_n 2, 1) := by decide +kernel
theorem dX8_knives_43 : decode cX8_knives 43 = .ok (.iconst 1, 1) := by decide +kernel
theorem dX8_knives_44 : decode cX8_knives 44 = .ok (.iload_n 3, 1) := by decide +kernel
theorem dX8_knives_45 : decode cX8_knives 45 = .ok (.ishl, 1) := by decide +kernel
theorem dX8_knives_46 : decode cX8_knives 46 = .ok (.ior, 1) := by decide +kernel
theorem dX8_knives_47 : decode cX8_knives 47 = .ok (.istore_n 2, 1) := by decide +kernel
theorem dX8_knives_48 : decode cX8_knives 48 = .ok (.iinc 3 1, 3) := by decide +kernel
theorem dX8_knives_51 : decode cX8_knives 51 = .ok (.goto (-33), 3) := by decide +kernel
theorem dX8_knives_54 : decode cX8_knives 54 = .ok (.iload_n 2, 1) := by decide +kernel
theorem dX8_knives_55 : decode cX8_knives 55 = .ok (.ireturn, 1) := by decide +kernel

theorem dX8_law_0 : decode cX8_law 0 = .ok (.aload_n 0, 1) := by decide +kernel
theorem dX8_law_1 : decode cX8_law 1 = .ok (.getfield 32, 3) := by decide +kernel
theorem dX8_law_4 : decode cX8_law 4 = .ok (.invokevirtual 153, 3) := by decide +kernel
theorem dX8_law_7 : decode cX8_law 7 = .ok (.ifCond .ne 6, 3) := by decide +kernel
theorem dX8_law_10 : decode cX8_law 10 = .ok (.bipush (-2), 2) := by decide +kernel
theorem dX8_law_12 : decode cX8_law 12 = .ok (.ireturn, 1) := by decide +kernel
theorem dX8_law_13 : decode cX8_law 13 = .ok (.iconst 0, 1) := by decide +kernel
theorem dX8_law_14 : decode cX8_law 14 = .ok (.istore_n 1, 1) := by decide +kernel
theorem dX8_law_15 : decode cX8_law 15 = .ok (.iconst (-1), 1) := by decide +kernel
theorem dX8_law_16 : decode cX8_law 16 = .ok (.istore_n 2, 1) := by decide +kernel
theorem dX8_law_17 : decode cX8_law 17 = .ok (.iconst 0, 1) := by decide +kernel
theorem dX8_law_18 : decode cX8_law 18 = .ok (.istore_n 3, 1) := by decide +kernel
theorem dX8_law_19 : decode cX8_law 19 = .ok (.iload_n 3, 1) := by decide +kernel
theorem dX8_law_20 : decode cX8_law 20 = .ok (.iconst 4, 1) := by decide +kernel
theorem dX8_law_21 : decode cX8_law 21 = .ok (.if_icmp .ge 27, 3) := by decide +kernel
theorem dX8_law_24 : decode cX8_law 24 = .ok (.aload_n 0, 1) := by decide +kernel
theorem dX8_law_25 : decode cX8_law 25 = .ok (.iload_n 3, 1) := by decide +kernel
theorem dX8_law_26 : decode cX8_law 26 = .ok (.invokevirtual 326, 3) := by decide +kernel
theorem dX8_law_29 : decode cX8_law 29 = .ok (.istore 4, 2) := by decide +kernel
theorem dX8_law_31 : decode cX8_law 31 = .ok (.iload 4, 2) := by decide +kernel
theorem dX8_law_33 : decode cX8_law 33 = .ok (.iload_n 2, 1) := by decide +kernel
theorem dX8_law_34 : decode cX8_law 34 = .ok (.if_icmp .le 8, 3) := by decide +kernel
theorem dX8_law_37 : decode cX8_law 37 = .ok (.iload 4, 2) := by decide +kernel
theorem dX8_law_39 : decode cX8_law 39 = .ok (.istore_n 2, 1) := by decide +kernel
theorem dX8_law_40 : decode cX8_law 40 = .ok (.iload_n 3, 1) := by decide +kernel
theorem dX8_law_41 : decode cX8_law 41 = .ok (.istore_n 1, 1) := by decide +kernel
theorem dX8_law_42 : decode cX8_law 42 = .ok (.iinc 3 1, 3) := by decide +kernel
theorem dX8_law_45 : decode cX8_law 45 = .ok (.goto (-26), 3) := by decide +kernel
theorem dX8_law_48 : decode cX8_law 48 = .ok (.iload_n 1, 1) := by decide +kernel
theorem dX8_law_49 : decode cX8_law 49 = .ok (.ireturn, 1) := by decide +kernel

theorem dX8_laws_0 : decode cX8_laws 0 = .ok (.aload_n 0, 1) := by decide +kernel
theorem dX8_laws_1 : decode cX8_laws 1 = .ok (.getfield 32, 3) := by decide +kernel
theorem dX8_laws_4 : decode cX8_laws 4 = .ok (.invokevirtual 153, 3) := by decide +kernel
theorem dX8_laws_7 : decode cX8_laws 7 = .ok (.ifCond .eq 11, 3) := by decide +kernel
theorem dX8_laws_10 : decode cX8_laws 10 = .ok (.aload_n 0, 1) := by decide +kernel
theorem dX8_laws_11 : decode cX8_laws 11 = .ok (.iload_n 1, 1) := by decide +kernel
theorem dX8_laws_12 : decode cX8_laws 12 = .ok (.invokevirtual 312, 3) := by decide +kernel
theorem dX8_laws_15 : decode cX8_laws 15 = .ok (.goto 5, 3) := by decide +kernel
theorem dX8_laws_18 : decode cX8_laws 18 = .ok (.bipush (-2), 2) := by decide +kernel
theorem dX8_laws_20 : decode cX8_laws 20 = .ok (.istore_n 2, 1) := by decide +kernel
theorem dX8_laws_21 : decode cX8_laws 21 = .ok (.iload_n 2, 1) := by decide +kernel
theorem dX8_laws_22 : decode cX8_laws 22 = .ok (.ifCond .eq 5, 3) := by decide +kernel
theorem dX8_laws_25 : decode cX8_laws 25 = .ok (.iload_n 2, 1) := by decide +kernel
theorem dX8_laws_26 : decode cX8_laws 26 = .ok (.ireturn, 1) := by decide +kernel
theorem dX8_laws_27 : decode cX8_laws 27 = .ok (.aload_n 0, 1) := by decide +kernel
theorem dX8_laws_28 : decode cX8_laws 28 = .ok (.aload_n 0, 1) := by decide +kernel
theorem dX8_laws_29 : decode cX8_laws 29 = .ok (.getfield 32, 3) := by decide +kernel
theorem dX8_laws_32 : decode cX8_laws 32 = .ok (.invokevirtual 315, 3) := by decide +kernel
theorem dX8_laws_35 : decode cX8_laws 35 = .ok (.invokevirtual 318, 3) := by decide +kernel
theorem dX8_laws_38 : decode cX8_laws 38 = .ok (.iconst 0, 1) := by decide +kernel
theorem dX8_laws_39 : decode cX8_laws 39 = .ok (.istore_n 3, 1) := by decide +kernel
theorem dX8_laws_40 : decode cX8_laws 40 = .ok (.iconst 0, 1) := by decide +kernel
theorem dX8_laws_41 : decode cX8_laws 41 = .ok (.istore 4, 2) := by decide +kernel
theorem dX8_laws_43 : decode cX8_laws 43 = .ok (.iload 4, 2) := by decide +kernel
theorem dX8_laws_45 : decode cX8_laws 45 = .ok (.iconst 4, 1) := by decide +kernel
theorem dX8_laws_46 : decode cX8_laws 46 = .ok (.if_icmp .ge 41, 3) := by decide +kernel
theorem dX8_laws_49 : decode cX8_laws 49 = .ok (.aload_n 0, 1) := by decide +kernel
theorem dX8_laws_50 : decode cX8_laws 50 = .ok (.getfield 59, 3) := by decide +kernel
theorem dX8_laws_53 : decode cX8_laws 53 = .ok (.iload 4, 2) := by decide +kernel
theorem dX8_laws_55 : decode cX8_laws 55 = .ok (.putfield 321, 3) := by decide +kernel
theorem dX8_laws_58 : decode cX8_laws 58 = .ok (.aload_n 0, 1) := by decide +kernel
theorem dX8_laws_59 : decode cX8_laws 59 = .ok (.getfield 83, 3) := by decide +kernel
theorem dX8_laws_62 : decode cX8_laws 62 = .ok (.iload_n 1, 1) := by decide +kernel
theorem dX8_laws_63 : decode cX8_laws 63 = .ok (.iconst (-1), 1) := by decide +kernel
theorem dX8_laws_64 : decode cX8_laws 64 = .ok (.aload_n 0, 1) := by decide +kernel
theorem dX8_laws_65 : decode cX8_laws 65 = .ok (.getfield 59, 3) := by decide +kernel
theorem dX8_laws_68 : decode cX8_laws 68 = .ok (.invokevirtual 322, 3) := by decide +kernel
theorem dX8_laws_71 : decode cX8_laws 71 = .ok (.ifCond .eq 10, 3) := by decide +kernel
theorem dX8_laws_74 : decode cX8_laws 74 = .ok (.iload_n 3, 1) := by decide +kernel
theorem dX8_laws_75 : decode cX8_laws 75 = .ok (.iconst 1, 1) := by decide +kernel
theorem dX8_laws_76 : decode cX8_laws 76 = .ok (.iload 4, 2) := by decide +kernel
theorem dX8_laws_78 : decode cX8_laws 78 = .ok (.ishl, 1) := by decide +kernel
theorem dX8_laws_79 : decode cX8_laws 79 = .ok (.ior, 1) := by decide +kernel
theorem dX8_laws_80 : decode cX8_laws 80 = .ok (.istore_n 3, 1) := by decide +kernel
theorem dX8_laws_81 : decode cX8_laws 81 = .ok (.iinc 4 1, 3) := by decide +kernel
theorem dX8_laws_84 : decode cX8_laws 84 = .ok (.goto (-41), 3) := by decide +kernel
theorem dX8_laws_87 : decode cX8_laws 87 = .ok (.iload_n 3, 1) := by decide +kernel
theorem dX8_laws_88 : decode cX8_laws 88 = .ok (.ireturn, 1) := by decide +kernel

theorem dX8_leaves_0 : decode cX8_leaves 0 = .ok (.aload_n 0, 1) := by decide +kernel
theorem dX8_leaves_1 : decode cX8_leaves 1 = .ok (.iload_n 1, 1) := by decide +kernel
theorem dX8_leaves_2 : decode cX8_leaves 2 = .ok (.iload_n 2, 1) := by decide +kernel
theorem dX8_leaves_3 : decode cX8_leaves 3 = .ok (.invokevirtual 289, 3) := by decide +kernel
theorem dX8_leaves_6 : decode cX8_leaves 6 = .ok (.istore_n 3, 1) := by decide +kernel
theorem dX8_leaves_7 : decode cX8_leaves 7 = .ok (.iload_n 3, 1) := by decide +kernel
theorem dX8_leaves_8 : decode cX8_leaves 8 = .ok (.ifCond .eq 5, 3) := by decide +kernel
theorem dX8_leaves_11 : decode cX8_leaves 11 = .ok (.iload_n 3, 1) := by decide +kernel
theorem dX8_leaves_12 : decode cX8_leaves 12 = .ok (.ireturn, 1) := by decide +kernel
theorem dX8_leaves_13 : decode cX8_leaves 13 = .ok (.aload_n 0, 1) := by decide +kernel
theorem dX8_leaves_14 : decode cX8_leaves 14 = .ok (.getfield 83, 3) := by decide +kernel
theorem dX8_leaves_17 : decode cX8_leaves 17 = .ok (.iload_n 1, 1) := by decide +kernel
theorem dX8_leaves_18 : decode cX8_leaves 18 = .ok (.iload_n 2, 1) := by decide +kernel
theorem dX8_leaves_19 : decode cX8_leaves 19 = .ok (.aload_n 0, 1) := by decide +kernel
theorem dX8_leaves_20 : decode cX8_leaves 20 = .ok (.invokevirtual 189, 3) := by decide +kernel
theorem dX8_leaves_23 : decode cX8_leaves 23 = .ok (.invokevirtual 302, 3) := by decide +kernel
theorem dX8_leaves_26 : decode cX8_leaves 26 = .ok (.aload_n 0, 1) := by decide +kernel
theorem dX8_leaves_27 : decode cX8_leaves 27 = .ok (.getfield 83, 3) := by decide +kernel
theorem dX8_leaves_30 : decode cX8_leaves 30 = .ok (.getfield 309, 3) := by decide +kernel
theorem dX8_leaves_33 : decode cX8_leaves 33 = .ok (.ireturn, 1) := by decide +kernel

theorem dX8_lone_0 : decode cX8_lone 0 = .ok (.aload_n 0, 1) := by decide +kernel
theorem dX8_lone_1 : decode cX8_lone 1 = .ok (.getfield 32, 3) := by decide +kernel
theorem dX8_lone_4 : decode cX8_lone 4 = .ok (.iload_n 1, 1) := by decide +kernel
theorem dX8_lone_5 : decode cX8_lone 5 = .ok (.invokevirtual 196, 3) := by decide +kernel
theorem dX8_lone_8 : decode cX8_lone 8 = .ok (.ifCond .ne 6, 3) := by decide +kernel
theorem dX8_lone_11 : decode cX8_lone 11 = .ok (.bipush (-2), 2) := by decide +kernel
theorem dX8_lone_13 : decode cX8_lone 13 = .ok (.ireturn, 1) := by decide +kernel
theorem dX8_lone_14 : decode cX8_lone 14 = .ok (.aload_n 0, 1) := by decide +kernel
theorem dX8_lone_15 : decode cX8_lone 15 = .ok (.invokevirtual 189, 3) := by decide +kernel
theorem dX8_lone_18 : decode cX8_lone 18 = .ok (.iload_n 1, 1) := by decide +kernel
theorem dX8_lone_19 : decode cX8_lone 19 = .ok (.invokevirtual 199, 3) := by decide +kernel
theorem dX8_lone_22 : decode cX8_lone 22 = .ok (.istore_n 2, 1) := by decide +kernel
theorem dX8_lone_23 : decode cX8_lone 23 = .ok (.iconst 0, 1) := by decide +kernel
theorem dX8_lone_24 : decode cX8_lone 24 = .ok (.istore_n 3, 1) := by decide +kernel
theorem dX8_lone_25 : decode cX8_lone 25 = .ok (.iconst 0, 1) := by decide +kernel
theorem dX8_lone_26 : decode cX8_lone 26 = .ok (.istore 4, 2) := by decide +kernel
theorem dX8_lone_28 : decode cX8_lone 28 = .ok (.iload 4, 2) := by decide +kernel
theorem dX8_lone_30 : decode cX8_lone 30 = .ok (.aload_n 0, 1) := by decide +kernel
theorem dX8_lone_31 : decode cX8_lone 31 = .ok (.getfield 32, 3) := by decide +kernel
theorem dX8_lone_34 : decode cX8_lone 34 = .ok (.getfield 156, 3) := by decide +kernel
theorem dX8_lone_37 : decode cX8_lone 37 = .ok (.if_icmp .ge 51, 3) := by decide +kernel
theorem dX8_lone_40 : decode cX8_lone 40 = .ok (.aload_n 0, 1) := by decide +kernel
theorem dX8_lone_41 : decode cX8_lone 41 = .ok (.getfield 32, 3) := by decide +kernel
theorem dX8_lone_44 : decode cX8_lone 44 = .ok (.iload 4, 2) := by decide +kernel
theorem dX8_lone_46 : decode cX8_lone 46 = .ok (.iconst (-1), 1) := by decide +kernel
theorem dX8_lone_47 : decode cX8_lone 47 = .ok (.invokevirtual 141, 3) := by decide +kernel
theorem dX8_lone_50 : decode cX8_lone 50 = .ok (.istore 5, 2) := by decide +kernel
theorem dX8_lone_52 : decode cX8_lone 52 = .ok (.iload_n 2, 1) := by decide +kernel
theorem dX8_lone_53 : decode cX8_lone 53 = .ok (.iload 4, 2) := by decide +kernel
theorem dX8_lone_55 : decode cX8_lone 55 = .ok (.invokestatic 145, 3) := by decide +kernel
theorem dX8_lone_58 : decode cX8_lone 58 = .ok (.ifCond .ne 24, 3) := by decide +kernel
theorem dX8_lone_61 : decode cX8_lone 61 = .ok (.iload 5, 2) := by decide +kernel
theorem dX8_lone_63 : decode cX8_lone 63 = .ok (.ifCond .eq 19, 3) := by decide +kernel
theorem dX8_lone_66 : decode cX8_lone 66 = .ok (.iload 5, 2) := by decide +kernel
theorem dX8_lone_68 : decode cX8_lone 68 = .ok (.iload_n 2, 1) := by decide +kernel
theorem dX8_lone_69 : decode cX8_lone 69 = .ok (.iconst (-1), 1) := by decide +kernel
theorem dX8_lone_70 : decode cX8_lone 70 = .ok (.ixor, 1) := by decide +kernel
theorem dX8_lone_71 : decode cX8_lone 71 = .ok (.iand, 1) := by decide +kernel
theorem dX8_lone_72 : decode cX8_lone 72 = .ok (.ifCond .ne 10, 3) := by decide +kernel
theorem dX8_lone_75 : decode cX8_lone 75 = .ok (.iload_n 3, 1) := by decide +kernel
theorem dX8_lone_76 : decode cX8_lone 76 = .ok (.iconst 1, 1) := by decide +kernel
theorem dX8_lone_77 : decode cX8_lone 77 = .ok (.iload 4, 2) := by decide +kernel
theorem dX8_lone_79 : decode cX8_lone 79 = .ok (.ishl, 1) := by decide +kernel
theorem dX8_lone_80 : decode cX8_lone 80 = .ok (.ior, 1) := by decide +kernel
theorem dX8_lone_81 : decode cX8_lone 81 = .ok (.istore_n 3, 1) := by decide +kernel
theorem dX8_lone_82 : decode cX8_lone 82 = .ok (.iinc 4 1, 3) := by decide +kernel
theorem dX8_lone_85 : decode cX8_lone 85 = .ok (.goto (-57), 3) := by decide +kernel
theorem dX8_lone_88 : decode cX8_lone 88 = .ok (.iload_n 3, 1) := by decide +kernel
theorem dX8_lone_89 : decode cX8_lone 89 = .ok (.ireturn, 1) := by decide +kernel

theorem dX8_lost_0 : decode cX8_lost 0 = .ok (.aload_n 0, 1) := by decide +kernel
theorem dX8_lost_1 : decode cX8_lost 1 = .ok (.getfield 32, 3) := by decide +kernel
theorem dX8_lost_4 : decode cX8_lost 4 = .ok (.invokevirtual 153, 3) := by decide +kernel
theorem dX8_lost_7 : decode cX8_lost 7 = .ok (.ifCond .ne 6, 3) := by decide +kernel
theorem dX8_lost_10 : decode cX8_lost 10 = .ok (.bipush (-2), 2) := by decide +kernel
theorem dX8_lost_12 : decode cX8_lost 12 = .ok (.ireturn, 1) := by decide +kernel
theorem dX8_lost_13 : decode cX8_lost 13 = .ok (.iconst 0, 1) := by decide +kernel
theorem dX8_lost_14 : decode cX8_lost 14 = .ok (.istore_n 1, 1) := by decide +kernel
theorem dX8_lost_15 : decode cX8_lost 15 = .ok (.iconst 0, 1) := by decide +kernel
theorem dX8_lost_16 : decode cX8_lost 16 = .ok (.istore_n 2, 1) := by decide +kernel
theorem dX8_lost_17 : decode cX8_lost 17 = .ok (.iload_n 2, 1) := by decide +kernel
theorem dX8_lost_18 : decode cX8_lost 18 = .ok (.aload_n 0, 1) := by decide +kernel
theorem dX8_lost_19 : decode cX8_lost 19 = .ok (.getfield 32, 3) := by decide +kernel
theorem dX8_lost_22 : decode cX8_lost 22 = .ok (.getfield 156, 3) := by decide +kernel
theorem dX8_lost_25 : decode cX8_lost 25 = .ok (.if_icmp .ge 41, 3) := by decide +kernel
theorem dX8_lost_28 : decode cX8_lost 28 = .ok (.aload_n 0, 1) := by decide +kernel
theorem dX8_lost_29 : decode cX8_lost 29 = .ok (.invokevirtual 189, 3) := by decide +kernel
theorem dX8_lost_32 : decode cX8_lost 32 = .ok (.iload_n 2, 1) := by decide +kernel
theorem dX8_lost_33 : decode cX8_lost 33 = .ok (.invokevirtual 208, 3) := by decide +kernel
theorem dX8_lost_36 : decode cX8_lost 36 = .ok (.istore_n 3, 1) := by decide +kernel
theorem dX8_lost_37 : decode cX8_lost 37 = .ok (.iload_n 1, 1) := by decide +kernel
theorem dX8_lost_38 : decode cX8_lost 38 = .ok (.iload_n 3, 1) := by decide +kernel
theorem dX8_lost_39 : decode cX8_lost 39 = .ok (.iconst (-1), 1) := by decide +kernel
theorem dX8_lost_40 : decode cX8_lost 40 = .ok (.if_icmp .ne 7, 3) := by decide +kernel
theorem dX8_lost_43 : decode cX8_lost 43 = .ok (.iconst 0, 1) := by decide +kernel
theorem dX8_lost_44 : decode cX8_lost 44 = .ok (.goto 14, 3) := by decide +kernel
theorem dX8_lost_47 : decode cX8_lost 47 = .ok (.aload_n 0, 1) := by decide +kernel
theorem dX8_lost_48 : decode cX8_lost 48 = .ok (.getfield 32, 3) := by decide +kernel
theorem dX8_lost_51 : decode cX8_lost 51 = .ok (.getfield 131, 3) := by decide +kernel
theorem dX8_lost_54 : decode cX8_lost 54 = .ok (.iload_n 2, 1) := by decide +kernel
theorem dX8_lost_55 : decode cX8_lost 55 = .ok (.iaload, 1) := by decide +kernel
theorem dX8_lost_56 : decode cX8_lost 56 = .ok (.iload_n 3, 1) := by decide +kernel
theorem dX8_lost_57 : decode cX8_lost 57 = .ok (.isub, 1) := by decide +kernel
theorem dX8_lost_58 : decode cX8_lost 58 = .ok (.iadd, 1) := by decide +kernel
theorem dX8_lost_59 : decode cX8_lost 59 = .ok (.istore_n 1, 1) := by decide +kernel
theorem dX8_lost_60 : decode cX8_lost 60 = .ok (.iinc 2 1, 3) := by decide +kernel
theorem dX8_lost_63 : decode cX8_lost 63 = .ok (.goto (-46), 3) := by decide +kernel
theorem dX8_lost_66 : decode cX8_lost 66 = .ok (.iload_n 1, 1) := by decide +kernel
theorem dX8_lost_67 : decode cX8_lost 67 = .ok (.ireturn, 1) := by decide +kernel

theorem dX8_low_0 : decode cX8_low 0 = .ok (.aload_n 0, 1) := by decide +kernel
theorem dX8_low_1 : decode cX8_low 1 = .ok (.iload_n 1, 1) := by decide +kernel
theorem dX8_low_2 : decode cX8_low 2 = .ok (.iload_n 2, 1) := by decide +kernel
theorem dX8_low_3 : decode cX8_low 3 = .ok (.invokevirtual 289, 3) := by decide +kernel
theorem dX8_low_6 : decode cX8_low 6 = .ok (.istore_n 3, 1) := by decide +kernel
theorem dX8_low_7 : decode cX8_low 7 = .ok (.iload_n 3, 1) := by decide +kernel
theorem dX8_low_8 : decode cX8_low 8 = .ok (.ifCond .eq 5, 3) := by decide +kernel
theorem dX8_low_11 : decode cX8_low 11 = .ok (.iload_n 3, 1) := by decide +kernel
theorem dX8_low_12 : decode cX8_low 12 = .ok (.ireturn, 1) := by decide +kernel
theorem dX8_low_13 : decode cX8_low 13 = .ok (.aload_n 0, 1) := by decide +kernel
theorem dX8_low_14 : decode cX8_low 14 = .ok (.getfield 83, 3) := by decide +kernel
theorem dX8_low_17 : decode cX8_low 17 = .ok (.iload_n 1, 1) := by decide +kernel
theorem dX8_low_18 : decode cX8_low 18 = .ok (.iload_n 2, 1) := by decide +kernel
theorem dX8_low_19 : decode cX8_low 19 = .ok (.aload_n 0, 1) := by decide +kernel
theorem dX8_low_20 : decode cX8_low 20 = .ok (.invokevirtual 189, 3) := by decide +kernel
theorem dX8_low_23 : decode cX8_low 23 = .ok (.invokevirtual 292, 3) := by decide +kernel
theorem dX8_low_26 : decode cX8_low 26 = .ok (.pop, 1) := by decide +kernel
theorem dX8_low_27 : decode cX8_low 27 = .ok (.aload_n 0, 1) := by decide +kernel
theorem dX8_low_28 : decode cX8_low 28 = .ok (.getfield 83, 3) := by decide +kernel
theorem dX8_low_31 : decode cX8_low 31 = .ok (.invokevirtual 296, 3) := by decide +kernel
theorem dX8_low_34 : decode cX8_low 34 = .ok (.ireturn, 1) := by decide +kernel

theorem dX8_luck_0 : decode cX8_luck 0 = .ok (.aload_n 0, 1) := by decide +kernel
theorem dX8_luck_1 : decode cX8_luck 1 = .ok (.getfield 32, 3) := by decide +kernel
theorem dX8_luck_4 : decode cX8_luck 4 = .ok (.iload_n 3, 1) := by decide +kernel
theorem dX8_luck_5 : decode cX8_luck 5 = .ok (.invokevirtual 127, 3) := by decide +kernel
theorem dX8_luck_8 : decode cX8_luck 8 = .ok (.ifCond .eq 21, 3) := by decide +kernel
theorem dX8_luck_11 : decode cX8_luck 11 = .ok (.iload_n 1, 1) := by decide +kernel
theorem dX8_luck_12 : decode cX8_luck 12 = .ok (.invokestatic 364, 3) := by decide +kernel
theorem dX8_luck_15 : decode cX8_luck 15 = .ok (.ifCond .eq 14, 3) := by decide +kernel
theorem dX8_luck_18 : decode cX8_luck 18 = .ok (.iload_n 2, 1) := by decide +kernel
theorem dX8_luck_19 : decode cX8_luck 19 = .ok (.iconst 1, 1) := by decide +kernel
theorem dX8_luck_20 : decode cX8_luck 20 = .ok (.if_icmp .lt 9, 3) := by decide +kernel
theorem dX8_luck_23 : decode cX8_luck 23 = .ok (.iload_n 2, 1) := by decide +kernel
theorem dX8_luck_24 : decode cX8_luck 24 = .ok (.bipush 20, 2) := by decide +kernel
theorem dX8_luck_26 : decode cX8_luck 26 = .ok (.if_icmp .le 6, 3) := by decide +kernel
theorem dX8_luck_29 : decode cX8_luck 29 = .ok (.bipush (-2), 2) := by decide +kernel
theorem dX8_luck_31 : decode cX8_luck 31 = .ok (.ireturn, 1) := by decide +kernel
theorem dX8_luck_32 : decode cX8_luck 32 = .ok (.iconst 0, 1) := by decide +kernel
theorem dX8_luck_33 : decode cX8_luck 33 = .ok (.istore 4, 2) := by decide +kernel
theorem dX8_luck_35 : decode cX8_luck 35 = .ok (.iconst 0, 1) := by decide +kernel
theorem dX8_luck_36 : decode cX8_luck 36 = .ok (.istore 5, 2) := by decide +kernel
theorem dX8_luck_38 : decode cX8_luck 38 = .ok (.iload 5, 2) := by decide +kernel
theorem dX8_luck_40 : decode cX8_luck 40 = .ok (.iload_n 2, 1) := by decide +kernel
theorem dX8_luck_41 : decode cX8_luck 41 = .ok (.if_icmp .ge 54, 3) := by decide +kernel
theorem dX8_luck_44 : decode cX8_luck 44 = .ok (.aload_n 0, 1) := by decide +kernel
theorem dX8_luck_45 : decode cX8_luck 45 = .ok (.aload_n 0, 1) := by decide +kernel
theorem dX8_luck_46 : decode cX8_luck 46 = .ok (.iload_n 1, 1) := by decide +kernel
theorem dX8_luck_47 : decode cX8_luck 47 = .ok (.i2l, 1) := by decide +kernel
theorem dX8_luck_48 : decode cX8_luck 48 = .ok (.iload 5, 2) := by decide +kernel
theorem dX8_luck_50 : decode cX8_luck 50 = .ok (.i2l, 1) := by decide +kernel
theorem dX8_luck_51 : decode cX8_luck 51 = .ok (.ladd, 1) := by decide +kernel
theorem dX8_luck_52 : decode cX8_luck 52 = .ok (.invokevirtual 367, 3) := by decide +kernel
theorem dX8_luck_55 : decode cX8_luck 55 = .ok (.invokevirtual 318, 3) := by decide +kernel
theorem dX8_luck_58 : decode cX8_luck 58 = .ok (.iload 4, 2) := by decide +kernel
theorem dX8_luck_60 : decode cX8_luck 60 = .ok (.aload_n 0, 1) := by decide +kernel
theorem dX8_luck_61 : decode cX8_luck 61 = .ok (.getfield 59, 3) := by decide +kernel
theorem dX8_luck_64 : decode cX8_luck 64 = .ok (.aload_n 0, 1) := by decide +kernel
theorem dX8_luck_65 : decode cX8_luck 65 = .ok (.getfield 32, 3) := by decide +kernel
theorem dX8_luck_68 : decode cX8_luck 68 = .ok (.getfield 168, 3) := by decide +kernel
theorem dX8_luck_71 : decode cX8_luck 71 = .ok (.invokevirtual 199, 3) := by decide +kernel
theorem dX8_luck_74 : decode cX8_luck 74 = .ok (.iload_n 3, 1) := by decide +kernel
theorem dX8_luck_75 : decode cX8_luck 75 = .ok (.invokestatic 145, 3) := by decide +kernel
theorem dX8_luck_78 : decode cX8_luck 78 = .ok (.ifCond .eq 7, 3) := by decide +kernel
theorem dX8_luck_81 : decode cX8_luck 81 = .ok (.iconst 1, 1) := by decide +kernel
theorem dX8_luck_82 : decode cX8_luck 82 = .ok (.goto 4, 3) := by decide +kernel
theorem dX8_luck_85 : decode cX8_luck 85 = .ok (.iconst 0, 1) := by decide +kernel
theorem dX8_luck_86 : decode cX8_luck 86 = .ok (.iadd, 1) := by decide +kernel
theorem dX8_luck_87 : decode cX8_luck 87 = .ok (.istore 4, 2) := by decide +kernel
theorem dX8_luck_89 : decode cX8_luck 89 = .ok (.iinc 5 1, 3) := by decide +kernel
theorem dX8_luck_92 : decode cX8_luck 92 = .ok (.goto (-54), 3) := by decide +kernel
theorem dX8_luck_95 : decode cX8_luck 95 = .ok (.iload 4, 2) := by decide +kernel
theorem dX8_luck_97 : decode cX8_luck 97 = .ok (.ireturn, 1) := by decide +kernel

theorem dX8_mean_0 : decode cX8_mean 0 = .ok (.aload_n 0, 1) := by decide +kernel
theorem dX8_mean_1 : decode cX8_mean 1 = .ok (.getfield 32, 3) := by decide +kernel
theorem dX8_mean_4 : decode cX8_mean 4 = .ok (.invokevirtual 153, 3) := by decide +kernel
theorem dX8_mean_7 : decode cX8_mean 7 = .ok (.ifCond .eq 10, 3) := by decide +kernel
theorem dX8_mean_10 : decode cX8_mean 10 = .ok (.iload_n 1, 1) := by decide +kernel
theorem dX8_mean_11 : decode cX8_mean 11 = .ok (.invokestatic 263, 3) := by decide +kernel
theorem dX8_mean_14 : decode cX8_mean 14 = .ok (.ifCond .ne 7, 3) := by decide +kernel
theorem dX8_mean_17 : decode cX8_mean 17 = .ok (.ldc2_w 359, 3) := by decide +kernel
theorem dX8_mean_20 : decode cX8_mean 20 = .ok (.lreturn, 1) := by decide +kernel
theorem dX8_mean_21 : decode cX8_mean 21 = .ok (.aload_n 0, 1) := by decide +kernel
theorem dX8_mean_22 : decode cX8_mean 22 = .ok (.invokevirtual 348, 3) := by decide +kernel
theorem dX8_mean_25 : decode cX8_mean 25 = .ok (.aload_n 0, 1) := by decide +kernel
theorem dX8_mean_26 : decode cX8_mean 26 = .ok (.getfield 74, 3) := by decide +kernel
theorem dX8_mean_29 : decode cX8_mean 29 = .ok (.getfield 361, 3) := by decide +kernel
theorem dX8_mean_32 : decode cX8_mean 32 = .ok (.aload_n 0, 1) := by decide +kernel
theorem dX8_mean_33 : decode cX8_mean 33 = .ok (.getfield 74, 3) := by decide +kernel
theorem dX8_mean_36 : decode cX8_mean 36 = .ok (.getfield 355, 3) := by decide +kernel
theorem dX8_mean_39 : decode cX8_mean 39 = .ok (.iload_n 1, 1) := by decide +kernel
theorem dX8_mean_40 : decode cX8_mean 40 = .ok (.invokestatic 270, 3) := by decide +kernel
theorem dX8_mean_43 : decode cX8_mean 43 = .ok (.lreturn, 1) := by decide +kernel

theorem dX8_near_0 : decode cX8_near 0 = .ok (.aload_n 0, 1) := by decide +kernel
theorem dX8_near_1 : decode cX8_near 1 = .ok (.getfield 32, 3) := by decide +kernel
theorem dX8_near_4 : decode cX8_near 4 = .ok (.iload_n 1, 1) := by decide +kernel
theorem dX8_near_5 : decode cX8_near 5 = .ok (.invokevirtual 127, 3) := by decide +kernel
theorem dX8_near_8 : decode cX8_near 8 = .ok (.ifCond .eq 15, 3) := by decide +kernel
theorem dX8_near_11 : decode cX8_near 11 = .ok (.aload_n 0, 1) := by decide +kernel
theorem dX8_near_12 : decode cX8_near 12 = .ok (.getfield 32, 3) := by decide +kernel
theorem dX8_near_15 : decode cX8_near 15 = .ok (.iload_n 1, 1) := by decide +kernel
theorem dX8_near_16 : decode cX8_near 16 = .ok (.iconst (-1), 1) := by decide +kernel
theorem dX8_near_17 : decode cX8_near 17 = .ok (.invokevirtual 141, 3) := by decide +kernel
theorem dX8_near_20 : decode cX8_near 20 = .ok (.goto 5, 3) := by decide +kernel
theorem dX8_near_23 : decode cX8_near 23 = .ok (.bipush (-2), 2) := by decide +kernel
theorem dX8_near_25 : decode cX8_near 25 = .ok (.ireturn, 1) := by decide +kernel

theorem dX8_next_0 : decode cX8_next 0 = .ok (.aload_n 0, 1) := by decide +kernel
theorem dX8_next_1 : decode cX8_next 1 = .ok (.getfield 32, 3) := by decide +kernel
theorem dX8_next_4 : decode cX8_next 4 = .ok (.iload_n 1, 1) := by decide +kernel
theorem dX8_next_5 : decode cX8_next 5 = .ok (.invokevirtual 196, 3) := by decide +kernel
theorem dX8_next_8 : decode cX8_next 8 = .ok (.ifCond .ne 6, 3) := by decide +kernel
theorem dX8_next_11 : decode cX8_next 11 = .ok (.bipush (-2), 2) := by decide +kernel
theorem dX8_next_13 : decode cX8_next 13 = .ok (.ireturn, 1) := by decide +kernel
theorem dX8_next_14 : decode cX8_next 14 = .ok (.iconst (-1), 1) := by decide +kernel
theorem dX8_next_15 : decode cX8_next 15 = .ok (.istore_n 2, 1) := by decide +kernel
theorem dX8_next_16 : decode cX8_next 16 = .ok (.iconst (-1), 1) := by decide +kernel
theorem dX8_next_17 : decode cX8_next 17 = .ok (.istore_n 3, 1) := by decide +kernel
theorem dX8_next_18 : decode cX8_next 18 = .ok (.iconst 0, 1) := by decide +kernel
theorem dX8_next_19 : decode cX8_next 19 = .ok (.istore 4, 2) := by decide +kernel
theorem dX8_next_21 : decode cX8_next 21 = .ok (.iload 4, 2) := by decide +kernel
theorem dX8_next_23 : decode cX8_next 23 = .ok (.aload_n 0, 1) := by decide +kernel
theorem dX8_next_24 : decode cX8_next 24 = .ok (.getfield 32, 3) := by decide +kernel
theorem dX8_next_27 : decode cX8_next 27 = .ok (.getfield 156, 3) := by decide +kernel
theorem dX8_next_30 : decode cX8_next 30 = .ok (.if_icmp .ge 33, 3) := by decide +kernel
theorem dX8_next_33 : decode cX8_next 33 = .ok (.aload_n 0, 1) := by decide +kernel
theorem dX8_next_34 : decode cX8_next 34 = .ok (.invokevirtual 189, 3) := by decide +kernel
theorem dX8_next_37 : decode cX8_next 37 = .ok (.iload 4, 2) := by decide +kernel
theorem dX8_next_39 : decode cX8_next 39 = .ok (.iload_n 1, 1) := by decide +kernel
theorem dX8_next_40 : decode cX8_next 40 = .ok (.invokevirtual 220, 3) := by decide +kernel
theorem dX8_next_43 : decode cX8_next 43 = .ok (.istore 5, 2) := by decide +kernel
theorem dX8_next_45 : decode cX8_next 45 = .ok (.iload 5, 2) := by decide +kernel
theorem dX8_next_47 : decode cX8_next 47 = .ok (.iload_n 3, 1) := by decide +kernel
theorem dX8_next_48 : decode cX8_next 48 = .ok (.if_icmp .le 9, 3) := by decide +kernel
theorem dX8_next_51 : decode cX8_next 51 = .ok (.iload 5, 2) := by decide +kernel
theorem dX8_next_53 : decode cX8_next 53 = .ok (.istore_n 3, 1) := by decide +kernel
theorem dX8_next_54 : decode cX8_next 54 = .ok (.iload 4, 2) := by decide +kernel
theorem dX8_next_56 : decode cX8_next 56 = .ok (.istore_n 2, 1) := by decide +kernel
theorem dX8_next_57 : decode cX8_next 57 = .ok (.iinc 4 1, 3) := by decide +kernel
theorem dX8_next_60 : decode cX8_next 60 = .ok (.goto (-39), 3) := by decide +kernel
theorem dX8_next_63 : decode cX8_next 63 = .ok (.iload_n 2, 1) := by decide +kernel
theorem dX8_next_64 : decode cX8_next 64 = .ok (.ireturn, 1) := by decide +kernel

theorem dX8_open_0 : decode cX8_open 0 = .ok (.aload_n 0, 1) := by decide +kernel
theorem dX8_open_1 : decode cX8_open 1 = .ok (.getfield 32, 3) := by decide +kernel
theorem dX8_open_4 : decode cX8_open 4 = .ok (.iload_n 1, 1) := by decide +kernel
theorem dX8_open_5 : decode cX8_open 5 = .ok (.invokevirtual 196, 3) := by decide +kernel
theorem dX8_open_8 : decode cX8_open 8 = .ok (.ifCond .eq 14, 3) := by decide +kernel
theorem dX8_open_11 : decode cX8_open 11 = .ok (.aload_n 0, 1) := by decide +kernel
theorem dX8_open_12 : decode cX8_open 12 = .ok (.invokevirtual 189, 3) := by decide +kernel
theorem dX8_open_15 : decode cX8_open 15 = .ok (.iload_n 1, 1) := by decide +kernel
theorem dX8_open_16 : decode cX8_open 16 = .ok (.invokevirtual 199, 3) := by decide +kernel
theorem dX8_open_19 : decode cX8_open 19 = .ok (.goto 5, 3) := by decide +kernel
theorem dX8_open_22 : decode cX8_open 22 = .ok (.bipush (-2), 2) := by decide +kernel
theorem dX8_open_24 : decode cX8_open 24 = .ok (.ireturn, 1) := by decide +kernel

theorem dX8_opens_0 : decode cX8_opens 0 = .ok (.aload_n 0, 1) := by decide +kernel
theorem dX8_opens_1 : decode cX8_opens 1 = .ok (.getfield 32, 3) := by decide +kernel
theorem dX8_opens_4 : decode cX8_opens 4 = .ok (.invokevirtual 153, 3) := by decide +kernel
theorem dX8_opens_7 : decode cX8_opens 7 = .ok (.ifCond .ne 6, 3) := by decide +kernel
theorem dX8_opens_10 : decode cX8_opens 10 = .ok (.bipush (-2), 2) := by decide +kernel
theorem dX8_opens_12 : decode cX8_opens 12 = .ok (.ireturn, 1) := by decide +kernel
theorem dX8_opens_13 : decode cX8_opens 13 = .ok (.aload_n 0, 1) := by decide +kernel
theorem dX8_opens_14 : decode cX8_opens 14 = .ok (.getfield 59, 3) := by decide +kernel
theorem dX8_opens_17 : decode cX8_opens 17 = .ok (.iconst (-1), 1) := by decide +kernel
theorem dX8_opens_18 : decode cX8_opens 18 = .ok (.invokevirtual 257, 3) := by decide +kernel
theorem dX8_opens_21 : decode cX8_opens 21 = .ok (.iconst (-1), 1) := by decide +kernel
theorem dX8_opens_22 : decode cX8_opens 22 = .ok (.istore_n 1, 1) := by decide +kernel
theorem dX8_opens_23 : decode cX8_opens 23 = .ok (.iconst 0, 1) := by decide +kernel
theorem dX8_opens_24 : decode cX8_opens 24 = .ok (.istore_n 2, 1) := by decide +kernel
theorem dX8_opens_25 : decode cX8_opens 25 = .ok (.iconst 0, 1) := by decide +kernel
theorem dX8_opens_26 : decode cX8_opens 26 = .ok (.istore_n 3, 1) := by decide +kernel
theorem dX8_opens_27 : decode cX8_opens 27 = .ok (.iload_n 3, 1) := by decide +kernel
theorem dX8_opens_28 : decode cX8_opens 28 = .ok (.aload_n 0, 1) := by decide +kernel
theorem dX8_opens_29 : decode cX8_opens 29 = .ok (.getfield 32, 3) := by decide +kernel
theorem dX8_opens_32 : decode cX8_opens 32 = .ok (.getfield 156, 3) := by decide +kernel
theorem dX8_opens_35 : decode cX8_opens 35 = .ok (.if_icmp .ge 32, 3) := by decide +kernel
theorem dX8_opens_38 : decode cX8_opens 38 = .ok (.aload_n 0, 1) := by decide +kernel
theorem dX8_opens_39 : decode cX8_opens 39 = .ok (.iload_n 3, 1) := by decide +kernel
theorem dX8_opens_40 : decode cX8_opens 40 = .ok (.invokevirtual 332, 3) := by decide +kernel
theorem dX8_opens_43 : decode cX8_opens 43 = .ok (.istore 4, 2) := by decide +kernel
theorem dX8_opens_45 : decode cX8_opens 45 = .ok (.iload_n 1, 1) := by decide +kernel
theorem dX8_opens_46 : decode cX8_opens 46 = .ok (.iconst (-1), 1) := by decide +kernel
theorem dX8_opens_47 : decode cX8_opens 47 = .ok (.if_icmp .eq 9, 3) := by decide +kernel
theorem dX8_opens_50 : decode cX8_opens 50 = .ok (.iload 4, 2) := by decide +kernel
theorem dX8_opens_52 : decode cX8_opens 52 = .ok (.iload_n 2, 1) := by decide +kernel
theorem dX8_opens_53 : decode cX8_opens 53 = .ok (.if_icmp .le 8, 3) := by decide +kernel
theorem dX8_opens_56 : decode cX8_opens 56 = .ok (.iload 4, 2) := by decide +kernel
theorem dX8_opens_58 : decode cX8_opens 58 = .ok (.istore_n 2, 1) := by decide +kernel
theorem dX8_opens_59 : decode cX8_opens 59 = .ok (.iload_n 3, 1) := by decide +kernel
theorem dX8_opens_60 : decode cX8_opens 60 = .ok (.istore_n 1, 1) := by decide +kernel
theorem dX8_opens_61 : decode cX8_opens 61 = .ok (.iinc 3 1, 3) := by decide +kernel
theorem dX8_opens_64 : decode cX8_opens 64 = .ok (.goto (-37), 3) := by decide +kernel
theorem dX8_opens_67 : decode cX8_opens 67 = .ok (.iload_n 1, 1) := by decide +kernel
theorem dX8_opens_68 : decode cX8_opens 68 = .ok (.ireturn, 1) := by decide +kernel

theorem dX8_part_0 : decode cX8_part 0 = .ok (.aload_n 0, 1) := by decide +kernel
theorem dX8_part_1 : decode cX8_part 1 = .ok (.getfield 32, 3) := by decide +kernel
theorem dX8_part_4 : decode cX8_part 4 = .ok (.iload_n 1, 1) := by decide +kernel
theorem dX8_part_5 : decode cX8_part 5 = .ok (.invokevirtual 127, 3) := by decide +kernel
theorem dX8_part_8 : decode cX8_part 8 = .ok (.ifCond .ne 6, 3) := by decide +kernel
theorem dX8_part_11 : decode cX8_part 11 = .ok (.bipush (-2), 2) := by decide +kernel
theorem dX8_part_13 : decode cX8_part 13 = .ok (.ireturn, 1) := by decide +kernel
theorem dX8_part_14 : decode cX8_part 14 = .ok (.iload_n 2, 1) := by decide +kernel
theorem dX8_part_15 : decode cX8_part 15 = .ok (.tableswitch 55 0 2 #[25, 35, 45], 25) := by decide +kernel
theorem dX8_part_40 : decode cX8_part 40 = .ok (.aload_n 0, 1) := by decide +kernel
theorem dX8_part_41 : decode cX8_part 41 = .ok (.getfield 32, 3) := by decide +kernel
theorem dX8_part_44 : decode cX8_part 44 = .ok (.getfield 131, 3) := by decide +kernel
theorem dX8_part_47 : decode cX8_part 47 = .ok (.iload_n 1, 1) := by decide +kernel
theorem dX8_part_48 : decode cX8_part 48 = .ok (.iaload, 1) := by decide +kernel
theorem dX8_part_49 : decode cX8_part 49 = .ok (.ireturn, 1) := by decide +kernel
theorem dX8_part_50 : decode cX8_part 50 = .ok (.aload_n 0, 1) := by decide +kernel
theorem dX8_part_51 : decode cX8_part 51 = .ok (.getfield 32, 3) := by decide +kernel
theorem dX8_part_54 : decode cX8_part 54 = .ok (.getfield 135, 3) := by decide +kernel
theorem dX8_part_57 : decode cX8_part 57 = .ok (.iload_n 1, 1) := by decide +kernel
theorem dX8_part_58 : decode cX8_part 58 = .ok (.iaload, 1) := by decide +kernel
theorem dX8_part_59 : decode cX8_part 59 = .ok (.ireturn, 1) := by decide +kernel
theorem dX8_part_60 : decode cX8_part 60 = .ok (.aload_n 0, 1) := by decide +kernel
theorem dX8_part_61 : decode cX8_part 61 = .ok (.getfield 32, 3) := by decide +kernel
theorem dX8_part_64 : decode cX8_part 64 = .ok (.getfield 138, 3) := by decide +kernel
theorem dX8_part_67 : decode cX8_part 67 = .ok (.iload_n 1, 1) := by decide +kernel
theorem dX8_part_68 : decode cX8_part 68 = .ok (.iaload, 1) := by decide +kernel
theorem dX8_part_69 : decode cX8_part 69 = .ok (.ireturn, 1) := by decide +kernel
theorem dX8_part_70 : decode cX8_part 70 = .ok (.bipush (-2), 2) := by decide +kernel
theorem dX8_part_72 : decode cX8_part 72 = .ok (.ireturn, 1) := by decide +kernel

theorem dX8_paste_0 : decode cX8_paste 0 = .ok (.aload_n 0, 1) := by decide +kernel
theorem dX8_paste_1 : decode cX8_paste 1 = .ok (.getfield 46, 3) := by decide +kernel
theorem dX8_paste_4 : decode cX8_paste 4 = .ok (.iload_n 1, 1) := by decide +kernel
theorem dX8_paste_5 : decode cX8_paste 5 = .ok (.invokevirtual 378, 3) := by decide +kernel
theorem dX8_paste_8 : decode cX8_paste 8 = .ok (.ifCond .eq 14, 3) := by decide +kernel
theorem dX8_paste_11 : decode cX8_paste 11 = .ok (.aload_n 0, 1) := by decide +kernel
theorem dX8_paste_12 : decode cX8_paste 12 = .ok (.getfield 46, 3) := by decide +kernel
theorem dX8_paste_15 : decode cX8_paste 15 = .ok (.iload_n 3, 1) := by decide +kernel
theorem dX8_paste_16 : decode cX8_paste 16 = .ok (.invokevirtual 378, 3) := by decide +kernel
theorem dX8_paste_19 : decode cX8_paste 19 = .ok (.ifCond .ne 6, 3) := by decide +kernel
theorem dX8_paste_22 : decode cX8_paste 22 = .ok (.bipush (-2), 2) := by decide +kernel
theorem dX8_paste_24 : decode cX8_paste 24 = .ok (.ireturn, 1) := by decide +kernel
theorem dX8_paste_25 : decode cX8_paste 25 = .ok (.aload_n 0, 1) := by decide +kernel
theorem dX8_paste_26 : decode cX8_paste 26 = .ok (.getfield 46, 3) := by decide +kernel
theorem dX8_paste_29 : decode cX8_paste 29 = .ok (.iload_n 1, 1) := by decide +kernel
theorem dX8_paste_30 : decode cX8_paste 30 = .ok (.invokevirtual 384, 3) := by decide +kernel
theorem dX8_paste_33 : decode cX8_paste 33 = .ok (.ifCond .ne 14, 3) := by decide +kernel
theorem dX8_paste_36 : decode cX8_paste 36 = .ok (.aload_n 0, 1) := by decide +kernel
theorem dX8_paste_37 : decode cX8_paste 37 = .ok (.getfield 46, 3) := by decide +kernel
theorem dX8_paste_40 : decode cX8_paste 40 = .ok (.iload_n 3, 1) := by decide +kernel
theorem dX8_paste_41 : decode cX8_paste 41 = .ok (.invokevirtual 384, 3) := by decide +kernel
theorem dX8_paste_44 : decode cX8_paste 44 = .ok (.ifCond .eq 6, 3) := by decide +kernel
theorem dX8_paste_47 : decode cX8_paste 47 = .ok (.bipush (-6), 2) := by decide +kernel
theorem dX8_paste_49 : decode cX8_paste 49 = .ok (.ireturn, 1) := by decide +kernel
theorem dX8_paste_50 : decode cX8_paste 50 = .ok (.aload_n 0, 1) := by decide +kernel
theorem dX8_paste_51 : decode cX8_paste 51 = .ok (.getfield 46, 3) := by decide +kernel
theorem dX8_paste_54 : decode cX8_paste 54 = .ok (.iload_n 1, 1) := by decide +kernel
theorem dX8_paste_55 : decode cX8_paste 55 = .ok (.iload_n 3, 1) := by decide +kernel
theorem dX8_paste_56 : decode cX8_paste 56 = .ok (.invokevirtual 395, 3) := by decide +kernel
theorem dX8_paste_59 : decode cX8_paste 59 = .ok (.ifCond .ne 6, 3) := by decide +kernel
theorem dX8_paste_62 : decode cX8_paste 62 = .ok (.bipush (-8), 2) := by decide +kernel
theorem dX8_paste_64 : decode cX8_paste 64 = .ok (.ireturn, 1) := by decide +kernel
theorem dX8_paste_65 : decode cX8_paste 65 = .ok (.aload_n 0, 1) := by decide +kernel
theorem dX8_paste_66 : decode cX8_paste 66 = .ok (.getfield 46, 3) := by decide +kernel
theorem dX8_paste_69 : decode cX8_paste 69 = .ok (.iload_n 1, 1) := by decide +kernel
theorem dX8_paste_70 : decode cX8_paste 70 = .ok (.iload_n 2, 1) := by decide +kernel
theorem dX8_paste_71 : decode cX8_paste 71 = .ok (.iload 5, 2) := by decide +kernel
theorem dX8_paste_73 : decode cX8_paste 73 = .ok (.invokevirtual 387, 3) := by decide +kernel
theorem dX8_paste_76 : decode cX8_paste 76 = .ok (.ifCond .eq 18, 3) := by decide +kernel
theorem dX8_paste_79 : decode cX8_paste 79 = .ok (.aload_n 0, 1) := by decide +kernel
theorem dX8_paste_80 : decode cX8_paste 80 = .ok (.getfield 46, 3) := by decide +kernel
theorem dX8_paste_83 : decode cX8_paste 83 = .ok (.iload_n 3, 1) := by decide +kernel
theorem dX8_paste_84 : decode cX8_paste 84 = .ok (.iload 4, 2) := by decide +kernel
theorem dX8_paste_86 : decode cX8_paste 86 = .ok (.iload 5, 2) := by decide +kernel
theorem dX8_paste_88 : decode cX8_paste 88 = .ok (.invokevirtual 387, 3) := by decide +kernel
theorem dX8_paste_91 : decode cX8_paste 91 = .ok (.ifCond .ne 6, 3) := by decide +kernel
theorem dX8_paste_94 : decode cX8_paste 94 = .ok (.bipush (-7), 2) := by decide +kernel
theorem dX8_paste_96 : decode cX8_paste 96 = .ok (.ireturn, 1) := by decide +kernel
theorem dX8_paste_97 : decode cX8_paste 97 = .ok (.aload_n 0, 1) := by decide +kernel
theorem dX8_paste_98 : decode cX8_paste 98 = .ok (.getfield 46, 3) := by decide +kernel
theorem dX8_paste_101 : decode cX8_paste 101 = .ok (.iload_n 1, 1) := by decide +kernel
theorem dX8_paste_102 : decode cX8_paste 102 = .ok (.iload_n 2, 1) := by decide +kernel
theorem dX8_paste_103 : decode cX8_paste 103 = .ok (.iload_n 3, 1) := by decide +kernel
theorem dX8_paste_104 : decode cX8_paste 104 = .ok (.iload 4, 2) := by decide +kernel
theorem dX8_paste_106 : decode cX8_paste 106 = .ok (.iload 5, 2) := by decide +kernel
theorem dX8_paste_108 : decode cX8_paste 108 = .ok (.invokevirtual 398, 3) := by decide +kernel
theorem dX8_paste_111 : decode cX8_paste 111 = .ok (.iconst 0, 1) := by decide +kernel
theorem dX8_paste_112 : decode cX8_paste 112 = .ok (.ireturn, 1) := by decide +kernel

theorem dX8_peak_0 : decode cX8_peak 0 = .ok (.aload_n 0, 1) := by decide +kernel
theorem dX8_peak_1 : decode cX8_peak 1 = .ok (.getfield 32, 3) := by decide +kernel
theorem dX8_peak_4 : decode cX8_peak 4 = .ok (.invokevirtual 153, 3) := by decide +kernel
theorem dX8_peak_7 : decode cX8_peak 7 = .ok (.ifCond .ne 6, 3) := by decide +kernel
theorem dX8_peak_10 : decode cX8_peak 10 = .ok (.bipush (-2), 2) := by decide +kernel
theorem dX8_peak_12 : decode cX8_peak 12 = .ok (.ireturn, 1) := by decide +kernel
theorem dX8_peak_13 : decode cX8_peak 13 = .ok (.iconst 0, 1) := by decide +kernel
theorem dX8_peak_14 : decode cX8_peak 14 = .ok (.istore_n 1, 1) := by decide +kernel
theorem dX8_peak_15 : decode cX8_peak 15 = .ok (.iconst (-1), 1) := by decide +kernel
theorem dX8_peak_16 : decode cX8_peak 16 = .ok (.istore_n 2, 1) := by decide +kernel
theorem dX8_peak_17 : decode cX8_peak 17 = .ok (.iconst 0, 1) := by decide +kernel
theorem dX8_peak_18 : decode cX8_peak 18 = .ok (.istore_n 3, 1) := by decide +kernel
theorem dX8_peak_19 : decode cX8_peak 19 = .ok (.iload_n 3, 1) := by decide +kernel
theorem dX8_peak_20 : decode cX8_peak 20 = .ok (.aload_n 0, 1) := by decide +kernel
theorem dX8_peak_21 : decode cX8_peak 21 = .ok (.getfield 32, 3) := by decide +kernel
theorem dX8_peak_24 : decode cX8_peak 24 = .ok (.getfield 168, 3) := by decide +kernel
theorem dX8_peak_27 : decode cX8_peak 27 = .ok (.if_icmp .ge 30, 3) := by decide +kernel
theorem dX8_peak_30 : decode cX8_peak 30 = .ok (.aload_n 0, 1) := by decide +kernel
theorem dX8_peak_31 : decode cX8_peak 31 = .ok (.invokevirtual 189, 3) := by decide +kernel
theorem dX8_peak_34 : decode cX8_peak 34 = .ok (.iload_n 3, 1) := by decide +kernel
theorem dX8_peak_35 : decode cX8_peak 35 = .ok (.invokevirtual 214, 3) := by decide +kernel
theorem dX8_peak_38 : decode cX8_peak 38 = .ok (.istore 4, 2) := by decide +kernel
theorem dX8_peak_40 : decode cX8_peak 40 = .ok (.iload 4, 2) := by decide +kernel
theorem dX8_peak_42 : decode cX8_peak 42 = .ok (.iload_n 2, 1) := by decide +kernel
theorem dX8_peak_43 : decode cX8_peak 43 = .ok (.if_icmp .le 8, 3) := by decide +kernel
theorem dX8_peak_46 : decode cX8_peak 46 = .ok (.iload 4, 2) := by decide +kernel
theorem dX8_peak_48 : decode cX8_peak 48 = .ok (.istore_n 2, 1) := by decide +kernel
theorem dX8_peak_49 : decode cX8_peak 49 = .ok (.iload_n 3, 1) := by decide +kernel
theorem dX8_peak_50 : decode cX8_peak 50 = .ok (.istore_n 1, 1) := by decide +kernel
theorem dX8_peak_51 : decode cX8_peak 51 = .ok (.iinc 3 1, 3) := by decide +kernel
theorem dX8_peak_54 : decode cX8_peak 54 = .ok (.goto (-35), 3) := by decide +kernel
theorem dX8_peak_57 : decode cX8_peak 57 = .ok (.iload_n 1, 1) := by decide +kernel
theorem dX8_peak_58 : decode cX8_peak 58 = .ok (.ireturn, 1) := by decide +kernel

theorem dX8_pieces_0 : decode cX8_pieces 0 = .ok (.aload_n 0, 1) := by decide +kernel
theorem dX8_pieces_1 : decode cX8_pieces 1 = .ok (.getfield 32, 3) := by decide +kernel
theorem dX8_pieces_4 : decode cX8_pieces 4 = .ok (.invokevirtual 153, 3) := by decide +kernel
theorem dX8_pieces_7 : decode cX8_pieces 7 = .ok (.ifCond .ne 6, 3) := by decide +kernel
theorem dX8_pieces_10 : decode cX8_pieces 10 = .ok (.bipush (-2), 2) := by decide +kernel
theorem dX8_pieces_12 : decode cX8_pieces 12 = .ok (.ireturn, 1) := by decide +kernel
theorem dX8_pieces_13 : decode cX8_pieces 13 = .ok (.iconst 0, 1) := by decide +kernel
theorem dX8_pieces_14 : decode cX8_pieces 14 = .ok (.istore_n 1, 1) := by decide +kernel
theorem dX8_pieces_15 : decode cX8_pieces 15 = .ok (.iconst 0, 1) := by decide +kernel
theorem dX8_pieces_16 : decode cX8_pieces 16 = .ok (.istore_n 2, 1) := by decide +kernel
theorem dX8_pieces_17 : decode cX8_pieces 17 = .ok (.iconst 0, 1) := by decide +kernel
theorem dX8_pieces_18 : decode cX8_pieces 18 = .ok (.istore_n 3, 1) := by decide +kernel
theorem dX8_pieces_19 : decode cX8_pieces 19 = .ok (.iload_n 3, 1) := by decide +kernel
theorem dX8_pieces_20 : decode cX8_pieces 20 = .ok (.aload_n 0, 1) := by decide +kernel
theorem dX8_pieces_21 : decode cX8_pieces 21 = .ok (.getfield 32, 3) := by decide +kernel
theorem dX8_pieces_24 : decode cX8_pieces 24 = .ok (.getfield 156, 3) := by decide +kernel
theorem dX8_pieces_27 : decode cX8_pieces 27 = .ok (.if_icmp .ge 31, 3) := by decide +kernel
theorem dX8_pieces_30 : decode cX8_pieces 30 = .ok (.iload_n 2, 1) := by decide +kernel
theorem dX8_pieces_31 : decode cX8_pieces 31 = .ok (.iload_n 3, 1) := by decide +kernel
theorem dX8_pieces_32 : decode cX8_pieces 32 = .ok (.invokestatic 145, 3) := by decide +kernel
theorem dX8_pieces_35 : decode cX8_pieces 35 = .ok (.ifCond .ne 17, 3) := by decide +kernel
theorem dX8_pieces_38 : decode cX8_pieces 38 = .ok (.iinc 1 1, 3) := by decide +kernel
theorem dX8_pieces_41 : decode cX8_pieces 41 = .ok (.iload_n 2, 1) := by decide +kernel
theorem dX8_pieces_42 : decode cX8_pieces 42 = .ok (.aload_n 0, 1) := by decide +kernel
theorem dX8_pieces_43 : decode cX8_pieces 43 = .ok (.getfield 32, 3) := by decide +kernel
theorem dX8_pieces_46 : decode cX8_pieces 46 = .ok (.iload_n 3, 1) := by decide +kernel
theorem dX8_pieces_47 : decode cX8_pieces 47 = .ok (.invokevirtual 159, 3) := by decide +kernel
theorem dX8_pieces_50 : decode cX8_pieces 50 = .ok (.ior, 1) := by decide +kernel
theorem dX8_pieces_51 : decode cX8_pieces 51 = .ok (.istore_n 2, 1) := by decide +kernel
theorem dX8_pieces_52 : decode cX8_pieces 52 = .ok (.iinc 3 1, 3) := by decide +kernel
theorem dX8_pieces_55 : decode cX8_pieces 55 = .ok (.goto (-36), 3) := by decide +kernel
theorem dX8_pieces_58 : decode cX8_pieces 58 = .ok (.iload_n 1, 1) := by decide +kernel
theorem dX8_pieces_59 : decode cX8_pieces 59 = .ok (.ireturn, 1) := by decide +kernel

theorem dX8_plan_0 : decode cX8_plan 0 = .ok (.aload_n 0, 1) := by decide +kernel
theorem dX8_plan_1 : decode cX8_plan 1 = .ok (.iload_n 1, 1) := by decide +kernel
theorem dX8_plan_2 : decode cX8_plan 2 = .ok (.invokevirtual 274, 3) := by decide +kernel
theorem dX8_plan_5 : decode cX8_plan 5 = .ok (.ifCond .ne 6, 3) := by decide +kernel
theorem dX8_plan_8 : decode cX8_plan 8 = .ok (.bipush (-2), 2) := by decide +kernel
theorem dX8_plan_10 : decode cX8_plan 10 = .ok (.ireturn, 1) := by decide +kernel
theorem dX8_plan_11 : decode cX8_plan 11 = .ok (.aload_n 0, 1) := by decide +kernel
theorem dX8_plan_12 : decode cX8_plan 12 = .ok (.iload_n 1, 1) := by decide +kernel
theorem dX8_plan_13 : decode cX8_plan 13 = .ok (.invokevirtual 277, 3) := by decide +kernel
theorem dX8_plan_16 : decode cX8_plan 16 = .ok (.aload_n 0, 1) := by decide +kernel
theorem dX8_plan_17 : decode cX8_plan 17 = .ok (.getfield 67, 3) := by decide +kernel
theorem dX8_plan_20 : decode cX8_plan 20 = .ok (.getfield 280, 3) := by decide +kernel
theorem dX8_plan_23 : decode cX8_plan 23 = .ok (.ireturn, 1) := by decide +kernel

theorem dX8_planned_0 : decode cX8_planned 0 = .ok (.aload_n 0, 1) := by decide +kernel
theorem dX8_planned_1 : decode cX8_planned 1 = .ok (.iload_n 1, 1) := by decide +kernel
theorem dX8_planned_2 : decode cX8_planned 2 = .ok (.invokevirtual 274, 3) := by decide +kernel
theorem dX8_planned_5 : decode cX8_planned 5 = .ok (.ifCond .eq 12, 3) := by decide +kernel
theorem dX8_planned_8 : decode cX8_planned 8 = .ok (.iload_n 2, 1) := by decide +kernel
theorem dX8_planned_9 : decode cX8_planned 9 = .ok (.ifCond .lt 8, 3) := by decide +kernel
theorem dX8_planned_12 : decode cX8_planned 12 = .ok (.iload_n 2, 1) := by decide +kernel
theorem dX8_planned_13 : decode cX8_planned 13 = .ok (.iload_n 1, 1) := by decide +kernel
theorem dX8_planned_14 : decode cX8_planned 14 = .ok (.if_icmp .lt 6, 3) := by decide +kernel
theorem dX8_planned_17 : decode cX8_planned 17 = .ok (.bipush (-2), 2) := by decide +kernel
theorem dX8_planned_19 : decode cX8_planned 19 = .ok (.ireturn, 1) := by decide +kernel
theorem dX8_planned_20 : decode cX8_planned 20 = .ok (.aload_n 0, 1) := by decide +kernel
theorem dX8_planned_21 : decode cX8_planned 21 = .ok (.iload_n 1, 1) := by decide +kernel
theorem dX8_planned_22 : decode cX8_planned 22 = .ok (.invokevirtual 277, 3) := by decide +kernel
theorem dX8_planned_25 : decode cX8_planned 25 = .ok (.aload_n 0, 1) := by decide +kernel
theorem dX8_planned_26 : decode cX8_planned 26 = .ok (.getfield 67, 3) := by decide +kernel
theorem dX8_planned_29 : decode cX8_planned 29 = .ok (.getfield 283, 3) := by decide +kernel
theorem dX8_planned_32 : decode cX8_planned 32 = .ok (.iload_n 2, 1) := by decide +kernel
theorem dX8_planned_33 : decode cX8_planned 33 = .ok (.iaload, 1) := by decide +kernel
theorem dX8_planned_34 : decode cX8_planned 34 = .ok (.ireturn, 1) := by decide +kernel

theorem dX8_plans_0 : decode cX8_plans 0 = .ok (.aload_n 0, 1) := by decide +kernel
theorem dX8_plans_1 : decode cX8_plans 1 = .ok (.iload_n 1, 1) := by decide +kernel
theorem dX8_plans_2 : decode cX8_plans 2 = .ok (.invokevirtual 274, 3) := by decide +kernel
theorem dX8_plans_5 : decode cX8_plans 5 = .ok (.ifCond .ne 6, 3) := by decide +kernel
theorem dX8_plans_8 : decode cX8_plans 8 = .ok (.bipush (-2), 2) := by decide +kernel
theorem dX8_plans_10 : decode cX8_plans 10 = .ok (.ireturn, 1) := by decide +kernel
theorem dX8_plans_11 : decode cX8_plans 11 = .ok (.aload_n 0, 1) := by decide +kernel
theorem dX8_plans_12 : decode cX8_plans 12 = .ok (.iload_n 1, 1) := by decide +kernel
theorem dX8_plans_13 : decode cX8_plans 13 = .ok (.invokevirtual 277, 3) := by decide +kernel
theorem dX8_plans_16 : decode cX8_plans 16 = .ok (.aload_n 0, 1) := by decide +kernel
theorem dX8_plans_17 : decode cX8_plans 17 = .ok (.getfield 67, 3) := by decide +kernel
theorem dX8_plans_20 : decode cX8_plans 20 = .ok (.getfield 286, 3) := by decide +kernel
theorem dX8_plans_23 : decode cX8_plans 23 = .ok (.ireturn, 1) := by decide +kernel

theorem dX8_quiet_0 : decode cX8_quiet 0 = .ok (.aload_n 0, 1) := by decide +kernel
theorem dX8_quiet_1 : decode cX8_quiet 1 = .ok (.getfield 32, 3) := by decide +kernel
theorem dX8_quiet_4 : decode cX8_quiet 4 = .ok (.invokevirtual 153, 3) := by decide +kernel
theorem dX8_quiet_7 : decode cX8_quiet 7 = .ok (.ifCond .ne 6, 3) := by decide +kernel
theorem dX8_quiet_10 : decode cX8_quiet 10 = .ok (.bipush (-2), 2) := by decide +kernel
theorem dX8_quiet_12 : decode cX8_quiet 12 = .ok (.ireturn, 1) := by decide +kernel
theorem dX8_quiet_13 : decode cX8_quiet 13 = .ok (.iconst 0, 1) := by decide +kernel
theorem dX8_quiet_14 : decode cX8_quiet 14 = .ok (.istore_n 1, 1) := by decide +kernel
theorem dX8_quiet_15 : decode cX8_quiet 15 = .ok (.iconst 0, 1) := by decide +kernel
theorem dX8_quiet_16 : decode cX8_quiet 16 = .ok (.istore_n 2, 1) := by decide +kernel
theorem dX8_quiet_17 : decode cX8_quiet 17 = .ok (.iload_n 2, 1) := by decide +kernel
theorem dX8_quiet_18 : decode cX8_quiet 18 = .ok (.aload_n 0, 1) := by decide +kernel
theorem dX8_quiet_19 : decode cX8_quiet 19 = .ok (.getfield 32, 3) := by decide +kernel
theorem dX8_quiet_22 : decode cX8_quiet 22 = .ok (.getfield 168, 3) := by decide +kernel
theorem dX8_quiet_25 : decode cX8_quiet 25 = .ok (.if_icmp .ge 25, 3) := by decide +kernel
theorem dX8_quiet_28 : decode cX8_quiet 28 = .ok (.iload_n 1, 1) := by decide +kernel
theorem dX8_quiet_29 : decode cX8_quiet 29 = .ok (.aload_n 0, 1) := by decide +kernel
theorem dX8_quiet_30 : decode cX8_quiet 30 = .ok (.iload_n 2, 1) := by decide +kernel
theorem dX8_quiet_31 : decode cX8_quiet 31 = .ok (.invokevirtual 246, 3) := by decide +kernel
theorem dX8_quiet_34 : decode cX8_quiet 34 = .ok (.ifCond .ne 7, 3) := by decide +kernel
theorem dX8_quiet_37 : decode cX8_quiet 37 = .ok (.iconst 1, 1) := by decide +kernel
theorem dX8_quiet_38 : decode cX8_quiet 38 = .ok (.goto 4, 3) := by decide +kernel
theorem dX8_quiet_41 : decode cX8_quiet 41 = .ok (.iconst 0, 1) := by decide +kernel
theorem dX8_quiet_42 : decode cX8_quiet 42 = .ok (.iadd, 1) := by decide +kernel
theorem dX8_quiet_43 : decode cX8_quiet 43 = .ok (.istore_n 1, 1) := by decide +kernel
theorem dX8_quiet_44 : decode cX8_quiet 44 = .ok (.iinc 2 1, 3) := by decide +kernel
theorem dX8_quiet_47 : decode cX8_quiet 47 = .ok (.goto (-30), 3) := by decide +kernel
theorem dX8_quiet_50 : decode cX8_quiet 50 = .ok (.iload_n 1, 1) := by decide +kernel
theorem dX8_quiet_51 : decode cX8_quiet 51 = .ok (.ireturn, 1) := by decide +kernel

theorem dX8_rate_0 : decode cX8_rate 0 = .ok (.aload_n 0, 1) := by decide +kernel
theorem dX8_rate_1 : decode cX8_rate 1 = .ok (.getfield 32, 3) := by decide +kernel
theorem dX8_rate_4 : decode cX8_rate 4 = .ok (.iload_n 1, 1) := by decide +kernel
theorem dX8_rate_5 : decode cX8_rate 5 = .ok (.invokevirtual 127, 3) := by decide +kernel
theorem dX8_rate_8 : decode cX8_rate 8 = .ok (.ifCond .eq 13, 3) := by decide +kernel
theorem dX8_rate_11 : decode cX8_rate 11 = .ok (.iload_n 2, 1) := by decide +kernel
theorem dX8_rate_12 : decode cX8_rate 12 = .ok (.ifCond .lt 9, 3) := by decide +kernel
theorem dX8_rate_15 : decode cX8_rate 15 = .ok (.iload_n 2, 1) := by decide +kernel
theorem dX8_rate_16 : decode cX8_rate 16 = .ok (.bipush 60, 2) := by decide +kernel
theorem dX8_rate_18 : decode cX8_rate 18 = .ok (.if_icmp .le 6, 3) := by decide +kernel
theorem dX8_rate_21 : decode cX8_rate 21 = .ok (.bipush (-2), 2) := by decide +kernel
theorem dX8_rate_23 : decode cX8_rate 23 = .ok (.ireturn, 1) := by decide +kernel
theorem dX8_rate_24 : decode cX8_rate 24 = .ok (.aload_n 0, 1) := by decide +kernel
theorem dX8_rate_25 : decode cX8_rate 25 = .ok (.getfield 32, 3) := by decide +kernel
theorem dX8_rate_28 : decode cX8_rate 28 = .ok (.getfield 179, 3) := by decide +kernel
theorem dX8_rate_31 : decode cX8_rate 31 = .ok (.ifCond .le 6, 3) := by decide +kernel
theorem dX8_rate_34 : decode cX8_rate 34 = .ok (.bipush (-5), 2) := by decide +kernel
theorem dX8_rate_36 : decode cX8_rate 36 = .ok (.ireturn, 1) := by decide +kernel
theorem dX8_rate_37 : decode cX8_rate 37 = .ok (.aload_n 0, 1) := by decide +kernel
theorem dX8_rate_38 : decode cX8_rate 38 = .ok (.getfield 32, 3) := by decide +kernel
theorem dX8_rate_41 : decode cX8_rate 41 = .ok (.getfield 131, 3) := by decide +kernel
theorem dX8_rate_44 : decode cX8_rate 44 = .ok (.iload_n 1, 1) := by decide +kernel
theorem dX8_rate_45 : decode cX8_rate 45 = .ok (.iaload, 1) := by decide +kernel
theorem dX8_rate_46 : decode cX8_rate 46 = .ok (.istore_n 3, 1) := by decide +kernel
theorem dX8_rate_47 : decode cX8_rate 47 = .ok (.aload_n 0, 1) := by decide +kernel
theorem dX8_rate_48 : decode cX8_rate 48 = .ok (.getfield 32, 3) := by decide +kernel
theorem dX8_rate_51 : decode cX8_rate 51 = .ok (.getfield 131, 3) := by decide +kernel
theorem dX8_rate_54 : decode cX8_rate 54 = .ok (.iload_n 1, 1) := by decide +kernel
theorem dX8_rate_55 : decode cX8_rate 55 = .ok (.iload_n 2, 1) := by decide +kernel
theorem dX8_rate_56 : decode cX8_rate 56 = .ok (.iastore, 1) := by decide +kernel
theorem dX8_rate_57 : decode cX8_rate 57 = .ok (.aload_n 0, 1) := by decide +kernel
theorem dX8_rate_58 : decode cX8_rate 58 = .ok (.invokevirtual 115, 3) := by decide +kernel
theorem dX8_rate_61 : decode cX8_rate 61 = .ok (.iload_n 3, 1) := by decide +kernel
theorem dX8_rate_62 : decode cX8_rate 62 = .ok (.ireturn, 1) := by decide +kernel

theorem dX8_read_0 : decode cX8_read 0 = .ok (.aload_n 0, 1) := by decide +kernel
theorem dX8_read_1 : decode cX8_read 1 = .ok (.getfield 32, 3) := by decide +kernel
theorem dX8_read_4 : decode cX8_read 4 = .ok (.iload_n 1, 1) := by decide +kernel
theorem dX8_read_5 : decode cX8_read 5 = .ok (.invokevirtual 127, 3) := by decide +kernel
theorem dX8_read_8 : decode cX8_read 8 = .ok (.ifCond .eq 14, 3) := by decide +kernel
theorem dX8_read_11 : decode cX8_read 11 = .ok (.aload_n 0, 1) := by decide +kernel
theorem dX8_read_12 : decode cX8_read 12 = .ok (.invokevirtual 189, 3) := by decide +kernel
theorem dX8_read_15 : decode cX8_read 15 = .ok (.iload_n 1, 1) := by decide +kernel
theorem dX8_read_16 : decode cX8_read 16 = .ok (.invokevirtual 208, 3) := by decide +kernel
theorem dX8_read_19 : decode cX8_read 19 = .ok (.goto 5, 3) := by decide +kernel
theorem dX8_read_22 : decode cX8_read 22 = .ok (.bipush (-2), 2) := by decide +kernel
theorem dX8_read_24 : decode cX8_read 24 = .ok (.ireturn, 1) := by decide +kernel

theorem dX8_reads_0 : decode cX8_reads 0 = .ok (.aload_n 0, 1) := by decide +kernel
theorem dX8_reads_1 : decode cX8_reads 1 = .ok (.getfield 32, 3) := by decide +kernel
theorem dX8_reads_4 : decode cX8_reads 4 = .ok (.iload_n 1, 1) := by decide +kernel
theorem dX8_reads_5 : decode cX8_reads 5 = .ok (.invokevirtual 211, 3) := by decide +kernel
theorem dX8_reads_8 : decode cX8_reads 8 = .ok (.ifCond .eq 14, 3) := by decide +kernel
theorem dX8_reads_11 : decode cX8_reads 11 = .ok (.aload_n 0, 1) := by decide +kernel
theorem dX8_reads_12 : decode cX8_reads 12 = .ok (.invokevirtual 189, 3) := by decide +kernel
theorem dX8_reads_15 : decode cX8_reads 15 = .ok (.iload_n 1, 1) := by decide +kernel
theorem dX8_reads_16 : decode cX8_reads 16 = .ok (.invokevirtual 214, 3) := by decide +kernel
theorem dX8_reads_19 : decode cX8_reads 19 = .ok (.goto 5, 3) := by decide +kernel
theorem dX8_reads_22 : decode cX8_reads 22 = .ok (.bipush (-2), 2) := by decide +kernel
theorem dX8_reads_24 : decode cX8_reads 24 = .ok (.ireturn, 1) := by decide +kernel

theorem dX8_refuseAct_0 : decode cX8_refuseAct 0 = .ok (.aload_n 0, 1) := by decide +kernel
theorem dX8_refuseAct_1 : decode cX8_refuseAct 1 = .ok (.getfield 32, 3) := by decide +kernel
theorem dX8_refuseAct_4 : decode cX8_refuseAct 4 = .ok (.iload_n 1, 1) := by decide +kernel
theorem dX8_refuseAct_5 : decode cX8_refuseAct 5 = .ok (.invokevirtual 127, 3) := by decide +kernel
theorem dX8_refuseAct_8 : decode cX8_refuseAct 8 = .ok (.ifCond .eq 14, 3) := by decide +kernel
theorem dX8_refuseAct_11 : decode cX8_refuseAct 11 = .ok (.aload_n 0, 1) := by decide +kernel
theorem dX8_refuseAct_12 : decode cX8_refuseAct 12 = .ok (.getfield 32, 3) := by decide +kernel
theorem dX8_refuseAct_15 : decode cX8_refuseAct 15 = .ok (.iload_n 2, 1) := by decide +kernel
theorem dX8_refuseAct_16 : decode cX8_refuseAct 16 = .ok (.invokevirtual 211, 3) := by decide +kernel
theorem dX8_refuseAct_19 : decode cX8_refuseAct 19 = .ok (.ifCond .ne 6, 3) := by decide +kernel
theorem dX8_refuseAct_22 : decode cX8_refuseAct 22 = .ok (.bipush (-2), 2) := by decide +kernel
theorem dX8_refuseAct_24 : decode cX8_refuseAct 24 = .ok (.ireturn, 1) := by decide +kernel
theorem dX8_refuseAct_25 : decode cX8_refuseAct 25 = .ok (.aload_n 0, 1) := by decide +kernel
theorem dX8_refuseAct_26 : decode cX8_refuseAct 26 = .ok (.getfield 32, 3) := by decide +kernel
theorem dX8_refuseAct_29 : decode cX8_refuseAct 29 = .ok (.getfield 179, 3) := by decide +kernel
theorem dX8_refuseAct_32 : decode cX8_refuseAct 32 = .ok (.bipush 20, 2) := by decide +kernel
theorem dX8_refuseAct_34 : decode cX8_refuseAct 34 = .ok (.if_icmp .ge 7, 3) := by decide +kernel
theorem dX8_refuseAct_37 : decode cX8_refuseAct 37 = .ok (.iconst 0, 1) := by decide +kernel
theorem dX8_refuseAct_38 : decode cX8_refuseAct 38 = .ok (.goto 5, 3) := by decide +kernel
theorem dX8_refuseAct_41 : decode cX8_refuseAct 41 = .ok (.bipush (-5), 2) := by decide +kernel
theorem dX8_refuseAct_43 : decode cX8_refuseAct 43 = .ok (.ireturn, 1) := by decide +kernel

theorem dX8_refuseSeenOf_0 : decode cX8_refuseSeenOf 0 = .ok (.aload_n 0, 1) := by decide +kernel
theorem dX8_refuseSeenOf_1 : decode cX8_refuseSeenOf 1 = .ok (.getfield 32, 3) := by decide +kernel
theorem dX8_refuseSeenOf_4 : decode cX8_refuseSeenOf 4 = .ok (.iload_n 2, 1) := by decide +kernel
theorem dX8_refuseSeenOf_5 : decode cX8_refuseSeenOf 5 = .ok (.invokevirtual 127, 3) := by decide +kernel
theorem dX8_refuseSeenOf_8 : decode cX8_refuseSeenOf 8 = .ok (.ifCond .eq 11, 3) := by decide +kernel
theorem dX8_refuseSeenOf_11 : decode cX8_refuseSeenOf 11 = .ok (.aload_n 0, 1) := by decide +kernel
theorem dX8_refuseSeenOf_12 : decode cX8_refuseSeenOf 12 = .ok (.iload_n 1, 1) := by decide +kernel
theorem dX8_refuseSeenOf_13 : decode cX8_refuseSeenOf 13 = .ok (.invokevirtual 312, 3) := by decide +kernel
theorem dX8_refuseSeenOf_16 : decode cX8_refuseSeenOf 16 = .ok (.goto 5, 3) := by decide +kernel
theorem dX8_refuseSeenOf_19 : decode cX8_refuseSeenOf 19 = .ok (.bipush (-2), 2) := by decide +kernel
theorem dX8_refuseSeenOf_21 : decode cX8_refuseSeenOf 21 = .ok (.ireturn, 1) := by decide +kernel

theorem dX8_replies_0 : decode cX8_replies 0 = .ok (.aload_n 0, 1) := by decide +kernel
theorem dX8_replies_1 : decode cX8_replies 1 = .ok (.getfield 32, 3) := by decide +kernel
theorem dX8_replies_4 : decode cX8_replies 4 = .ok (.iload_n 1, 1) := by decide +kernel
theorem dX8_replies_5 : decode cX8_replies 5 = .ok (.invokevirtual 127, 3) := by decide +kernel
theorem dX8_replies_8 : decode cX8_replies 8 = .ok (.ifCond .ne 6, 3) := by decide +kernel
theorem dX8_replies_11 : decode cX8_replies 11 = .ok (.bipush (-2), 2) := by decide +kernel
theorem dX8_replies_13 : decode cX8_replies 13 = .ok (.ireturn, 1) := by decide +kernel
theorem dX8_replies_14 : decode cX8_replies 14 = .ok (.aload_n 0, 1) := by decide +kernel
theorem dX8_replies_15 : decode cX8_replies 15 = .ok (.getfield 59, 3) := by decide +kernel
theorem dX8_replies_18 : decode cX8_replies 18 = .ok (.iconst (-1), 1) := by decide +kernel
theorem dX8_replies_19 : decode cX8_replies 19 = .ok (.invokevirtual 257, 3) := by decide +kernel
theorem dX8_replies_22 : decode cX8_replies 22 = .ok (.aload_n 0, 1) := by decide +kernel
theorem dX8_replies_23 : decode cX8_replies 23 = .ok (.iload_n 1, 1) := by decide +kernel
theorem dX8_replies_24 : decode cX8_replies 24 = .ok (.invokevirtual 335, 3) := by decide +kernel
theorem dX8_replies_27 : decode cX8_replies 27 = .ok (.ireturn, 1) := by decide +kernel

theorem dX8_rests_0 : decode cX8_rests 0 = .ok (.aload_n 0, 1) := by decide +kernel
theorem dX8_rests_1 : decode cX8_rests 1 = .ok (.iload_n 1, 1) := by decide +kernel
theorem dX8_rests_2 : decode cX8_rests 2 = .ok (.iload_n 2, 1) := by decide +kernel
theorem dX8_rests_3 : decode cX8_rests 3 = .ok (.invokevirtual 338, 3) := by decide +kernel
theorem dX8_rests_6 : decode cX8_rests 6 = .ok (.ifCond .ne 6, 3) := by decide +kernel
theorem dX8_rests_9 : decode cX8_rests 9 = .ok (.bipush (-2), 2) := by decide +kernel
theorem dX8_rests_11 : decode cX8_rests 11 = .ok (.ireturn, 1) := by decide +kernel
theorem dX8_rests_12 : decode cX8_rests 12 = .ok (.iconst 0, 1) := by decide +kernel
theorem dX8_rests_13 : decode cX8_rests 13 = .ok (.istore_n 3, 1) := by decide +kernel
theorem dX8_rests_14 : decode cX8_rests 14 = .ok (.iconst 0, 1) := by decide +kernel
theorem dX8_rests_15 : decode cX8_rests 15 = .ok (.istore 4, 2) := by decide +kernel
theorem dX8_rests_17 : decode cX8_rests 17 = .ok (.iload 4, 2) := by decide +kernel
theorem dX8_rests_19 : decode cX8_rests 19 = .ok (.iconst 2, 1) := by decide +kernel
theorem dX8_rests_20 : decode cX8_rests 20 = .ok (.if_icmp .ge 110, 3) := by decide +kernel
theorem dX8_rests_23 : decode cX8_rests 23 = .ok (.iconst 0, 1) := by decide +kernel
theorem dX8_rests_24 : decode cX8_rests 24 = .ok (.istore 5, 2) := by decide +kernel
theorem dX8_rests_26 : decode cX8_rests 26 = .ok (.iload 5, 2) := by decide +kernel
theorem dX8_rests_28 : decode cX8_rests 28 = .ok (.iconst 2, 1) := by decide +kernel
theorem dX8_rests_29 : decode cX8_rests 29 = .ok (.if_icmp .ge 95, 3) := by decide +kernel
theorem dX8_rests_32 : decode cX8_rests 32 = .ok (.aload_n 0, 1) := by decide +kernel
theorem dX8_rests_33 : decode cX8_rests 33 = .ok (.iload_n 1, 1) := by decide +kernel
theorem dX8_rests_34 : decode cX8_rests 34 = .ok (.iload_n 2, 1) := by decide +kernel
theorem dX8_rests_35 : decode cX8_rests 35 = .ok (.iload 4, 2) := by decide +kernel
theorem dX8_rests_37 : decode cX8_rests 37 = .ok (.iload 5, 2) := by decide +kernel
theorem dX8_rests_39 : decode cX8_rests 39 = .ok (.invokevirtual 341, 3) := by decide +kernel
theorem dX8_rests_42 : decode cX8_rests 42 = .ok (.aload_n 0, 1) := by decide +kernel
theorem dX8_rests_43 : decode cX8_rests 43 = .ok (.iload_n 1, 1) := by decide +kernel
theorem dX8_rests_44 : decode cX8_rests 44 = .ok (.iload_n 2, 1) := by decide +kernel
theorem dX8_rests_45 : decode cX8_rests 45 = .ok (.iconst 1, 1) := by decide +kernel
theorem dX8_rests_46 : decode cX8_rests 46 = .ok (.iload 4, 2) := by decide +kernel
theorem dX8_rests_48 : decode cX8_rests 48 = .ok (.isub, 1) := by decide +kernel
theorem dX8_rests_49 : decode cX8_rests 49 = .ok (.iload 5, 2) := by decide +kernel
theorem dX8_rests_51 : decode cX8_rests 51 = .ok (.invokevirtual 341, 3) := by decide +kernel
theorem dX8_rests_54 : decode cX8_rests 54 = .ok (.if_icmp .lt 7, 3) := by decide +kernel
theorem dX8_rests_57 : decode cX8_rests 57 = .ok (.iconst 1, 1) := by decide +kernel
theorem dX8_rests_58 : decode cX8_rests 58 = .ok (.goto 4, 3) := by decide +kernel
theorem dX8_rests_61 : decode cX8_rests 61 = .ok (.iconst 0, 1) := by decide +kernel
theorem dX8_rests_62 : decode cX8_rests 62 = .ok (.istore 6, 2) := by decide +kernel
theorem dX8_rests_64 : decode cX8_rests 64 = .ok (.aload_n 0, 1) := by decide +kernel
theorem dX8_rests_65 : decode cX8_rests 65 = .ok (.iload_n 2, 1) := by decide +kernel
theorem dX8_rests_66 : decode cX8_rests 66 = .ok (.iload_n 1, 1) := by decide +kernel
theorem dX8_rests_67 : decode cX8_rests 67 = .ok (.iload 5, 2) := by decide +kernel
theorem dX8_rests_69 : decode cX8_rests 69 = .ok (.iload 4, 2) := by decide +kernel
theorem dX8_rests_71 : decode cX8_rests 71 = .ok (.invokevirtual 341, 3) := by decide +kernel
theorem dX8_rests_74 : decode cX8_rests 74 = .ok (.aload_n 0, 1) := by decide +kernel
theorem dX8_rests_75 : decode cX8_rests 75 = .ok (.iload_n 2, 1) := by decide +kernel
theorem dX8_rests_76 : decode cX8_rests 76 = .ok (.iload_n 1, 1) := by decide +kernel
theorem dX8_rests_77 : decode cX8_rests 77 = .ok (.iconst 1, 1) := by decide +kernel
theorem dX8_rests_78 : decode cX8_rests 78 = .ok (.iload 5, 2) := by decide +kernel
theorem dX8_rests_80 : decode cX8_rests 80 = .ok (.isub, 1) := by decide +kernel
theorem dX8_rests_81 : decode cX8_rests 81 = .ok (.iload 4, 2) := by decide +kernel
theorem dX8_rests_83 : decode cX8_rests 83 = .ok (.invokevirtual 341, 3) := by decide +kernel
theorem dX8_rests_86 : decode cX8_rests 86 = .ok (.if_icmp .lt 7, 3) := by decide +kernel
theorem dX8_rests_89 : decode cX8_rests 89 = .ok (.iconst 1, 1) := by decide +kernel
theorem dX8_rests_90 : decode cX8_rests 90 = .ok (.goto 4, 3) := by decide +kernel
theorem dX8_rests_93 : decode cX8_rests 93 = .ok (.iconst 0, 1) := by decide +kernel
theorem dX8_rests_94 : decode cX8_rests 94 = .ok (.istore 7, 2) := by decide +kernel
theorem dX8_rests_96 : decode cX8_rests 96 = .ok (.iload 6, 2) := by decide +kernel
theorem dX8_rests_98 : decode cX8_rests 98 = .ok (.ifCond .eq 20, 3) := by decide +kernel
theorem dX8_rests_101 : decode cX8_rests 101 = .ok (.iload 7, 2) := by decide +kernel
theorem dX8_rests_103 : decode cX8_rests 103 = .ok (.ifCond .eq 15, 3) := by decide +kernel
theorem dX8_rests_106 : decode cX8_rests 106 = .ok (.iload_n 3, 1) := by decide +kernel
theorem dX8_rests_107 : decode cX8_rests 107 = .ok (.iconst 1, 1) := by decide +kernel
theorem dX8_rests_108 : decode cX8_rests 108 = .ok (.iload 4, 2) := by decide +kernel
theorem dX8_rests_110 : decode cX8_rests 110 = .ok (.iconst 2, 1) := by decide +kernel
theorem dX8_rests_111 : decode cX8_rests 111 = .ok (.iload 5, 2) := by decide +kernel
theorem dX8_rests_113 : decode cX8_rests 113 = .ok (.imul, 1) := by decide +kernel
theorem dX8_rests_114 : decode cX8_rests 114 = .ok (.iadd, 1) := by decide +kernel
theorem dX8_rests_115 : decode cX8_rests 115 = .ok (.ishl, 1) := by decide +kernel
theorem dX8_rests_116 : decode cX8_rests 116 = .ok (.ior, 1) := by decide +kernel
theorem dX8_rests_117 : decode cX8_rests 117 = .ok (.istore_n 3, 1) := by decide +kernel
theorem dX8_rests_118 : decode cX8_rests 118 = .ok (.iinc 5 1, 3) := by decide +kernel
theorem dX8_rests_121 : decode cX8_rests 121 = .ok (.goto (-95), 3) := by decide +kernel
theorem dX8_rests_124 : decode cX8_rests 124 = .ok (.iinc 4 1, 3) := by decide +kernel
theorem dX8_rests_127 : decode cX8_rests 127 = .ok (.goto (-110), 3) := by decide +kernel
theorem dX8_rests_130 : decode cX8_rests 130 = .ok (.iload_n 3, 1) := by decide +kernel
theorem dX8_rests_131 : decode cX8_rests 131 = .ok (.ireturn, 1) := by decide +kernel

theorem dX8_row_0 : decode cX8_row 0 = .ok (.aload_n 0, 1) := by decide +kernel
theorem dX8_row_1 : decode cX8_row 1 = .ok (.getfield 46, 3) := by decide +kernel
theorem dX8_row_4 : decode cX8_row 4 = .ok (.iload_n 1, 1) := by decide +kernel
theorem dX8_row_5 : decode cX8_row 5 = .ok (.invokevirtual 378, 3) := by decide +kernel
theorem dX8_row_8 : decode cX8_row 8 = .ok (.ifCond .eq 18, 3) := by decide +kernel
theorem dX8_row_11 : decode cX8_row 11 = .ok (.iload_n 2, 1) := by decide +kernel
theorem dX8_row_12 : decode cX8_row 12 = .ok (.ifCond .lt 14, 3) := by decide +kernel
theorem dX8_row_15 : decode cX8_row 15 = .ok (.iload_n 2, 1) := by decide +kernel
theorem dX8_row_16 : decode cX8_row 16 = .ok (.iconst 4, 1) := by decide +kernel
theorem dX8_row_17 : decode cX8_row 17 = .ok (.if_icmp .ge 9, 3) := by decide +kernel
theorem dX8_row_20 : decode cX8_row 20 = .ok (.iload_n 3, 1) := by decide +kernel
theorem dX8_row_21 : decode cX8_row 21 = .ok (.bipush 60, 2) := by decide +kernel
theorem dX8_row_23 : decode cX8_row 23 = .ok (.if_icmp .le 6, 3) := by decide +kernel
theorem dX8_row_26 : decode cX8_row 26 = .ok (.bipush (-2), 2) := by decide +kernel
theorem dX8_row_28 : decode cX8_row 28 = .ok (.ireturn, 1) := by decide +kernel
theorem dX8_row_29 : decode cX8_row 29 = .ok (.iload_n 3, 1) := by decide +kernel
theorem dX8_row_30 : decode cX8_row 30 = .ok (.ifCond .ge 6, 3) := by decide +kernel
theorem dX8_row_33 : decode cX8_row 33 = .ok (.bipush (-3), 2) := by decide +kernel
theorem dX8_row_35 : decode cX8_row 35 = .ok (.ireturn, 1) := by decide +kernel
theorem dX8_row_36 : decode cX8_row 36 = .ok (.aload_n 0, 1) := by decide +kernel
theorem dX8_row_37 : decode cX8_row 37 = .ok (.getfield 46, 3) := by decide +kernel
theorem dX8_row_40 : decode cX8_row 40 = .ok (.iload_n 1, 1) := by decide +kernel
theorem dX8_row_41 : decode cX8_row 41 = .ok (.iload_n 2, 1) := by decide +kernel
theorem dX8_row_42 : decode cX8_row 42 = .ok (.iload_n 3, 1) := by decide +kernel
theorem dX8_row_43 : decode cX8_row 43 = .ok (.invokevirtual 381, 3) := by decide +kernel
theorem dX8_row_46 : decode cX8_row 46 = .ok (.iconst 0, 1) := by decide +kernel
theorem dX8_row_47 : decode cX8_row 47 = .ok (.ireturn, 1) := by decide +kernel

theorem dX8_rush_0 : decode cX8_rush 0 = .ok (.aload_n 0, 1) := by decide +kernel
theorem dX8_rush_1 : decode cX8_rush 1 = .ok (.getfield 32, 3) := by decide +kernel
theorem dX8_rush_4 : decode cX8_rush 4 = .ok (.invokevirtual 153, 3) := by decide +kernel
theorem dX8_rush_7 : decode cX8_rush 7 = .ok (.ifCond .ne 6, 3) := by decide +kernel
theorem dX8_rush_10 : decode cX8_rush 10 = .ok (.bipush (-2), 2) := by decide +kernel
theorem dX8_rush_12 : decode cX8_rush 12 = .ok (.ireturn, 1) := by decide +kernel
theorem dX8_rush_13 : decode cX8_rush 13 = .ok (.iconst 0, 1) := by decide +kernel
theorem dX8_rush_14 : decode cX8_rush 14 = .ok (.istore_n 1, 1) := by decide +kernel
theorem dX8_rush_15 : decode cX8_rush 15 = .ok (.iconst 0, 1) := by decide +kernel
theorem dX8_rush_16 : decode cX8_rush 16 = .ok (.istore_n 2, 1) := by decide +kernel
theorem dX8_rush_17 : decode cX8_rush 17 = .ok (.iload_n 2, 1) := by decide +kernel
theorem dX8_rush_18 : decode cX8_rush 18 = .ok (.aload_n 0, 1) := by decide +kernel
theorem dX8_rush_19 : decode cX8_rush 19 = .ok (.getfield 32, 3) := by decide +kernel
theorem dX8_rush_22 : decode cX8_rush 22 = .ok (.getfield 168, 3) := by decide +kernel
theorem dX8_rush_25 : decode cX8_rush 25 = .ok (.if_icmp .ge 19, 3) := by decide +kernel
theorem dX8_rush_28 : decode cX8_rush 28 = .ok (.iload_n 1, 1) := by decide +kernel
theorem dX8_rush_29 : decode cX8_rush 29 = .ok (.aload_n 0, 1) := by decide +kernel
theorem dX8_rush_30 : decode cX8_rush 30 = .ok (.iload_n 2, 1) := by decide +kernel
theorem dX8_rush_31 : decode cX8_rush 31 = .ok (.invokevirtual 246, 3) := by decide +kernel
theorem dX8_rush_34 : decode cX8_rush 34 = .ok (.invokestatic 223, 3) := by decide +kernel
theorem dX8_rush_37 : decode cX8_rush 37 = .ok (.istore_n 1, 1) := by decide +kernel
theorem dX8_rush_38 : decode cX8_rush 38 = .ok (.iinc 2 1, 3) := by decide +kernel
theorem dX8_rush_41 : decode cX8_rush 41 = .ok (.goto (-24), 3) := by decide +kernel
theorem dX8_rush_44 : decode cX8_rush 44 = .ok (.iload_n 1, 1) := by decide +kernel
theorem dX8_rush_45 : decode cX8_rush 45 = .ok (.ireturn, 1) := by decide +kernel

theorem dX8_share_0 : decode cX8_share 0 = .ok (.aload_n 0, 1) := by decide +kernel
theorem dX8_share_1 : decode cX8_share 1 = .ok (.getfield 32, 3) := by decide +kernel
theorem dX8_share_4 : decode cX8_share 4 = .ok (.iload_n 1, 1) := by decide +kernel
theorem dX8_share_5 : decode cX8_share 5 = .ok (.invokevirtual 127, 3) := by decide +kernel
theorem dX8_share_8 : decode cX8_share 8 = .ok (.ifCond .eq 10, 3) := by decide +kernel
theorem dX8_share_11 : decode cX8_share 11 = .ok (.iload_n 2, 1) := by decide +kernel
theorem dX8_share_12 : decode cX8_share 12 = .ok (.invokestatic 263, 3) := by decide +kernel
theorem dX8_share_15 : decode cX8_share 15 = .ok (.ifCond .ne 7, 3) := by decide +kernel
theorem dX8_share_18 : decode cX8_share 18 = .ok (.ldc_w 266, 3) := by decide +kernel
theorem dX8_share_21 : decode cX8_share 21 = .ok (.ireturn, 1) := by decide +kernel
theorem dX8_share_22 : decode cX8_share 22 = .ok (.aload_n 0, 1) := by decide +kernel
theorem dX8_share_23 : decode cX8_share 23 = .ok (.getfield 59, 3) := by decide +kernel
theorem dX8_share_26 : decode cX8_share 26 = .ok (.iconst (-1), 1) := by decide +kernel
theorem dX8_share_27 : decode cX8_share 27 = .ok (.invokevirtual 257, 3) := by decide +kernel
theorem dX8_share_30 : decode cX8_share 30 = .ok (.lconst 0, 1) := by decide +kernel
theorem dX8_share_31 : decode cX8_share 31 = .ok (.lstore_n 3, 1) := by decide +kernel
theorem dX8_share_32 : decode cX8_share 32 = .ok (.iconst 0, 1) := by decide +kernel
theorem dX8_share_33 : decode cX8_share 33 = .ok (.istore 5, 2) := by decide +kernel
theorem dX8_share_35 : decode cX8_share 35 = .ok (.iload 5, 2) := by decide +kernel
theorem dX8_share_37 : decode cX8_share 37 = .ok (.aload_n 0, 1) := by decide +kernel
theorem dX8_share_38 : decode cX8_share 38 = .ok (.getfield 32, 3) := by decide +kernel
theorem dX8_share_41 : decode cX8_share 41 = .ok (.invokevirtual 243, 3) := by decide +kernel
theorem dX8_share_44 : decode cX8_share 44 = .ok (.if_icmp .gt 74, 3) := by decide +kernel
theorem dX8_share_47 : decode cX8_share 47 = .ok (.iload 5, 2) := by decide +kernel
theorem dX8_share_49 : decode cX8_share 49 = .ok (.iload_n 1, 1) := by decide +kernel
theorem dX8_share_50 : decode cX8_share 50 = .ok (.invokestatic 145, 3) := by decide +kernel
theorem dX8_share_53 : decode cX8_share 53 = .ok (.ifCond .ne 59, 3) := by decide +kernel
theorem dX8_share_56 : decode cX8_share 56 = .ok (.iload 5, 2) := by decide +kernel
theorem dX8_share_58 : decode cX8_share 58 = .ok (.invokestatic 252, 3) := by decide +kernel
theorem dX8_share_61 : decode cX8_share 61 = .ok (.istore 6, 2) := by decide +kernel
theorem dX8_share_63 : decode cX8_share 63 = .ok (.iload 6, 2) := by decide +kernel
theorem dX8_share_65 : decode cX8_share 65 = .ok (.invokestatic 267, 3) := by decide +kernel
theorem dX8_share_68 : decode cX8_share 68 = .ok (.i2l, 1) := by decide +kernel
theorem dX8_share_69 : decode cX8_share 69 = .ok (.aload_n 0, 1) := by decide +kernel
theorem dX8_share_70 : decode cX8_share 70 = .ok (.getfield 32, 3) := by decide +kernel
theorem dX8_share_73 : decode cX8_share 73 = .ok (.getfield 156, 3) := by decide +kernel
theorem dX8_share_76 : decode cX8_share 76 = .ok (.iconst 1, 1) := by decide +kernel
theorem dX8_share_77 : decode cX8_share 77 = .ok (.isub, 1) := by decide +kernel
theorem dX8_share_78 : decode cX8_share 78 = .ok (.iload 6, 2) := by decide +kernel
theorem dX8_share_80 : decode cX8_share 80 = .ok (.isub, 1) := by decide +kernel
theorem dX8_share_81 : decode cX8_share 81 = .ok (.invokestatic 267, 3) := by decide +kernel
theorem dX8_share_84 : decode cX8_share 84 = .ok (.i2l, 1) := by decide +kernel
theorem dX8_share_85 : decode cX8_share 85 = .ok (.lmul, 1) := by decide +kernel
theorem dX8_share_86 : decode cX8_share 86 = .ok (.lstore 7, 2) := by decide +kernel
theorem dX8_share_88 : decode cX8_share 88 = .ok (.lload_n 3, 1) := by decide +kernel
theorem dX8_share_89 : decode cX8_share 89 = .ok (.lload 7, 2) := by decide +kernel
theorem dX8_share_91 : decode cX8_share 91 = .ok (.aload_n 0, 1) := by decide +kernel
theorem dX8_share_92 : decode cX8_share 92 = .ok (.iload 5, 2) := by decide +kernel
theorem dX8_share_94 : decode cX8_share 94 = .ok (.iconst 1, 1) := by decide +kernel
theorem dX8_share_95 : decode cX8_share 95 = .ok (.iload_n 1, 1) := by decide +kernel
theorem dX8_share_96 : decode cX8_share 96 = .ok (.ishl, 1) := by decide +kernel
theorem dX8_share_97 : decode cX8_share 97 = .ok (.ior, 1) := by decide +kernel
theorem dX8_share_98 : decode cX8_share 98 = .ok (.invokevirtual 260, 3) := by decide +kernel
theorem dX8_share_101 : decode cX8_share 101 = .ok (.aload_n 0, 1) := by decide +kernel
theorem dX8_share_102 : decode cX8_share 102 = .ok (.iload 5, 2) := by decide +kernel
theorem dX8_share_104 : decode cX8_share 104 = .ok (.invokevirtual 260, 3) := by decide +kernel
theorem dX8_share_107 : decode cX8_share 107 = .ok (.isub, 1) := by decide +kernel
theorem dX8_share_108 : decode cX8_share 108 = .ok (.i2l, 1) := by decide +kernel
theorem dX8_share_109 : decode cX8_share 109 = .ok (.lmul, 1) := by decide +kernel
theorem dX8_share_110 : decode cX8_share 110 = .ok (.ladd, 1) := by decide +kernel
theorem dX8_share_111 : decode cX8_share 111 = .ok (.lstore_n 3, 1) := by decide +kernel
theorem dX8_share_112 : decode cX8_share 112 = .ok (.iinc 5 1, 3) := by decide +kernel
theorem dX8_share_115 : decode cX8_share 115 = .ok (.goto (-80), 3) := by decide +kernel
theorem dX8_share_118 : decode cX8_share 118 = .ok (.lload_n 3, 1) := by decide +kernel
theorem dX8_share_119 : decode cX8_share 119 = .ok (.aload_n 0, 1) := by decide +kernel
theorem dX8_share_120 : decode cX8_share 120 = .ok (.getfield 32, 3) := by decide +kernel
theorem dX8_share_123 : decode cX8_share 123 = .ok (.getfield 156, 3) := by decide +kernel
theorem dX8_share_126 : decode cX8_share 126 = .ok (.invokestatic 267, 3) := by decide +kernel
theorem dX8_share_129 : decode cX8_share 129 = .ok (.i2l, 1) := by decide +kernel
theorem dX8_share_130 : decode cX8_share 130 = .ok (.iload_n 2, 1) := by decide +kernel
theorem dX8_share_131 : decode cX8_share 131 = .ok (.invokestatic 270, 3) := by decide +kernel
theorem dX8_share_134 : decode cX8_share 134 = .ok (.l2i, 1) := by decide +kernel
theorem dX8_share_135 : decode cX8_share 135 = .ok (.ireturn, 1) := by decide +kernel

theorem dX8_sharp_0 : decode cX8_sharp 0 = .ok (.aload_n 0, 1) := by decide +kernel
theorem dX8_sharp_1 : decode cX8_sharp 1 = .ok (.getfield 32, 3) := by decide +kernel
theorem dX8_sharp_4 : decode cX8_sharp 4 = .ok (.invokevirtual 153, 3) := by decide +kernel
theorem dX8_sharp_7 : decode cX8_sharp 7 = .ok (.ifCond .eq 10, 3) := by decide +kernel
theorem dX8_sharp_10 : decode cX8_sharp 10 = .ok (.aload_n 0, 1) := by decide +kernel
theorem dX8_sharp_11 : decode cX8_sharp 11 = .ok (.invokevirtual 234, 3) := by decide +kernel
theorem dX8_sharp_14 : decode cX8_sharp 14 = .ok (.goto 5, 3) := by decide +kernel
theorem dX8_sharp_17 : decode cX8_sharp 17 = .ok (.bipush (-2), 2) := by decide +kernel
theorem dX8_sharp_19 : decode cX8_sharp 19 = .ok (.ireturn, 1) := by decide +kernel

theorem dX8_slit_0 : decode cX8_slit 0 = .ok (.aload_n 0, 1) := by decide +kernel
theorem dX8_slit_1 : decode cX8_slit 1 = .ok (.getfield 32, 3) := by decide +kernel
theorem dX8_slit_4 : decode cX8_slit 4 = .ok (.invokevirtual 153, 3) := by decide +kernel
theorem dX8_slit_7 : decode cX8_slit 7 = .ok (.ifCond .ne 6, 3) := by decide +kernel
theorem dX8_slit_10 : decode cX8_slit 10 = .ok (.bipush (-2), 2) := by decide +kernel
theorem dX8_slit_12 : decode cX8_slit 12 = .ok (.ireturn, 1) := by decide +kernel
theorem dX8_slit_13 : decode cX8_slit 13 = .ok (.iconst (-1), 1) := by decide +kernel
theorem dX8_slit_14 : decode cX8_slit 14 = .ok (.istore_n 1, 1) := by decide +kernel
theorem dX8_slit_15 : decode cX8_slit 15 = .ok (.aload_n 0, 1) := by decide +kernel
theorem dX8_slit_16 : decode cX8_slit 16 = .ok (.invokevirtual 189, 3) := by decide +kernel
theorem dX8_slit_19 : decode cX8_slit 19 = .ok (.invokevirtual 217, 3) := by decide +kernel
theorem dX8_slit_22 : decode cX8_slit 22 = .ok (.istore_n 2, 1) := by decide +kernel
theorem dX8_slit_23 : decode cX8_slit 23 = .ok (.iconst 0, 1) := by decide +kernel
theorem dX8_slit_24 : decode cX8_slit 24 = .ok (.istore_n 3, 1) := by decide +kernel
theorem dX8_slit_25 : decode cX8_slit 25 = .ok (.iload_n 3, 1) := by decide +kernel
theorem dX8_slit_26 : decode cX8_slit 26 = .ok (.aload_n 0, 1) := by decide +kernel
theorem dX8_slit_27 : decode cX8_slit 27 = .ok (.getfield 32, 3) := by decide +kernel
theorem dX8_slit_30 : decode cX8_slit 30 = .ok (.getfield 176, 3) := by decide +kernel
theorem dX8_slit_33 : decode cX8_slit 33 = .ok (.if_icmp .ge 51, 3) := by decide +kernel
theorem dX8_slit_36 : decode cX8_slit 36 = .ok (.aload_n 0, 1) := by decide +kernel
theorem dX8_slit_37 : decode cX8_slit 37 = .ok (.getfield 59, 3) := by decide +kernel
theorem dX8_slit_40 : decode cX8_slit 40 = .ok (.iload_n 3, 1) := by decide +kernel
theorem dX8_slit_41 : decode cX8_slit 41 = .ok (.invokevirtual 257, 3) := by decide +kernel
theorem dX8_slit_44 : decode cX8_slit 44 = .ok (.aload_n 0, 1) := by decide +kernel
theorem dX8_slit_45 : decode cX8_slit 45 = .ok (.getfield 59, 3) := by decide +kernel
theorem dX8_slit_48 : decode cX8_slit 48 = .ok (.aload_n 0, 1) := by decide +kernel
theorem dX8_slit_49 : decode cX8_slit 49 = .ok (.getfield 32, 3) := by decide +kernel
theorem dX8_slit_52 : decode cX8_slit 52 = .ok (.invokevirtual 315, 3) := by decide +kernel
theorem dX8_slit_55 : decode cX8_slit 55 = .ok (.invokevirtual 329, 3) := by decide +kernel
theorem dX8_slit_58 : decode cX8_slit 58 = .ok (.aload_n 0, 1) := by decide +kernel
theorem dX8_slit_59 : decode cX8_slit 59 = .ok (.getfield 59, 3) := by decide +kernel
theorem dX8_slit_62 : decode cX8_slit 62 = .ok (.invokevirtual 217, 3) := by decide +kernel
theorem dX8_slit_65 : decode cX8_slit 65 = .ok (.istore 4, 2) := by decide +kernel
theorem dX8_slit_67 : decode cX8_slit 67 = .ok (.iload 4, 2) := by decide +kernel
theorem dX8_slit_69 : decode cX8_slit 69 = .ok (.iload_n 2, 1) := by decide +kernel
theorem dX8_slit_70 : decode cX8_slit 70 = .ok (.if_icmp .le 8, 3) := by decide +kernel
theorem dX8_slit_73 : decode cX8_slit 73 = .ok (.iload 4, 2) := by decide +kernel
theorem dX8_slit_75 : decode cX8_slit 75 = .ok (.istore_n 2, 1) := by decide +kernel
theorem dX8_slit_76 : decode cX8_slit 76 = .ok (.iload_n 3, 1) := by decide +kernel
theorem dX8_slit_77 : decode cX8_slit 77 = .ok (.istore_n 1, 1) := by decide +kernel
theorem dX8_slit_78 : decode cX8_slit 78 = .ok (.iinc 3 1, 3) := by decide +kernel
theorem dX8_slit_81 : decode cX8_slit 81 = .ok (.goto (-56), 3) := by decide +kernel
theorem dX8_slit_84 : decode cX8_slit 84 = .ok (.iload_n 1, 1) := by decide +kernel
theorem dX8_slit_85 : decode cX8_slit 85 = .ok (.ireturn, 1) := by decide +kernel

theorem dX8_stalest_0 : decode cX8_stalest 0 = .ok (.aload_n 0, 1) := by decide +kernel
theorem dX8_stalest_1 : decode cX8_stalest 1 = .ok (.getfield 32, 3) := by decide +kernel
theorem dX8_stalest_4 : decode cX8_stalest 4 = .ok (.iload_n 1, 1) := by decide +kernel
theorem dX8_stalest_5 : decode cX8_stalest 5 = .ok (.invokevirtual 196, 3) := by decide +kernel
theorem dX8_stalest_8 : decode cX8_stalest 8 = .ok (.ifCond .ne 6, 3) := by decide +kernel
theorem dX8_stalest_11 : decode cX8_stalest 11 = .ok (.bipush (-2), 2) := by decide +kernel
theorem dX8_stalest_13 : decode cX8_stalest 13 = .ok (.ireturn, 1) := by decide +kernel
theorem dX8_stalest_14 : decode cX8_stalest 14 = .ok (.aload_n 0, 1) := by decide +kernel
theorem dX8_stalest_15 : decode cX8_stalest 15 = .ok (.invokevirtual 189, 3) := by decide +kernel
theorem dX8_stalest_18 : decode cX8_stalest 18 = .ok (.iload_n 1, 1) := by decide +kernel
theorem dX8_stalest_19 : decode cX8_stalest 19 = .ok (.invokevirtual 199, 3) := by decide +kernel
theorem dX8_stalest_22 : decode cX8_stalest 22 = .ok (.istore_n 2, 1) := by decide +kernel
theorem dX8_stalest_23 : decode cX8_stalest 23 = .ok (.iconst (-1), 1) := by decide +kernel
theorem dX8_stalest_24 : decode cX8_stalest 24 = .ok (.istore_n 3, 1) := by decide +kernel
theorem dX8_stalest_25 : decode cX8_stalest 25 = .ok (.iconst (-1), 1) := by decide +kernel
theorem dX8_stalest_26 : decode cX8_stalest 26 = .ok (.istore 4, 2) := by decide +kernel
theorem dX8_stalest_28 : decode cX8_stalest 28 = .ok (.iconst 0, 1) := by decide +kernel
theorem dX8_stalest_29 : decode cX8_stalest 29 = .ok (.istore 5, 2) := by decide +kernel
theorem dX8_stalest_31 : decode cX8_stalest 31 = .ok (.iload 5, 2) := by decide +kernel
theorem dX8_stalest_33 : decode cX8_stalest 33 = .ok (.aload_n 0, 1) := by decide +kernel
theorem dX8_stalest_34 : decode cX8_stalest 34 = .ok (.getfield 32, 3) := by decide +kernel
theorem dX8_stalest_37 : decode cX8_stalest 37 = .ok (.getfield 156, 3) := by decide +kernel
theorem dX8_stalest_40 : decode cX8_stalest 40 = .ok (.if_icmp .ge 48, 3) := by decide +kernel
theorem dX8_stalest_43 : decode cX8_stalest 43 = .ok (.iload_n 2, 1) := by decide +kernel
theorem dX8_stalest_44 : decode cX8_stalest 44 = .ok (.iload 5, 2) := by decide +kernel
theorem dX8_stalest_46 : decode cX8_stalest 46 = .ok (.invokestatic 145, 3) := by decide +kernel
theorem dX8_stalest_49 : decode cX8_stalest 49 = .ok (.ifCond .eq 7, 3) := by decide +kernel
theorem dX8_stalest_52 : decode cX8_stalest 52 = .ok (.iconst (-1), 1) := by decide +kernel
theorem dX8_stalest_53 : decode cX8_stalest 53 = .ok (.goto 13, 3) := by decide +kernel
theorem dX8_stalest_56 : decode cX8_stalest 56 = .ok (.aload_n 0, 1) := by decide +kernel
theorem dX8_stalest_57 : decode cX8_stalest 57 = .ok (.invokevirtual 189, 3) := by decide +kernel
theorem dX8_stalest_60 : decode cX8_stalest 60 = .ok (.iload 5, 2) := by decide +kernel
theorem dX8_stalest_62 : decode cX8_stalest 62 = .ok (.iload_n 1, 1) := by decide +kernel
theorem dX8_stalest_63 : decode cX8_stalest 63 = .ok (.invokevirtual 193, 3) := by decide +kernel
theorem dX8_stalest_66 : decode cX8_stalest 66 = .ok (.istore 6, 2) := by decide +kernel
theorem dX8_stalest_68 : decode cX8_stalest 68 = .ok (.iload 6, 2) := by decide +kernel
theorem dX8_stalest_70 : decode cX8_stalest 70 = .ok (.iload 4, 2) := by decide +kernel
theorem dX8_stalest_72 : decode cX8_stalest 72 = .ok (.if_icmp .le 10, 3) := by decide +kernel
theorem dX8_stalest_75 : decode cX8_stalest 75 = .ok (.iload 6, 2) := by decide +kernel
theorem dX8_stalest_77 : decode cX8_stalest 77 = .ok (.istore 4, 2) := by decide +kernel
theorem dX8_stalest_79 : decode cX8_stalest 79 = .ok (.iload 5, 2) := by decide +kernel
theorem dX8_stalest_81 : decode cX8_stalest 81 = .ok (.istore_n 3, 1) := by decide +kernel
theorem dX8_stalest_82 : decode cX8_stalest 82 = .ok (.iinc 5 1, 3) := by decide +kernel
theorem dX8_stalest_85 : decode cX8_stalest 85 = .ok (.goto (-54), 3) := by decide +kernel
theorem dX8_stalest_88 : decode cX8_stalest 88 = .ok (.iload_n 3, 1) := by decide +kernel
theorem dX8_stalest_89 : decode cX8_stalest 89 = .ok (.ireturn, 1) := by decide +kernel

theorem dX8_stiff_0 : decode cX8_stiff 0 = .ok (.aload_n 0, 1) := by decide +kernel
theorem dX8_stiff_1 : decode cX8_stiff 1 = .ok (.iload_n 1, 1) := by decide +kernel
theorem dX8_stiff_2 : decode cX8_stiff 2 = .ok (.iload_n 2, 1) := by decide +kernel
theorem dX8_stiff_3 : decode cX8_stiff 3 = .ok (.invokevirtual 186, 3) := by decide +kernel
theorem dX8_stiff_6 : decode cX8_stiff 6 = .ok (.ifCond .eq 15, 3) := by decide +kernel
theorem dX8_stiff_9 : decode cX8_stiff 9 = .ok (.aload_n 0, 1) := by decide +kernel
theorem dX8_stiff_10 : decode cX8_stiff 10 = .ok (.invokevirtual 189, 3) := by decide +kernel
theorem dX8_stiff_13 : decode cX8_stiff 13 = .ok (.iload_n 1, 1) := by decide +kernel
theorem dX8_stiff_14 : decode cX8_stiff 14 = .ok (.iload_n 2, 1) := by decide +kernel
theorem dX8_stiff_15 : decode cX8_stiff 15 = .ok (.invokevirtual 193, 3) := by decide +kernel
theorem dX8_stiff_18 : decode cX8_stiff 18 = .ok (.goto 5, 3) := by decide +kernel
theorem dX8_stiff_21 : decode cX8_stiff 21 = .ok (.bipush (-2), 2) := by decide +kernel
theorem dX8_stiff_23 : decode cX8_stiff 23 = .ok (.ireturn, 1) := by decide +kernel

theorem dX8_stiffs_0 : decode cX8_stiffs 0 = .ok (.aload_n 0, 1) := by decide +kernel
theorem dX8_stiffs_1 : decode cX8_stiffs 1 = .ok (.iload_n 1, 1) := by decide +kernel
theorem dX8_stiffs_2 : decode cX8_stiffs 2 = .ok (.iload_n 2, 1) := by decide +kernel
theorem dX8_stiffs_3 : decode cX8_stiffs 3 = .ok (.invokevirtual 289, 3) := by decide +kernel
theorem dX8_stiffs_6 : decode cX8_stiffs 6 = .ok (.istore_n 3, 1) := by decide +kernel
theorem dX8_stiffs_7 : decode cX8_stiffs 7 = .ok (.iload_n 3, 1) := by decide +kernel
theorem dX8_stiffs_8 : decode cX8_stiffs 8 = .ok (.ifCond .ne 19, 3) := by decide +kernel
theorem dX8_stiffs_11 : decode cX8_stiffs 11 = .ok (.aload_n 0, 1) := by decide +kernel
theorem dX8_stiffs_12 : decode cX8_stiffs 12 = .ok (.getfield 83, 3) := by decide +kernel
theorem dX8_stiffs_15 : decode cX8_stiffs 15 = .ok (.iload_n 1, 1) := by decide +kernel
theorem dX8_stiffs_16 : decode cX8_stiffs 16 = .ok (.iload_n 2, 1) := by decide +kernel
theorem dX8_stiffs_17 : decode cX8_stiffs 17 = .ok (.aload_n 0, 1) := by decide +kernel
theorem dX8_stiffs_18 : decode cX8_stiffs 18 = .ok (.invokevirtual 189, 3) := by decide +kernel
theorem dX8_stiffs_21 : decode cX8_stiffs 21 = .ok (.invokevirtual 292, 3) := by decide +kernel
theorem dX8_stiffs_24 : decode cX8_stiffs 24 = .ok (.goto 4, 3) := by decide +kernel
theorem dX8_stiffs_27 : decode cX8_stiffs 27 = .ok (.iload_n 3, 1) := by decide +kernel
theorem dX8_stiffs_28 : decode cX8_stiffs 28 = .ok (.ireturn, 1) := by decide +kernel

theorem dX8_tale_0 : decode cX8_tale 0 = .ok (.aload_n 0, 1) := by decide +kernel
theorem dX8_tale_1 : decode cX8_tale 1 = .ok (.getfield 28, 3) := by decide +kernel
theorem dX8_tale_4 : decode cX8_tale 4 = .ok (.invokevirtual 109, 3) := by decide +kernel
theorem dX8_tale_7 : decode cX8_tale 7 = .ok (.ifCond .ne 6, 3) := by decide +kernel
theorem dX8_tale_10 : decode cX8_tale 10 = .ok (.bipush (-4), 2) := by decide +kernel
theorem dX8_tale_12 : decode cX8_tale 12 = .ok (.ireturn, 1) := by decide +kernel
theorem dX8_tale_13 : decode cX8_tale 13 = .ok (.aload_n 0, 1) := by decide +kernel
theorem dX8_tale_14 : decode cX8_tale 14 = .ok (.getfield 32, 3) := by decide +kernel
theorem dX8_tale_17 : decode cX8_tale 17 = .ok (.aload_n 0, 1) := by decide +kernel
theorem dX8_tale_18 : decode cX8_tale 18 = .ok (.getfield 19, 3) := by decide +kernel
theorem dX8_tale_21 : decode cX8_tale 21 = .ok (.invokevirtual 112, 3) := by decide +kernel
theorem dX8_tale_24 : decode cX8_tale 24 = .ok (.aload_n 0, 1) := by decide +kernel
theorem dX8_tale_25 : decode cX8_tale 25 = .ok (.getfield 10, 3) := by decide +kernel
theorem dX8_tale_28 : decode cX8_tale 28 = .ok (.iconst 0, 1) := by decide +kernel
theorem dX8_tale_29 : decode cX8_tale 29 = .ok (.putfield 106, 3) := by decide +kernel
theorem dX8_tale_32 : decode cX8_tale 32 = .ok (.aload_n 0, 1) := by decide +kernel
theorem dX8_tale_33 : decode cX8_tale 33 = .ok (.invokevirtual 115, 3) := by decide +kernel
theorem dX8_tale_36 : decode cX8_tale 36 = .ok (.aload_n 0, 1) := by decide +kernel
theorem dX8_tale_37 : decode cX8_tale 37 = .ok (.getfield 32, 3) := by decide +kernel
theorem dX8_tale_40 : decode cX8_tale 40 = .ok (.getfield 118, 3) := by decide +kernel
theorem dX8_tale_43 : decode cX8_tale 43 = .ok (.ireturn, 1) := by decide +kernel

theorem dX8_uncle_0 : decode cX8_uncle 0 = .ok (.aload_n 0, 1) := by decide +kernel
theorem dX8_uncle_1 : decode cX8_uncle 1 = .ok (.getfield 32, 3) := by decide +kernel
theorem dX8_uncle_4 : decode cX8_uncle 4 = .ok (.getfield 156, 3) := by decide +kernel
theorem dX8_uncle_7 : decode cX8_uncle 7 = .ok (.ifCond .ne 7, 3) := by decide +kernel
theorem dX8_uncle_10 : decode cX8_uncle 10 = .ok (.sipush (-1000), 3) := by decide +kernel
theorem dX8_uncle_13 : decode cX8_uncle 13 = .ok (.ireturn, 1) := by decide +kernel
theorem dX8_uncle_14 : decode cX8_uncle 14 = .ok (.aload_n 0, 1) := by decide +kernel
theorem dX8_uncle_15 : decode cX8_uncle 15 = .ok (.getfield 59, 3) := by decide +kernel
theorem dX8_uncle_18 : decode cX8_uncle 18 = .ok (.iconst (-1), 1) := by decide +kernel
theorem dX8_uncle_19 : decode cX8_uncle 19 = .ok (.invokevirtual 257, 3) := by decide +kernel
theorem dX8_uncle_22 : decode cX8_uncle 22 = .ok (.aload_n 0, 1) := by decide +kernel
theorem dX8_uncle_23 : decode cX8_uncle 23 = .ok (.iconst 0, 1) := by decide +kernel
theorem dX8_uncle_24 : decode cX8_uncle 24 = .ok (.invokevirtual 332, 3) := by decide +kernel
theorem dX8_uncle_27 : decode cX8_uncle 27 = .ok (.istore_n 1, 1) := by decide +kernel
theorem dX8_uncle_28 : decode cX8_uncle 28 = .ok (.iconst 1, 1) := by decide +kernel
theorem dX8_uncle_29 : decode cX8_uncle 29 = .ok (.istore_n 2, 1) := by decide +kernel
theorem dX8_uncle_30 : decode cX8_uncle 30 = .ok (.iload_n 2, 1) := by decide +kernel
theorem dX8_uncle_31 : decode cX8_uncle 31 = .ok (.aload_n 0, 1) := by decide +kernel
theorem dX8_uncle_32 : decode cX8_uncle 32 = .ok (.getfield 32, 3) := by decide +kernel
theorem dX8_uncle_35 : decode cX8_uncle 35 = .ok (.getfield 156, 3) := by decide +kernel
theorem dX8_uncle_38 : decode cX8_uncle 38 = .ok (.if_icmp .ge 19, 3) := by decide +kernel
theorem dX8_uncle_41 : decode cX8_uncle 41 = .ok (.iload_n 1, 1) := by decide +kernel
theorem dX8_uncle_42 : decode cX8_uncle 42 = .ok (.aload_n 0, 1) := by decide +kernel
theorem dX8_uncle_43 : decode cX8_uncle 43 = .ok (.iload_n 2, 1) := by decide +kernel
theorem dX8_uncle_44 : decode cX8_uncle 44 = .ok (.invokevirtual 332, 3) := by decide +kernel
theorem dX8_uncle_47 : decode cX8_uncle 47 = .ok (.invokestatic 223, 3) := by decide +kernel
theorem dX8_uncle_50 : decode cX8_uncle 50 = .ok (.istore_n 1, 1) := by decide +kernel
theorem dX8_uncle_51 : decode cX8_uncle 51 = .ok (.iinc 2 1, 3) := by decide +kernel
theorem dX8_uncle_54 : decode cX8_uncle 54 = .ok (.goto (-24), 3) := by decide +kernel
theorem dX8_uncle_57 : decode cX8_uncle 57 = .ok (.iload_n 1, 1) := by decide +kernel
theorem dX8_uncle_58 : decode cX8_uncle 58 = .ok (.ireturn, 1) := by decide +kernel

theorem dX8_uncut_0 : decode cX8_uncut 0 = .ok (.aload_n 0, 1) := by decide +kernel
theorem dX8_uncut_1 : decode cX8_uncut 1 = .ok (.getfield 32, 3) := by decide +kernel
theorem dX8_uncut_4 : decode cX8_uncut 4 = .ok (.invokevirtual 153, 3) := by decide +kernel
theorem dX8_uncut_7 : decode cX8_uncut 7 = .ok (.ifCond .eq 10, 3) := by decide +kernel
theorem dX8_uncut_10 : decode cX8_uncut 10 = .ok (.aload_n 0, 1) := by decide +kernel
theorem dX8_uncut_11 : decode cX8_uncut 11 = .ok (.invokevirtual 240, 3) := by decide +kernel
theorem dX8_uncut_14 : decode cX8_uncut 14 = .ok (.goto 5, 3) := by decide +kernel
theorem dX8_uncut_17 : decode cX8_uncut 17 = .ok (.bipush (-2), 2) := by decide +kernel
theorem dX8_uncut_19 : decode cX8_uncut 19 = .ok (.ireturn, 1) := by decide +kernel

theorem dX8_undo_0 : decode cX8_undo 0 = .ok (.aload_n 0, 1) := by decide +kernel
theorem dX8_undo_1 : decode cX8_undo 1 = .ok (.getfield 32, 3) := by decide +kernel
theorem dX8_undo_4 : decode cX8_undo 4 = .ok (.invokevirtual 153, 3) := by decide +kernel
theorem dX8_undo_7 : decode cX8_undo 7 = .ok (.ifCond .ne 6, 3) := by decide +kernel
theorem dX8_undo_10 : decode cX8_undo 10 = .ok (.bipush (-2), 2) := by decide +kernel
theorem dX8_undo_12 : decode cX8_undo 12 = .ok (.ireturn, 1) := by decide +kernel
theorem dX8_undo_13 : decode cX8_undo 13 = .ok (.aload_n 0, 1) := by decide +kernel
theorem dX8_undo_14 : decode cX8_undo 14 = .ok (.getfield 32, 3) := by decide +kernel
theorem dX8_undo_17 : decode cX8_undo 17 = .ok (.getfield 179, 3) := by decide +kernel
theorem dX8_undo_20 : decode cX8_undo 20 = .ok (.ifCond .ne 6, 3) := by decide +kernel
theorem dX8_undo_23 : decode cX8_undo 23 = .ok (.bipush (-5), 2) := by decide +kernel
theorem dX8_undo_25 : decode cX8_undo 25 = .ok (.ireturn, 1) := by decide +kernel
theorem dX8_undo_26 : decode cX8_undo 26 = .ok (.aload_n 0, 1) := by decide +kernel
theorem dX8_undo_27 : decode cX8_undo 27 = .ok (.getfield 32, 3) := by decide +kernel
theorem dX8_undo_30 : decode cX8_undo 30 = .ok (.dup, 1) := by decide +kernel
theorem dX8_undo_31 : decode cX8_undo 31 = .ok (.getfield 179, 3) := by decide +kernel
theorem dX8_undo_34 : decode cX8_undo 34 = .ok (.iconst 1, 1) := by decide +kernel
theorem dX8_undo_35 : decode cX8_undo 35 = .ok (.isub, 1) := by decide +kernel
theorem dX8_undo_36 : decode cX8_undo 36 = .ok (.putfield 179, 3) := by decide +kernel
theorem dX8_undo_39 : decode cX8_undo 39 = .ok (.aload_n 0, 1) := by decide +kernel
theorem dX8_undo_40 : decode cX8_undo 40 = .ok (.invokevirtual 115, 3) := by decide +kernel
theorem dX8_undo_43 : decode cX8_undo 43 = .ok (.aload_n 0, 1) := by decide +kernel
theorem dX8_undo_44 : decode cX8_undo 44 = .ok (.getfield 32, 3) := by decide +kernel
theorem dX8_undo_47 : decode cX8_undo 47 = .ok (.getfield 179, 3) := by decide +kernel
theorem dX8_undo_50 : decode cX8_undo 50 = .ok (.ireturn, 1) := by decide +kernel

theorem dX8_waits_0 : decode cX8_waits 0 = .ok (.aload_n 0, 1) := by decide +kernel
theorem dX8_waits_1 : decode cX8_waits 1 = .ok (.getfield 32, 3) := by decide +kernel
theorem dX8_waits_4 : decode cX8_waits 4 = .ok (.iload_n 1, 1) := by decide +kernel
theorem dX8_waits_5 : decode cX8_waits 5 = .ok (.invokevirtual 196, 3) := by decide +kernel
theorem dX8_waits_8 : decode cX8_waits 8 = .ok (.ifCond .ne 6, 3) := by decide +kernel
theorem dX8_waits_11 : decode cX8_waits 11 = .ok (.bipush (-2), 2) := by decide +kernel
theorem dX8_waits_13 : decode cX8_waits 13 = .ok (.ireturn, 1) := by decide +kernel
theorem dX8_waits_14 : decode cX8_waits 14 = .ok (.iconst 0, 1) := by decide +kernel
theorem dX8_waits_15 : decode cX8_waits 15 = .ok (.istore_n 2, 1) := by decide +kernel
theorem dX8_waits_16 : decode cX8_waits 16 = .ok (.iconst 0, 1) := by decide +kernel
theorem dX8_waits_17 : decode cX8_waits 17 = .ok (.istore_n 3, 1) := by decide +kernel
theorem dX8_waits_18 : decode cX8_waits 18 = .ok (.iload_n 3, 1) := by decide +kernel
theorem dX8_waits_19 : decode cX8_waits 19 = .ok (.aload_n 0, 1) := by decide +kernel
theorem dX8_waits_20 : decode cX8_waits 20 = .ok (.getfield 32, 3) := by decide +kernel
theorem dX8_waits_23 : decode cX8_waits 23 = .ok (.getfield 156, 3) := by decide +kernel
theorem dX8_waits_26 : decode cX8_waits 26 = .ok (.if_icmp .ge 25, 3) := by decide +kernel
theorem dX8_waits_29 : decode cX8_waits 29 = .ok (.iload_n 2, 1) := by decide +kernel
theorem dX8_waits_30 : decode cX8_waits 30 = .ok (.iconst 0, 1) := by decide +kernel
theorem dX8_waits_31 : decode cX8_waits 31 = .ok (.aload_n 0, 1) := by decide +kernel
theorem dX8_waits_32 : decode cX8_waits 32 = .ok (.invokevirtual 189, 3) := by decide +kernel
theorem dX8_waits_35 : decode cX8_waits 35 = .ok (.iload_n 3, 1) := by decide +kernel
theorem dX8_waits_36 : decode cX8_waits 36 = .ok (.iload_n 1, 1) := by decide +kernel
theorem dX8_waits_37 : decode cX8_waits 37 = .ok (.invokevirtual 220, 3) := by decide +kernel
theorem dX8_waits_40 : decode cX8_waits 40 = .ok (.invokestatic 223, 3) := by decide +kernel
theorem dX8_waits_43 : decode cX8_waits 43 = .ok (.iadd, 1) := by decide +kernel
theorem dX8_waits_44 : decode cX8_waits 44 = .ok (.istore_n 2, 1) := by decide +kernel
theorem dX8_waits_45 : decode cX8_waits 45 = .ok (.iinc 3 1, 3) := by decide +kernel
theorem dX8_waits_48 : decode cX8_waits 48 = .ok (.goto (-30), 3) := by decide +kernel
theorem dX8_waits_51 : decode cX8_waits 51 = .ok (.iload_n 2, 1) := by decide +kernel
theorem dX8_waits_52 : decode cX8_waits 52 = .ok (.ireturn, 1) := by decide +kernel

theorem dX8_when_0 : decode cX8_when 0 = .ok (.aload_n 0, 1) := by decide +kernel
theorem dX8_when_1 : decode cX8_when 1 = .ok (.getfield 32, 3) := by decide +kernel
theorem dX8_when_4 : decode cX8_when 4 = .ok (.iload_n 1, 1) := by decide +kernel
theorem dX8_when_5 : decode cX8_when 5 = .ok (.invokevirtual 127, 3) := by decide +kernel
theorem dX8_when_8 : decode cX8_when 8 = .ok (.ifCond .eq 14, 3) := by decide +kernel
theorem dX8_when_11 : decode cX8_when 11 = .ok (.aload_n 0, 1) := by decide +kernel
theorem dX8_when_12 : decode cX8_when 12 = .ok (.invokevirtual 189, 3) := by decide +kernel
theorem dX8_when_15 : decode cX8_when 15 = .ok (.iload_n 1, 1) := by decide +kernel
theorem dX8_when_16 : decode cX8_when 16 = .ok (.invokevirtual 202, 3) := by decide +kernel
theorem dX8_when_19 : decode cX8_when 19 = .ok (.goto 5, 3) := by decide +kernel
theorem dX8_when_22 : decode cX8_when 22 = .ok (.bipush (-2), 2) := by decide +kernel
theorem dX8_when_24 : decode cX8_when 24 = .ok (.ireturn, 1) := by decide +kernel

theorem dX8_with_0 : decode cX8_with 0 = .ok (.aload_n 0, 1) := by decide +kernel
theorem dX8_with_1 : decode cX8_with 1 = .ok (.getfield 32, 3) := by decide +kernel
theorem dX8_with_4 : decode cX8_with 4 = .ok (.iload_n 1, 1) := by decide +kernel
theorem dX8_with_5 : decode cX8_with 5 = .ok (.invokevirtual 127, 3) := by decide +kernel
theorem dX8_with_8 : decode cX8_with 8 = .ok (.ifCond .ne 6, 3) := by decide +kernel
theorem dX8_with_11 : decode cX8_with 11 = .ok (.bipush (-2), 2) := by decide +kernel
theorem dX8_with_13 : decode cX8_with 13 = .ok (.ireturn, 1) := by decide +kernel
theorem dX8_with_14 : decode cX8_with 14 = .ok (.aload_n 0, 1) := by decide +kernel
theorem dX8_with_15 : decode cX8_with 15 = .ok (.invokevirtual 189, 3) := by decide +kernel
theorem dX8_with_18 : decode cX8_with 18 = .ok (.astore_n 2, 1) := by decide +kernel
theorem dX8_with_19 : decode cX8_with 19 = .ok (.aload_n 2, 1) := by decide +kernel
theorem dX8_with_20 : decode cX8_with 20 = .ok (.iload_n 1, 1) := by decide +kernel
theorem dX8_with_21 : decode cX8_with 21 = .ok (.invokevirtual 202, 3) := by decide +kernel
theorem dX8_with_24 : decode cX8_with 24 = .ok (.istore_n 3, 1) := by decide +kernel
theorem dX8_with_25 : decode cX8_with 25 = .ok (.iload_n 3, 1) := by decide +kernel
theorem dX8_with_26 : decode cX8_with 26 = .ok (.iconst (-1), 1) := by decide +kernel
theorem dX8_with_27 : decode cX8_with 27 = .ok (.if_icmp .ne 5, 3) := by decide +kernel
theorem dX8_with_30 : decode cX8_with 30 = .ok (.iconst 0, 1) := by decide +kernel
theorem dX8_with_31 : decode cX8_with 31 = .ok (.ireturn, 1) := by decide +kernel
theorem dX8_with_32 : decode cX8_with 32 = .ok (.aload_n 2, 1) := by decide +kernel
theorem dX8_with_33 : decode cX8_with 33 = .ok (.getfield 205, 3) := by decide +kernel
theorem dX8_with_36 : decode cX8_with 36 = .ok (.aload_n 2, 1) := by decide +kernel
theorem dX8_with_37 : decode cX8_with 37 = .ok (.iload_n 3, 1) := by decide +kernel
theorem dX8_with_38 : decode cX8_with 38 = .ok (.iconst 1, 1) := by decide +kernel
theorem dX8_with_39 : decode cX8_with 39 = .ok (.iadd, 1) := by decide +kernel
theorem dX8_with_40 : decode cX8_with 40 = .ok (.invokevirtual 199, 3) := by decide +kernel
theorem dX8_with_43 : decode cX8_with 43 = .ok (.iand, 1) := by decide +kernel
theorem dX8_with_44 : decode cX8_with 44 = .ok (.aload_n 2, 1) := by decide +kernel
theorem dX8_with_45 : decode cX8_with 45 = .ok (.iload_n 3, 1) := by decide +kernel
theorem dX8_with_46 : decode cX8_with 46 = .ok (.invokevirtual 199, 3) := by decide +kernel
theorem dX8_with_49 : decode cX8_with 49 = .ok (.iconst (-1), 1) := by decide +kernel
theorem dX8_with_50 : decode cX8_with 50 = .ok (.ixor, 1) := by decide +kernel
theorem dX8_with_51 : decode cX8_with 51 = .ok (.iand, 1) := by decide +kernel
theorem dX8_with_52 : decode cX8_with 52 = .ok (.ireturn, 1) := by decide +kernel

theorem dX8_worth_0 : decode cX8_worth 0 = .ok (.aload_n 0, 1) := by decide +kernel
theorem dX8_worth_1 : decode cX8_worth 1 = .ok (.getfield 32, 3) := by decide +kernel
theorem dX8_worth_4 : decode cX8_worth 4 = .ok (.invokevirtual 153, 3) := by decide +kernel
theorem dX8_worth_7 : decode cX8_worth 7 = .ok (.ifCond .eq 18, 3) := by decide +kernel
theorem dX8_worth_10 : decode cX8_worth 10 = .ok (.iload_n 1, 1) := by decide +kernel
theorem dX8_worth_11 : decode cX8_worth 11 = .ok (.ifCond .lt 14, 3) := by decide +kernel
theorem dX8_worth_14 : decode cX8_worth 14 = .ok (.iload_n 1, 1) := by decide +kernel
theorem dX8_worth_15 : decode cX8_worth 15 = .ok (.aload_n 0, 1) := by decide +kernel
theorem dX8_worth_16 : decode cX8_worth 16 = .ok (.getfield 32, 3) := by decide +kernel
theorem dX8_worth_19 : decode cX8_worth 19 = .ok (.invokevirtual 243, 3) := by decide +kernel
theorem dX8_worth_22 : decode cX8_worth 22 = .ok (.if_icmp .le 6, 3) := by decide +kernel
theorem dX8_worth_25 : decode cX8_worth 25 = .ok (.bipush (-2), 2) := by decide +kernel
theorem dX8_worth_27 : decode cX8_worth 27 = .ok (.ireturn, 1) := by decide +kernel
theorem dX8_worth_28 : decode cX8_worth 28 = .ok (.aload_n 0, 1) := by decide +kernel
theorem dX8_worth_29 : decode cX8_worth 29 = .ok (.getfield 59, 3) := by decide +kernel
theorem dX8_worth_32 : decode cX8_worth 32 = .ok (.iconst (-1), 1) := by decide +kernel
theorem dX8_worth_33 : decode cX8_worth 33 = .ok (.invokevirtual 257, 3) := by decide +kernel
theorem dX8_worth_36 : decode cX8_worth 36 = .ok (.aload_n 0, 1) := by decide +kernel
theorem dX8_worth_37 : decode cX8_worth 37 = .ok (.iload_n 1, 1) := by decide +kernel
theorem dX8_worth_38 : decode cX8_worth 38 = .ok (.invokevirtual 260, 3) := by decide +kernel
theorem dX8_worth_41 : decode cX8_worth 41 = .ok (.ireturn, 1) := by decide +kernel

theorem dX8_write_0 : decode cX8_write 0 = .ok (.aload_n 0, 1) := by decide +kernel
theorem dX8_write_1 : decode cX8_write 1 = .ok (.getfield 46, 3) := by decide +kernel
theorem dX8_write_4 : decode cX8_write 4 = .ok (.iload_n 1, 1) := by decide +kernel
theorem dX8_write_5 : decode cX8_write 5 = .ok (.invokevirtual 378, 3) := by decide +kernel
theorem dX8_write_8 : decode cX8_write 8 = .ok (.ifCond .ne 6, 3) := by decide +kernel
theorem dX8_write_11 : decode cX8_write 11 = .ok (.bipush (-2), 2) := by decide +kernel
theorem dX8_write_13 : decode cX8_write 13 = .ok (.ireturn, 1) := by decide +kernel
theorem dX8_write_14 : decode cX8_write 14 = .ok (.aload_n 0, 1) := by decide +kernel
theorem dX8_write_15 : decode cX8_write 15 = .ok (.getfield 46, 3) := by decide +kernel
theorem dX8_write_18 : decode cX8_write 18 = .ok (.iload_n 1, 1) := by decide +kernel
theorem dX8_write_19 : decode cX8_write 19 = .ok (.invokevirtual 384, 3) := by decide +kernel
theorem dX8_write_22 : decode cX8_write 22 = .ok (.ifCond .eq 6, 3) := by decide +kernel
theorem dX8_write_25 : decode cX8_write 25 = .ok (.bipush (-6), 2) := by decide +kernel
theorem dX8_write_27 : decode cX8_write 27 = .ok (.ireturn, 1) := by decide +kernel
theorem dX8_write_28 : decode cX8_write 28 = .ok (.aload_n 0, 1) := by decide +kernel
theorem dX8_write_29 : decode cX8_write 29 = .ok (.getfield 46, 3) := by decide +kernel
theorem dX8_write_32 : decode cX8_write 32 = .ok (.iload_n 1, 1) := by decide +kernel
theorem dX8_write_33 : decode cX8_write 33 = .ok (.iload_n 2, 1) := by decide +kernel
theorem dX8_write_34 : decode cX8_write 34 = .ok (.iconst 1, 1) := by decide +kernel
theorem dX8_write_35 : decode cX8_write 35 = .ok (.invokevirtual 387, 3) := by decide +kernel
theorem dX8_write_38 : decode cX8_write 38 = .ok (.ifCond .ne 6, 3) := by decide +kernel
theorem dX8_write_41 : decode cX8_write 41 = .ok (.bipush (-7), 2) := by decide +kernel
theorem dX8_write_43 : decode cX8_write 43 = .ok (.ireturn, 1) := by decide +kernel
theorem dX8_write_44 : decode cX8_write 44 = .ok (.aload_n 0, 1) := by decide +kernel
theorem dX8_write_45 : decode cX8_write 45 = .ok (.getfield 46, 3) := by decide +kernel
theorem dX8_write_48 : decode cX8_write 48 = .ok (.iload_n 1, 1) := by decide +kernel
theorem dX8_write_49 : decode cX8_write 49 = .ok (.iload_n 2, 1) := by decide +kernel
theorem dX8_write_50 : decode cX8_write 50 = .ok (.lload_n 3, 1) := by decide +kernel
theorem dX8_write_51 : decode cX8_write 51 = .ok (.invokevirtual 391, 3) := by decide +kernel
theorem dX8_write_54 : decode cX8_write 54 = .ok (.iconst 0, 1) := by decide +kernel
theorem dX8_write_55 : decode cX8_write 55 = .ok (.ireturn, 1) := by decide +kernel
