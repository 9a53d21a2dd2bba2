theorem dJ0_charAt_5068e_0 : decode cJ0_charAt_5068e 0 = .ok (.aload_n 0, 1) := by decide +kernel
theorem dJ0_charAt_5068e_1 : decode cJ0_charAt_5068e 1 = .ok (.invokevirtual 492, 3) := by decide +kernel
theorem dJ0_charAt_5068e_4 : decode cJ0_charAt_5068e 4 = .ok (.ifCond .eq 12, 3) := by decide +kernel
theorem dJ0_charAt_5068e_7 : decode cJ0_charAt_5068e 7 = .ok (.aload_n 0, 1) := by decide +kernel
theorem dJ0_charAt_5068e_8 : decode cJ0_charAt_5068e 8 = .ok (.getfield 9, 3) := by decide +kernel
theorem dJ0_charAt_5068e_11 : decode cJ0_charAt_5068e 11 = .ok (.iload_n 1, 1) := by decide +kernel
theorem dJ0_charAt_5068e_12 : decode cJ0_charAt_5068e 12 = .ok (.invokestatic 495, 3) := by decide +kernel
theorem dJ0_charAt_5068e_15 : decode cJ0_charAt_5068e 15 = .ok (.ireturn, 1) := by decide +kernel
theorem dJ0_charAt_5068e_16 : decode cJ0_charAt_5068e 16 = .ok (.aload_n 0, 1) := by decide +kernel
theorem dJ0_charAt_5068e_17 : decode cJ0_charAt_5068e 17 = .ok (.getfield 9, 3) := by decide +kernel
theorem dJ0_charAt_5068e_20 : decode cJ0_charAt_5068e 20 = .ok (.iload_n 1, 1) := by decide +kernel
theorem dJ0_charAt_5068e_21 : decode cJ0_charAt_5068e 21 = .ok (.invokestatic 498, 3) := by decide +kernel
theorem dJ0_charAt_5068e_24 : decode cJ0_charAt_5068e 24 = .ok (.ireturn, 1) := by decide +kernel
theorem dJ0_checkIndex_df160_0 : decode cJ0_checkIndex_df160 0 = .ok (.iload_n 0, 1) := by decide +kernel
theorem dJ0_checkIndex_df160_1 : decode cJ0_checkIndex_df160 1 = .ok (.iload_n 1, 1) := by decide +kernel
theorem dJ0_checkIndex_df160_2 : decode cJ0_checkIndex_df160 2 = .ok (.getstatic 1053, 3) := by decide +kernel
theorem dJ0_checkIndex_df160_5 : decode cJ0_checkIndex_df160 5 = .ok (.invokestatic 1059, 3) := by decide +kernel
theorem dJ0_checkIndex_df160_8 : decode cJ0_checkIndex_df160 8 = .ok (.pop, 1) := by decide +kernel
theorem dJ0_checkIndex_df160_9 : decode cJ0_checkIndex_df160 9 = .ok (.return_, 1) := by decide +kernel
theorem dJ0_coder_7d493_0 : decode cJ0_coder_7d493 0 = .ok (.getstatic 38, 3) := by decide +kernel
theorem dJ0_coder_7d493_3 : decode cJ0_coder_7d493 3 = .ok (.ifCond .eq 10, 3) := by decide +kernel
theorem dJ0_coder_7d493_6 : decode cJ0_coder_7d493 6 = .ok (.aload_n 0, 1) := by decide +kernel
theorem dJ0_coder_7d493_7 : decode cJ0_coder_7d493 7 = .ok (.getfield 15, 3) := by decide +kernel
theorem dJ0_coder_7d493_10 : decode cJ0_coder_7d493 10 = .ok (.goto 4, 3) := by decide +kernel
theorem dJ0_coder_7d493_13 : decode cJ0_coder_7d493 13 = .ok (.iconst 1, 1) := by decide +kernel
theorem dJ0_coder_7d493_14 : decode cJ0_coder_7d493 14 = .ok (.ireturn, 1) := by decide +kernel
theorem dJ0_isLatin1_aae02_0 : decode cJ0_isLatin1_aae02 0 = .ok (.getstatic 38, 3) := by decide +kernel
theorem dJ0_isLatin1_aae02_3 : decode cJ0_isLatin1_aae02 3 = .ok (.ifCond .eq 14, 3) := by decide +kernel
theorem dJ0_isLatin1_aae02_6 : decode cJ0_isLatin1_aae02 6 = .ok (.aload_n 0, 1) := by decide +kernel
theorem dJ0_isLatin1_aae02_7 : decode cJ0_isLatin1_aae02 7 = .ok (.getfield 15, 3) := by decide +kernel
theorem dJ0_isLatin1_aae02_10 : decode cJ0_isLatin1_aae02 10 = .ok (.ifCond .ne 7, 3) := by decide +kernel
theorem dJ0_isLatin1_aae02_13 : decode cJ0_isLatin1_aae02 13 = .ok (.iconst 1, 1) := by decide +kernel
theorem dJ0_isLatin1_aae02_14 : decode cJ0_isLatin1_aae02 14 = .ok (.goto 4, 3) := by decide +kernel
theorem dJ0_isLatin1_aae02_17 : decode cJ0_isLatin1_aae02 17 = .ok (.iconst 0, 1) := by decide +kernel
theorem dJ0_isLatin1_aae02_18 : decode cJ0_isLatin1_aae02 18 = .ok (.ireturn, 1) := by decide +kernel
theorem dJ0_length_8abf5_0 : decode cJ0_length_8abf5 0 = .ok (.aload_n 0, 1) := by decide +kernel
theorem dJ0_length_8abf5_1 : decode cJ0_length_8abf5 1 = .ok (.getfield 9, 3) := by decide +kernel
theorem dJ0_length_8abf5_4 : decode cJ0_length_8abf5 4 = .ok (.arraylength, 1) := by decide +kernel
theorem dJ0_length_8abf5_5 : decode cJ0_length_8abf5 5 = .ok (.aload_n 0, 1) := by decide +kernel
theorem dJ0_length_8abf5_6 : decode cJ0_length_8abf5 6 = .ok (.invokevirtual 335, 3) := by decide +kernel
theorem dJ0_length_8abf5_9 : decode cJ0_length_8abf5 9 = .ok (.ishr, 1) := by decide +kernel
theorem dJ0_length_8abf5_10 : decode cJ0_length_8abf5 10 = .ok (.ireturn, 1) := by decide +kernel
theorem dJ1_charAt_3b067_0 : decode cJ1_charAt_3b067 0 = .ok (.iload_n 1, 1) := by decide +kernel
theorem dJ1_charAt_3b067_1 : decode cJ1_charAt_3b067 1 = .ok (.aload_n 0, 1) := by decide +kernel
theorem dJ1_charAt_3b067_2 : decode cJ1_charAt_3b067 2 = .ok (.arraylength, 1) := by decide +kernel
theorem dJ1_charAt_3b067_3 : decode cJ1_charAt_3b067 3 = .ok (.invokestatic 9, 3) := by decide +kernel
theorem dJ1_charAt_3b067_6 : decode cJ1_charAt_3b067 6 = .ok (.aload_n 0, 1) := by decide +kernel
theorem dJ1_charAt_3b067_7 : decode cJ1_charAt_3b067 7 = .ok (.iload_n 1, 1) := by decide +kernel
theorem dJ1_charAt_3b067_8 : decode cJ1_charAt_3b067 8 = .ok (.baload, 1) := by decide +kernel
theorem dJ1_charAt_3b067_9 : decode cJ1_charAt_3b067 9 = .ok (.sipush 255, 3) := by decide +kernel
theorem dJ1_charAt_3b067_12 : decode cJ1_charAt_3b067 12 = .ok (.iand, 1) := by decide +kernel
theorem dJ1_charAt_3b067_13 : decode cJ1_charAt_3b067 13 = .ok (.i2c, 1) := by decide +kernel
theorem dJ1_charAt_3b067_14 : decode cJ1_charAt_3b067 14 = .ok (.ireturn, 1) := by decide +kernel
theorem dJ3_checkIndex_8e157_0 : decode cJ3_checkIndex_8e157 0 = .ok (.iload_n 0, 1) := by decide +kernel
theorem dJ3_checkIndex_8e157_1 : decode cJ3_checkIndex_8e157 1 = .ok (.ifCond .lt 8, 3) := by decide +kernel
theorem dJ3_checkIndex_8e157_4 : decode cJ3_checkIndex_8e157 4 = .ok (.iload_n 0, 1) := by decide +kernel
theorem dJ3_checkIndex_8e157_5 : decode cJ3_checkIndex_8e157 5 = .ok (.iload_n 1, 1) := by decide +kernel
theorem dJ3_checkIndex_8e157_6 : decode cJ3_checkIndex_8e157 6 = .ok (.if_icmp .lt 10, 3) := by decide +kernel
theorem dJ3_checkIndex_8e157_9 : decode cJ3_checkIndex_8e157 9 = .ok (.aload_n 2, 1) := by decide +kernel
theorem dJ3_checkIndex_8e157_10 : decode cJ3_checkIndex_8e157 10 = .ok (.iload_n 0, 1) := by decide +kernel
theorem dJ3_checkIndex_8e157_11 : decode cJ3_checkIndex_8e157 11 = .ok (.iload_n 1, 1) := by decide +kernel
theorem dJ3_checkIndex_8e157_12 : decode cJ3_checkIndex_8e157 12 = .ok (.invokestatic 95, 3) := by decide +kernel
theorem dJ3_checkIndex_8e157_15 : decode cJ3_checkIndex_8e157 15 = .ok (.athrow, 1) := by decide +kernel
theorem dJ3_checkIndex_8e157_16 : decode cJ3_checkIndex_8e157 16 = .ok (.iload_n 0, 1) := by decide +kernel
theorem dJ3_checkIndex_8e157_17 : decode cJ3_checkIndex_8e157 17 = .ok (.ireturn, 1) := by decide +kernel
theorem dJ6_bitCount_0f7a4_0 : decode cJ6_bitCount_0f7a4 0 = .ok (.iload_n 0, 1) := by decide +kernel
theorem dJ6_bitCount_0f7a4_1 : decode cJ6_bitCount_0f7a4 1 = .ok (.iload_n 0, 1) := by decide +kernel
theorem dJ6_bitCount_0f7a4_2 : decode cJ6_bitCount_0f7a4 2 = .ok (.iconst 1, 1) := by decide +kernel
theorem dJ6_bitCount_0f7a4_3 : decode cJ6_bitCount_0f7a4 3 = .ok (.iushr, 1) := by decide +kernel
theorem dJ6_bitCount_0f7a4_4 : decode cJ6_bitCount_0f7a4 4 = .ok (.ldc_w 265, 3) := by decide +kernel
theorem dJ6_bitCount_0f7a4_7 : decode cJ6_bitCount_0f7a4 7 = .ok (.iand, 1) := by decide +kernel
theorem dJ6_bitCount_0f7a4_8 : decode cJ6_bitCount_0f7a4 8 = .ok (.isub, 1) := by decide +kernel
theorem dJ6_bitCount_0f7a4_9 : decode cJ6_bitCount_0f7a4 9 = .ok (.istore_n 0, 1) := by decide +kernel
theorem dJ6_bitCount_0f7a4_10 : decode cJ6_bitCount_0f7a4 10 = .ok (.iload_n 0, 1) := by decide +kernel
theorem dJ6_bitCount_0f7a4_11 : decode cJ6_bitCount_0f7a4 11 = .ok (.ldc_w 266, 3) := by decide +kernel
theorem dJ6_bitCount_0f7a4_14 : decode cJ6_bitCount_0f7a4 14 = .ok (.iand, 1) := by decide +kernel
theorem dJ6_bitCount_0f7a4_15 : decode cJ6_bitCount_0f7a4 15 = .ok (.iload_n 0, 1) := by decide +kernel
theorem dJ6_bitCount_0f7a4_16 : decode cJ6_bitCount_0f7a4 16 = .ok (.iconst 2, 1) := by decide +kernel
theorem dJ6_bitCount_0f7a4_17 : decode cJ6_bitCount_0f7a4 17 = .ok (.iushr, 1) := by decide +kernel
theorem dJ6_bitCount_0f7a4_18 : decode cJ6_bitCount_0f7a4 18 = .ok (.ldc_w 266, 3) := by decide +kernel
theorem dJ6_bitCount_0f7a4_21 : decode cJ6_bitCount_0f7a4 21 = .ok (.iand, 1) := by decide +kernel
theorem dJ6_bitCount_0f7a4_22 : decode cJ6_bitCount_0f7a4 22 = .ok (.iadd, 1) := by decide +kernel
theorem dJ6_bitCount_0f7a4_23 : decode cJ6_bitCount_0f7a4 23 = .ok (.istore_n 0, 1) := by decide +kernel
theorem dJ6_bitCount_0f7a4_24 : decode cJ6_bitCount_0f7a4 24 = .ok (.iload_n 0, 1) := by decide +kernel
theorem dJ6_bitCount_0f7a4_25 : decode cJ6_bitCount_0f7a4 25 = .ok (.iload_n 0, 1) := by decide +kernel
theorem dJ6_bitCount_0f7a4_26 : decode cJ6_bitCount_0f7a4 26 = .ok (.iconst 4, 1) := by decide +kernel
theorem dJ6_bitCount_0f7a4_27 : decode cJ6_bitCount_0f7a4 27 = .ok (.iushr, 1) := by decide +kernel
theorem dJ6_bitCount_0f7a4_28 : decode cJ6_bitCount_0f7a4 28 = .ok (.iadd, 1) := by decide +kernel
theorem dJ6_bitCount_0f7a4_29 : decode cJ6_bitCount_0f7a4 29 = .ok (.ldc_w 267, 3) := by decide +kernel
theorem dJ6_bitCount_0f7a4_32 : decode cJ6_bitCount_0f7a4 32 = .ok (.iand, 1) := by decide +kernel
theorem dJ6_bitCount_0f7a4_33 : decode cJ6_bitCount_0f7a4 33 = .ok (.istore_n 0, 1) := by decide +kernel
theorem dJ6_bitCount_0f7a4_34 : decode cJ6_bitCount_0f7a4 34 = .ok (.iload_n 0, 1) := by decide +kernel
theorem dJ6_bitCount_0f7a4_35 : decode cJ6_bitCount_0f7a4 35 = .ok (.iload_n 0, 1) := by decide +kernel
theorem dJ6_bitCount_0f7a4_36 : decode cJ6_bitCount_0f7a4 36 = .ok (.bipush 8, 2) := by decide +kernel
theorem dJ6_bitCount_0f7a4_38 : decode cJ6_bitCount_0f7a4 38 = .ok (.iushr, 1) := by decide +kernel
theorem dJ6_bitCount_0f7a4_39 : decode cJ6_bitCount_0f7a4 39 = .ok (.iadd, 1) := by decide +kernel
theorem dJ6_bitCount_0f7a4_40 : decode cJ6_bitCount_0f7a4 40 = .ok (.istore_n 0, 1) := by decide +kernel
theorem dJ6_bitCount_0f7a4_41 : decode cJ6_bitCount_0f7a4 41 = .ok (.iload_n 0, 1) := by decide +kernel
theorem dJ6_bitCount_0f7a4_42 : decode cJ6_bitCount_0f7a4 42 = .ok (.iload_n 0, 1) := by decide +kernel
theorem dJ6_bitCount_0f7a4_43 : decode cJ6_bitCount_0f7a4 43 = .ok (.bipush 16, 2) := by decide +kernel
theorem dJ6_bitCount_0f7a4_45 : decode cJ6_bitCount_0f7a4 45 = .ok (.iushr, 1) := by decide +kernel
theorem dJ6_bitCount_0f7a4_46 : decode cJ6_bitCount_0f7a4 46 = .ok (.iadd, 1) := by decide +kernel
theorem dJ6_bitCount_0f7a4_47 : decode cJ6_bitCount_0f7a4 47 = .ok (.istore_n 0, 1) := by decide +kernel
theorem dJ6_bitCount_0f7a4_48 : decode cJ6_bitCount_0f7a4 48 = .ok (.iload_n 0, 1) := by decide +kernel
theorem dJ6_bitCount_0f7a4_49 : decode cJ6_bitCount_0f7a4 49 = .ok (.bipush 63, 2) := by decide +kernel
theorem dJ6_bitCount_0f7a4_51 : decode cJ6_bitCount_0f7a4 51 = .ok (.iand, 1) := by decide +kernel
theorem dJ6_bitCount_0f7a4_52 : decode cJ6_bitCount_0f7a4 52 = .ok (.ireturn, 1) := by decide +kernel
theorem dJ7_fill_53178_0 : decode cJ7_fill_53178 0 = .ok (.iconst 0, 1) := by decide +kernel
theorem dJ7_fill_53178_1 : decode cJ7_fill_53178 1 = .ok (.istore_n 2, 1) := by decide +kernel
theorem dJ7_fill_53178_2 : decode cJ7_fill_53178 2 = .ok (.aload_n 0, 1) := by decide +kernel
theorem dJ7_fill_53178_3 : decode cJ7_fill_53178 3 = .ok (.arraylength, 1) := by decide +kernel
theorem dJ7_fill_53178_4 : decode cJ7_fill_53178 4 = .ok (.istore_n 3, 1) := by decide +kernel
theorem dJ7_fill_53178_5 : decode cJ7_fill_53178 5 = .ok (.iload_n 2, 1) := by decide +kernel
theorem dJ7_fill_53178_6 : decode cJ7_fill_53178 6 = .ok (.iload_n 3, 1) := by decide +kernel
theorem dJ7_fill_53178_7 : decode cJ7_fill_53178 7 = .ok (.if_icmp .ge 13, 3) := by decide +kernel
theorem dJ7_fill_53178_10 : decode cJ7_fill_53178 10 = .ok (.aload_n 0, 1) := by decide +kernel
theorem dJ7_fill_53178_11 : decode cJ7_fill_53178 11 = .ok (.iload_n 2, 1) := by decide +kernel
theorem dJ7_fill_53178_12 : decode cJ7_fill_53178 12 = .ok (.iload_n 1, 1) := by decide +kernel
theorem dJ7_fill_53178_13 : decode cJ7_fill_53178 13 = .ok (.iastore, 1) := by decide +kernel
theorem dJ7_fill_53178_14 : decode cJ7_fill_53178 14 = .ok (.iinc 2 1, 3) := by decide +kernel
theorem dJ7_fill_53178_17 : decode cJ7_fill_53178 17 = .ok (.goto (-12), 3) := by decide +kernel
theorem dJ7_fill_53178_20 : decode cJ7_fill_53178 20 = .ok (.return_, 1) := by decide +kernel
theorem dJ7_fill_bad5a_0 : decode cJ7_fill_bad5a 0 = .ok (.aload_n 0, 1) := by decide +kernel
theorem dJ7_fill_bad5a_1 : decode cJ7_fill_bad5a 1 = .ok (.arraylength, 1) := by decide +kernel
theorem dJ7_fill_bad5a_2 : decode cJ7_fill_bad5a 2 = .ok (.iload_n 1, 1) := by decide +kernel
theorem dJ7_fill_bad5a_3 : decode cJ7_fill_bad5a 3 = .ok (.iload_n 2, 1) := by decide +kernel
theorem dJ7_fill_bad5a_4 : decode cJ7_fill_bad5a 4 = .ok (.invokestatic 13, 3) := by decide +kernel
theorem dJ7_fill_bad5a_7 : decode cJ7_fill_bad5a 7 = .ok (.iload_n 1, 1) := by decide +kernel
theorem dJ7_fill_bad5a_8 : decode cJ7_fill_bad5a 8 = .ok (.istore 5, 2) := by decide +kernel
theorem dJ7_fill_bad5a_10 : decode cJ7_fill_bad5a 10 = .ok (.iload 5, 2) := by decide +kernel
theorem dJ7_fill_bad5a_12 : decode cJ7_fill_bad5a 12 = .ok (.iload_n 2, 1) := by decide +kernel
theorem dJ7_fill_bad5a_13 : decode cJ7_fill_bad5a 13 = .ok (.if_icmp .ge 14, 3) := by decide +kernel
theorem dJ7_fill_bad5a_16 : decode cJ7_fill_bad5a 16 = .ok (.aload_n 0, 1) := by decide +kernel
theorem dJ7_fill_bad5a_17 : decode cJ7_fill_bad5a 17 = .ok (.iload 5, 2) := by decide +kernel
theorem dJ7_fill_bad5a_19 : decode cJ7_fill_bad5a 19 = .ok (.lload_n 3, 1) := by decide +kernel
theorem dJ7_fill_bad5a_20 : decode cJ7_fill_bad5a 20 = .ok (.lastore, 1) := by decide +kernel
theorem dJ7_fill_bad5a_21 : decode cJ7_fill_bad5a 21 = .ok (.iinc 5 1, 3) := by decide +kernel
theorem dJ7_fill_bad5a_24 : decode cJ7_fill_bad5a 24 = .ok (.goto (-14), 3) := by decide +kernel
theorem dJ7_fill_bad5a_27 : decode cJ7_fill_bad5a 27 = .ok (.return_, 1) := by decide +kernel
theorem dJ7_fill_d0a16_0 : decode cJ7_fill_d0a16 0 = .ok (.iconst 0, 1) := by decide +kernel
theorem dJ7_fill_d0a16_1 : decode cJ7_fill_d0a16 1 = .ok (.istore_n 3, 1) := by decide +kernel
theorem dJ7_fill_d0a16_2 : decode cJ7_fill_d0a16 2 = .ok (.aload_n 0, 1) := by decide +kernel
theorem dJ7_fill_d0a16_3 : decode cJ7_fill_d0a16 3 = .ok (.arraylength, 1) := by decide +kernel
theorem dJ7_fill_d0a16_4 : decode cJ7_fill_d0a16 4 = .ok (.istore 4, 2) := by decide +kernel
theorem dJ7_fill_d0a16_6 : decode cJ7_fill_d0a16 6 = .ok (.iload_n 3, 1) := by decide +kernel
theorem dJ7_fill_d0a16_7 : decode cJ7_fill_d0a16 7 = .ok (.iload 4, 2) := by decide +kernel
theorem dJ7_fill_d0a16_9 : decode cJ7_fill_d0a16 9 = .ok (.if_icmp .ge 13, 3) := by decide +kernel
theorem dJ7_fill_d0a16_12 : decode cJ7_fill_d0a16 12 = .ok (.aload_n 0, 1) := by decide +kernel
theorem dJ7_fill_d0a16_13 : decode cJ7_fill_d0a16 13 = .ok (.iload_n 3, 1) := by decide +kernel
theorem dJ7_fill_d0a16_14 : decode cJ7_fill_d0a16 14 = .ok (.lload_n 1, 1) := by decide +kernel
theorem dJ7_fill_d0a16_15 : decode cJ7_fill_d0a16 15 = .ok (.lastore, 1) := by decide +kernel
theorem dJ7_fill_d0a16_16 : decode cJ7_fill_d0a16 16 = .ok (.iinc 3 1, 3) := by decide +kernel
theorem dJ7_fill_d0a16_19 : decode cJ7_fill_d0a16 19 = .ok (.goto (-13), 3) := by decide +kernel
theorem dJ7_fill_d0a16_22 : decode cJ7_fill_d0a16 22 = .ok (.return_, 1) := by decide +kernel
theorem dJ7_rangeCheck_23922_0 : decode cJ7_rangeCheck_23922 0 = .ok (.iload_n 1, 1) := by decide +kernel
theorem dJ7_rangeCheck_23922_1 : decode cJ7_rangeCheck_23922 1 = .ok (.iload_n 2, 1) := by decide +kernel
theorem dJ7_rangeCheck_23922_2 : decode cJ7_rangeCheck_23922 2 = .ok (.if_icmp .le 44, 3) := by decide +kernel
theorem dJ7_rangeCheck_23922_5 : decode cJ7_rangeCheck_23922 5 = .ok (.new 43, 3) := by decide +kernel
theorem dJ7_rangeCheck_23922_8 : decode cJ7_rangeCheck_23922 8 = .ok (.dup, 1) := by decide +kernel
theorem dJ7_rangeCheck_23922_9 : decode cJ7_rangeCheck_23922 9 = .ok (.new 45, 3) := by decide +kernel
theorem dJ7_rangeCheck_23922_12 : decode cJ7_rangeCheck_23922 12 = .ok (.dup, 1) := by decide +kernel
theorem dJ7_rangeCheck_23922_13 : decode cJ7_rangeCheck_23922 13 = .ok (.invokespecial 47, 3) := by decide +kernel
theorem dJ7_rangeCheck_23922_16 : decode cJ7_rangeCheck_23922 16 = .ok (.ldc 48, 2) := by decide +kernel
theorem dJ7_rangeCheck_23922_18 : decode cJ7_rangeCheck_23922 18 = .ok (.invokevirtual 50, 3) := by decide +kernel
theorem dJ7_rangeCheck_23922_21 : decode cJ7_rangeCheck_23922 21 = .ok (.iload_n 1, 1) := by decide +kernel
theorem dJ7_rangeCheck_23922_22 : decode cJ7_rangeCheck_23922 22 = .ok (.invokevirtual 54, 3) := by decide +kernel
theorem dJ7_rangeCheck_23922_25 : decode cJ7_rangeCheck_23922 25 = .ok (.ldc 57, 2) := by decide +kernel
theorem dJ7_rangeCheck_23922_27 : decode cJ7_rangeCheck_23922 27 = .ok (.invokevirtual 50, 3) := by decide +kernel
theorem dJ7_rangeCheck_23922_30 : decode cJ7_rangeCheck_23922 30 = .ok (.iload_n 2, 1) := by decide +kernel
theorem dJ7_rangeCheck_23922_31 : decode cJ7_rangeCheck_23922 31 = .ok (.invokevirtual 54, 3) := by decide +kernel
theorem dJ7_rangeCheck_23922_34 : decode cJ7_rangeCheck_23922 34 = .ok (.ldc 59, 2) := by decide +kernel
theorem dJ7_rangeCheck_23922_36 : decode cJ7_rangeCheck_23922 36 = .ok (.invokevirtual 50, 3) := by decide +kernel
theorem dJ7_rangeCheck_23922_39 : decode cJ7_rangeCheck_23922 39 = .ok (.invokevirtual 61, 3) := by decide +kernel
theorem dJ7_rangeCheck_23922_42 : decode cJ7_rangeCheck_23922 42 = .ok (.invokespecial 65, 3) := by decide +kernel
theorem dJ7_rangeCheck_23922_45 : decode cJ7_rangeCheck_23922 45 = .ok (.athrow, 1) := by decide +kernel
theorem dJ7_rangeCheck_23922_46 : decode cJ7_rangeCheck_23922 46 = .ok (.iload_n 1, 1) := by decide +kernel
theorem dJ7_rangeCheck_23922_47 : decode cJ7_rangeCheck_23922 47 = .ok (.ifCond .ge 12, 3) := by decide +kernel
theorem dJ7_rangeCheck_23922_50 : decode cJ7_rangeCheck_23922 50 = .ok (.new 68, 3) := by decide +kernel
theorem dJ7_rangeCheck_23922_53 : decode cJ7_rangeCheck_23922 53 = .ok (.dup, 1) := by decide +kernel
theorem dJ7_rangeCheck_23922_54 : decode cJ7_rangeCheck_23922 54 = .ok (.iload_n 1, 1) := by decide +kernel
theorem dJ7_rangeCheck_23922_55 : decode cJ7_rangeCheck_23922 55 = .ok (.invokespecial 70, 3) := by decide +kernel
theorem dJ7_rangeCheck_23922_58 : decode cJ7_rangeCheck_23922 58 = .ok (.athrow, 1) := by decide +kernel
theorem dJ7_rangeCheck_23922_59 : decode cJ7_rangeCheck_23922 59 = .ok (.iload_n 2, 1) := by decide +kernel
theorem dJ7_rangeCheck_23922_60 : decode cJ7_rangeCheck_23922 60 = .ok (.iload_n 0, 1) := by decide +kernel
theorem dJ7_rangeCheck_23922_61 : decode cJ7_rangeCheck_23922 61 = .ok (.if_icmp .le 12, 3) := by decide +kernel
theorem dJ7_rangeCheck_23922_64 : decode cJ7_rangeCheck_23922 64 = .ok (.new 68, 3) := by decide +kernel
theorem dJ7_rangeCheck_23922_67 : decode cJ7_rangeCheck_23922 67 = .ok (.dup, 1) := by decide +kernel
theorem dJ7_rangeCheck_23922_68 : decode cJ7_rangeCheck_23922 68 = .ok (.iload_n 2, 1) := by decide +kernel
theorem dJ7_rangeCheck_23922_69 : decode cJ7_rangeCheck_23922 69 = .ok (.invokespecial 70, 3) := by decide +kernel
theorem dJ7_rangeCheck_23922_72 : decode cJ7_rangeCheck_23922 72 = .ok (.athrow, 1) := by decide +kernel
theorem dJ7_rangeCheck_23922_73 : decode cJ7_rangeCheck_23922 73 = .ok (.return_, 1) := by decide +kernel
theorem dX0_aired_0 : decode cX0_aired 0 = .ok (.iconst 0, 1) := by decide +kernel
theorem dX0_aired_1 : decode cX0_aired 1 = .ok (.iload_n 2, 1) := by decide +kernel
theorem dX0_aired_2 : decode cX0_aired 2 = .ok (.bipush 10, 2) := by decide +kernel
theorem dX0_aired_4 : decode cX0_aired 4 = .ok (.aload_n 0, 1) := by decide +kernel
theorem dX0_aired_5 : decode cX0_aired 5 = .ok (.getfield 15, 3) := by decide +kernel
theorem dX0_aired_8 : decode cX0_aired 8 = .ok (.iload_n 3, 1) := by decide +kernel
theorem dX0_aired_9 : decode cX0_aired 9 = .ok (.bipush 6, 2) := by decide +kernel
theorem dX0_aired_11 : decode cX0_aired 11 = .ok (.imul, 1) := by decide +kernel
theorem dX0_aired_12 : decode cX0_aired 12 = .ok (.iload_n 1, 1) := by decide +kernel
theorem dX0_aired_13 : decode cX0_aired 13 = .ok (.iadd, 1) := by decide +kernel
theorem dX0_aired_14 : decode cX0_aired 14 = .ok (.iaload, 1) := by decide +kernel
theorem dX0_aired_15 : decode cX0_aired 15 = .ok (.imul, 1) := by decide +kernel
theorem dX0_aired_16 : decode cX0_aired 16 = .ok (.isub, 1) := by decide +kernel
theorem dX0_aired_17 : decode cX0_aired 17 = .ok (.invokestatic 112, 3) := by decide +kernel
theorem dX0_aired_20 : decode cX0_aired 20 = .ok (.ireturn, 1) := by decide +kernel
theorem dX0_begin_0 : decode cX0_begin 0 = .ok (.aload_n 0, 1) := by decide +kernel
theorem dX0_begin_1 : decode cX0_begin 1 = .ok (.aload_n 0, 1) := by decide +kernel
theorem dX0_begin_2 : decode cX0_begin 2 = .ok (.getfield 30, 3) := by decide +kernel
theorem dX0_begin_5 : decode cX0_begin 5 = .ok (.getfield 34, 3) := by decide +kernel
theorem dX0_begin_8 : decode cX0_begin 8 = .ok (.putfield 40, 3) := by decide +kernel
theorem dX0_begin_11 : decode cX0_begin 11 = .ok (.aload_n 0, 1) := by decide +kernel
theorem dX0_begin_12 : decode cX0_begin 12 = .ok (.iconst 0, 1) := by decide +kernel
theorem dX0_begin_13 : decode cX0_begin 13 = .ok (.putfield 41, 3) := by decide +kernel
theorem dX0_begin_16 : decode cX0_begin 16 = .ok (.iconst 0, 1) := by decide +kernel
theorem dX0_begin_17 : decode cX0_begin 17 = .ok (.istore_n 2, 1) := by decide +kernel
theorem dX0_begin_18 : decode cX0_begin 18 = .ok (.iload_n 2, 1) := by decide +kernel
theorem dX0_begin_19 : decode cX0_begin 19 = .ok (.aload_n 0, 1) := by decide +kernel
theorem dX0_begin_20 : decode cX0_begin 20 = .ok (.getfield 30, 3) := by decide +kernel
theorem dX0_begin_23 : decode cX0_begin 23 = .ok (.getfield 44, 3) := by decide +kernel
theorem dX0_begin_26 : decode cX0_begin 26 = .ok (.if_icmp .ge 24, 3) := by decide +kernel
theorem dX0_begin_29 : decode cX0_begin 29 = .ok (.aload_n 0, 1) := by decide +kernel
theorem dX0_begin_30 : decode cX0_begin 30 = .ok (.getfield 9, 3) := by decide +kernel
theorem dX0_begin_33 : decode cX0_begin 33 = .ok (.iload_n 2, 1) := by decide +kernel
theorem dX0_begin_34 : decode cX0_begin 34 = .ok (.aload_n 0, 1) := by decide +kernel
theorem dX0_begin_35 : decode cX0_begin 35 = .ok (.getfield 30, 3) := by decide +kernel
theorem dX0_begin_38 : decode cX0_begin 38 = .ok (.iload_n 2, 1) := by decide +kernel
theorem dX0_begin_39 : decode cX0_begin 39 = .ok (.iload_n 1, 1) := by decide +kernel
theorem dX0_begin_40 : decode cX0_begin 40 = .ok (.invokevirtual 47, 3) := by decide +kernel
theorem dX0_begin_43 : decode cX0_begin 43 = .ok (.iastore, 1) := by decide +kernel
theorem dX0_begin_44 : decode cX0_begin 44 = .ok (.iinc 2 1, 3) := by decide +kernel
theorem dX0_begin_47 : decode cX0_begin 47 = .ok (.goto (-29), 3) := by decide +kernel
theorem dX0_begin_50 : decode cX0_begin 50 = .ok (.aload_n 0, 1) := by decide +kernel
theorem dX0_begin_51 : decode cX0_begin 51 = .ok (.getfield 15, 3) := by decide +kernel
theorem dX0_begin_54 : decode cX0_begin 54 = .ok (.iconst 0, 1) := by decide +kernel
theorem dX0_begin_55 : decode cX0_begin 55 = .ok (.invokestatic 51, 3) := by decide +kernel
theorem dX0_begin_58 : decode cX0_begin 58 = .ok (.iconst 0, 1) := by decide +kernel
theorem dX0_begin_59 : decode cX0_begin 59 = .ok (.istore_n 2, 1) := by decide +kernel
theorem dX0_begin_60 : decode cX0_begin 60 = .ok (.iload_n 2, 1) := by decide +kernel
theorem dX0_begin_61 : decode cX0_begin 61 = .ok (.aload_n 0, 1) := by decide +kernel
theorem dX0_begin_62 : decode cX0_begin 62 = .ok (.getfield 30, 3) := by decide +kernel
theorem dX0_begin_65 : decode cX0_begin 65 = .ok (.getfield 57, 3) := by decide +kernel
theorem dX0_begin_68 : decode cX0_begin 68 = .ok (.if_icmp .ge 53, 3) := by decide +kernel
theorem dX0_begin_71 : decode cX0_begin 71 = .ok (.aload_n 0, 1) := by decide +kernel
theorem dX0_begin_72 : decode cX0_begin 72 = .ok (.getfield 30, 3) := by decide +kernel
theorem dX0_begin_75 : decode cX0_begin 75 = .ok (.getfield 60, 3) := by decide +kernel
theorem dX0_begin_78 : decode cX0_begin 78 = .ok (.iload_n 2, 1) := by decide +kernel
theorem dX0_begin_79 : decode cX0_begin 79 = .ok (.iaload, 1) := by decide +kernel
theorem dX0_begin_80 : decode cX0_begin 80 = .ok (.iconst 1, 1) := by decide +kernel
theorem dX0_begin_81 : decode cX0_begin 81 = .ok (.if_icmp .ne 34, 3) := by decide +kernel
theorem dX0_begin_84 : decode cX0_begin 84 = .ok (.aload_n 0, 1) := by decide +kernel
theorem dX0_begin_85 : decode cX0_begin 85 = .ok (.getfield 15, 3) := by decide +kernel
theorem dX0_begin_88 : decode cX0_begin 88 = .ok (.aload_n 0, 1) := by decide +kernel
theorem dX0_begin_89 : decode cX0_begin 89 = .ok (.getfield 30, 3) := by decide +kernel
theorem dX0_begin_92 : decode cX0_begin 92 = .ok (.getfield 63, 3) := by decide +kernel
theorem dX0_begin_95 : decode cX0_begin 95 = .ok (.iload_n 2, 1) := by decide +kernel
theorem dX0_begin_96 : decode cX0_begin 96 = .ok (.iaload, 1) := by decide +kernel
theorem dX0_begin_97 : decode cX0_begin 97 = .ok (.bipush 6, 2) := by decide +kernel
theorem dX0_begin_99 : decode cX0_begin 99 = .ok (.imul, 1) := by decide +kernel
theorem dX0_begin_100 : decode cX0_begin 100 = .ok (.aload_n 0, 1) := by decide +kernel
theorem dX0_begin_101 : decode cX0_begin 101 = .ok (.getfield 30, 3) := by decide +kernel
theorem dX0_begin_104 : decode cX0_begin 104 = .ok (.getfield 66, 3) := by decide +kernel
theorem dX0_begin_107 : decode cX0_begin 107 = .ok (.iload_n 2, 1) := by decide +kernel
theorem dX0_begin_108 : decode cX0_begin 108 = .ok (.iaload, 1) := by decide +kernel
theorem dX0_begin_109 : decode cX0_begin 109 = .ok (.iadd, 1) := by decide +kernel
theorem dX0_begin_110 : decode cX0_begin 110 = .ok (.dup2, 1) := by decide +kernel
theorem dX0_begin_111 : decode cX0_begin 111 = .ok (.iaload, 1) := by decide +kernel
theorem dX0_begin_112 : decode cX0_begin 112 = .ok (.iconst 1, 1) := by decide +kernel
theorem dX0_begin_113 : decode cX0_begin 113 = .ok (.iadd, 1) := by decide +kernel
theorem dX0_begin_114 : decode cX0_begin 114 = .ok (.iastore, 1) := by decide +kernel
theorem dX0_begin_115 : decode cX0_begin 115 = .ok (.iinc 2 1, 3) := by decide +kernel
theorem dX0_begin_118 : decode cX0_begin 118 = .ok (.goto (-58), 3) := by decide +kernel
theorem dX0_begin_121 : decode cX0_begin 121 = .ok (.return_, 1) := by decide +kernel
theorem dX0_follow_0 : decode cX0_follow 0 = .ok (.iload_n 2, 1) := by decide +kernel
theorem dX0_follow_1 : decode cX0_follow 1 = .ok (.istore 4, 2) := by decide +kernel
theorem dX0_follow_3 : decode cX0_follow 3 = .ok (.aload_n 0, 1) := by decide +kernel
theorem dX0_follow_4 : decode cX0_follow 4 = .ok (.getfield 27, 3) := by decide +kernel
theorem dX0_follow_7 : decode cX0_follow 7 = .ok (.iconst 0, 1) := by decide +kernel
theorem dX0_follow_8 : decode cX0_follow 8 = .ok (.iload 4, 2) := by decide +kernel
theorem dX0_follow_10 : decode cX0_follow 10 = .ok (.iastore, 1) := by decide +kernel
theorem dX0_follow_11 : decode cX0_follow 11 = .ok (.iconst 0, 1) := by decide +kernel
theorem dX0_follow_12 : decode cX0_follow 12 = .ok (.istore 5, 2) := by decide +kernel
theorem dX0_follow_14 : decode cX0_follow 14 = .ok (.iload 5, 2) := by decide +kernel
theorem dX0_follow_16 : decode cX0_follow 16 = .ok (.iload_n 3, 1) := by decide +kernel
theorem dX0_follow_17 : decode cX0_follow 17 = .ok (.if_icmp .ge 86, 3) := by decide +kernel
theorem dX0_follow_20 : decode cX0_follow 20 = .ok (.iload 5, 2) := by decide +kernel
theorem dX0_follow_22 : decode cX0_follow 22 = .ok (.bipush 12, 2) := by decide +kernel
theorem dX0_follow_24 : decode cX0_follow 24 = .ok (.if_icmp .ge 79, 3) := by decide +kernel
theorem dX0_follow_27 : decode cX0_follow 27 = .ok (.aload_n 0, 1) := by decide +kernel
theorem dX0_follow_28 : decode cX0_follow 28 = .ok (.getfield 21, 3) := by decide +kernel
theorem dX0_follow_31 : decode cX0_follow 31 = .ok (.iload 5, 2) := by decide +kernel
theorem dX0_follow_33 : decode cX0_follow 33 = .ok (.iaload, 1) := by decide +kernel
theorem dX0_follow_34 : decode cX0_follow 34 = .ok (.iload_n 1, 1) := by decide +kernel
theorem dX0_follow_35 : decode cX0_follow 35 = .ok (.invokestatic 72, 3) := by decide +kernel
theorem dX0_follow_38 : decode cX0_follow 38 = .ok (.ifCond .ne 48, 3) := by decide +kernel
theorem dX0_follow_41 : decode cX0_follow 41 = .ok (.aload_n 0, 1) := by decide +kernel
theorem dX0_follow_42 : decode cX0_follow 42 = .ok (.iload_n 1, 1) := by decide +kernel
theorem dX0_follow_43 : decode cX0_follow 43 = .ok (.iload 4, 2) := by decide +kernel
theorem dX0_follow_45 : decode cX0_follow 45 = .ok (.iload 5, 2) := by decide +kernel
theorem dX0_follow_47 : decode cX0_follow 47 = .ok (.invokevirtual 106, 3) := by decide +kernel
theorem dX0_follow_50 : decode cX0_follow 50 = .ok (.istore 4, 2) := by decide +kernel
theorem dX0_follow_52 : decode cX0_follow 52 = .ok (.aload_n 0, 1) := by decide +kernel
theorem dX0_follow_53 : decode cX0_follow 53 = .ok (.getfield 21, 3) := by decide +kernel
theorem dX0_follow_56 : decode cX0_follow 56 = .ok (.iload 5, 2) := by decide +kernel
theorem dX0_follow_58 : decode cX0_follow 58 = .ok (.iconst 1, 1) := by decide +kernel
theorem dX0_follow_59 : decode cX0_follow 59 = .ok (.iadd, 1) := by decide +kernel
theorem dX0_follow_60 : decode cX0_follow 60 = .ok (.iaload, 1) := by decide +kernel
theorem dX0_follow_61 : decode cX0_follow 61 = .ok (.iload_n 1, 1) := by decide +kernel
theorem dX0_follow_62 : decode cX0_follow 62 = .ok (.invokestatic 72, 3) := by decide +kernel
theorem dX0_follow_65 : decode cX0_follow 65 = .ok (.ifCond .ne 21, 3) := by decide +kernel
theorem dX0_follow_68 : decode cX0_follow 68 = .ok (.aload_n 0, 1) := by decide +kernel
theorem dX0_follow_69 : decode cX0_follow 69 = .ok (.iload_n 1, 1) := by decide +kernel
theorem dX0_follow_70 : decode cX0_follow 70 = .ok (.iload 4, 2) := by decide +kernel
theorem dX0_follow_72 : decode cX0_follow 72 = .ok (.aload_n 0, 1) := by decide +kernel
theorem dX0_follow_73 : decode cX0_follow 73 = .ok (.getfield 21, 3) := by decide +kernel
theorem dX0_follow_76 : decode cX0_follow 76 = .ok (.iload 5, 2) := by decide +kernel
theorem dX0_follow_78 : decode cX0_follow 78 = .ok (.iconst 1, 1) := by decide +kernel
theorem dX0_follow_79 : decode cX0_follow 79 = .ok (.iadd, 1) := by decide +kernel
theorem dX0_follow_80 : decode cX0_follow 80 = .ok (.iaload, 1) := by decide +kernel
theorem dX0_follow_81 : decode cX0_follow 81 = .ok (.invokevirtual 109, 3) := by decide +kernel
theorem dX0_follow_84 : decode cX0_follow 84 = .ok (.istore 4, 2) := by decide +kernel
theorem dX0_follow_86 : decode cX0_follow 86 = .ok (.aload_n 0, 1) := by decide +kernel
theorem dX0_follow_87 : decode cX0_follow 87 = .ok (.getfield 27, 3) := by decide +kernel
theorem dX0_follow_90 : decode cX0_follow 90 = .ok (.iload 5, 2) := by decide +kernel
theorem dX0_follow_92 : decode cX0_follow 92 = .ok (.iconst 1, 1) := by decide +kernel
theorem dX0_follow_93 : decode cX0_follow 93 = .ok (.iadd, 1) := by decide +kernel
theorem dX0_follow_94 : decode cX0_follow 94 = .ok (.iload 4, 2) := by decide +kernel
theorem dX0_follow_96 : decode cX0_follow 96 = .ok (.iastore, 1) := by decide +kernel
theorem dX0_follow_97 : decode cX0_follow 97 = .ok (.iinc 5 1, 3) := by decide +kernel
theorem dX0_follow_100 : decode cX0_follow 100 = .ok (.goto (-86), 3) := by decide +kernel
theorem dX0_follow_103 : decode cX0_follow 103 = .ok (.iload 4, 2) := by decide +kernel
theorem dX0_follow_105 : decode cX0_follow 105 = .ok (.ireturn, 1) := by decide +kernel
theorem dX0_noteOpenings_0 : decode cX0_noteOpenings 0 = .ok (.iconst 0, 1) := by decide +kernel
theorem dX0_noteOpenings_1 : decode cX0_noteOpenings 1 = .ok (.istore_n 3, 1) := by decide +kernel
theorem dX0_noteOpenings_2 : decode cX0_noteOpenings 2 = .ok (.iload_n 3, 1) := by decide +kernel
theorem dX0_noteOpenings_3 : decode cX0_noteOpenings 3 = .ok (.aload_n 0, 1) := by decide +kernel
theorem dX0_noteOpenings_4 : decode cX0_noteOpenings 4 = .ok (.getfield 30, 3) := by decide +kernel
theorem dX0_noteOpenings_7 : decode cX0_noteOpenings 7 = .ok (.getfield 44, 3) := by decide +kernel
theorem dX0_noteOpenings_10 : decode cX0_noteOpenings 10 = .ok (.if_icmp .ge 28, 3) := by decide +kernel
theorem dX0_noteOpenings_13 : decode cX0_noteOpenings 13 = .ok (.iload_n 1, 1) := by decide +kernel
theorem dX0_noteOpenings_14 : decode cX0_noteOpenings 14 = .ok (.ifCond .eq 24, 3) := by decide +kernel
theorem dX0_noteOpenings_17 : decode cX0_noteOpenings 17 = .ok (.iload_n 1, 1) := by decide +kernel
theorem dX0_noteOpenings_18 : decode cX0_noteOpenings 18 = .ok (.iload_n 3, 1) := by decide +kernel
theorem dX0_noteOpenings_19 : decode cX0_noteOpenings 19 = .ok (.invokestatic 72, 3) := by decide +kernel
theorem dX0_noteOpenings_22 : decode cX0_noteOpenings 22 = .ok (.ifCond .eq 10, 3) := by decide +kernel
theorem dX0_noteOpenings_25 : decode cX0_noteOpenings 25 = .ok (.aload_n 0, 1) := by decide +kernel
theorem dX0_noteOpenings_26 : decode cX0_noteOpenings 26 = .ok (.getfield 24, 3) := by decide +kernel
theorem dX0_noteOpenings_29 : decode cX0_noteOpenings 29 = .ok (.iload_n 3, 1) := by decide +kernel
theorem dX0_noteOpenings_30 : decode cX0_noteOpenings 30 = .ok (.iload_n 2, 1) := by decide +kernel
theorem dX0_noteOpenings_31 : decode cX0_noteOpenings 31 = .ok (.iastore, 1) := by decide +kernel
theorem dX0_noteOpenings_32 : decode cX0_noteOpenings 32 = .ok (.iinc 3 1, 3) := by decide +kernel
theorem dX0_noteOpenings_35 : decode cX0_noteOpenings 35 = .ok (.goto (-33), 3) := by decide +kernel
theorem dX0_noteOpenings_38 : decode cX0_noteOpenings 38 = .ok (.return_, 1) := by decide +kernel
theorem dX0_openIn_0 : decode cX0_openIn 0 = .ok (.iload_n 1, 1) := by decide +kernel
theorem dX0_openIn_1 : decode cX0_openIn 1 = .ok (.ifCond .lt 18, 3) := by decide +kernel
theorem dX0_openIn_4 : decode cX0_openIn 4 = .ok (.iload_n 1, 1) := by decide +kernel
theorem dX0_openIn_5 : decode cX0_openIn 5 = .ok (.bipush 12, 2) := by decide +kernel
theorem dX0_openIn_7 : decode cX0_openIn 7 = .ok (.if_icmp .gt 12, 3) := by decide +kernel
theorem dX0_openIn_10 : decode cX0_openIn 10 = .ok (.aload_n 0, 1) := by decide +kernel
theorem dX0_openIn_11 : decode cX0_openIn 11 = .ok (.getfield 21, 3) := by decide +kernel
theorem dX0_openIn_14 : decode cX0_openIn 14 = .ok (.iload_n 1, 1) := by decide +kernel
theorem dX0_openIn_15 : decode cX0_openIn 15 = .ok (.iaload, 1) := by decide +kernel
theorem dX0_openIn_16 : decode cX0_openIn 16 = .ok (.goto 4, 3) := by decide +kernel
theorem dX0_openIn_19 : decode cX0_openIn 19 = .ok (.iconst 0, 1) := by decide +kernel
theorem dX0_openIn_20 : decode cX0_openIn 20 = .ok (.ireturn, 1) := by decide +kernel
theorem dX0_openingYear_0 : decode cX0_openingYear 0 = .ok (.aload_n 0, 1) := by decide +kernel
theorem dX0_openingYear_1 : decode cX0_openingYear 1 = .ok (.getfield 24, 3) := by decide +kernel
theorem dX0_openingYear_4 : decode cX0_openingYear 4 = .ok (.iload_n 1, 1) := by decide +kernel
theorem dX0_openingYear_5 : decode cX0_openingYear 5 = .ok (.iaload, 1) := by decide +kernel
theorem dX0_openingYear_6 : decode cX0_openingYear 6 = .ok (.ireturn, 1) := by decide +kernel
theorem dX0_readFor_0 : decode cX0_readFor 0 = .ok (.aload_n 0, 1) := by decide +kernel
theorem dX0_readFor_1 : decode cX0_readFor 1 = .ok (.getfield 24, 3) := by decide +kernel
theorem dX0_readFor_4 : decode cX0_readFor 4 = .ok (.iload_n 1, 1) := by decide +kernel
theorem dX0_readFor_5 : decode cX0_readFor 5 = .ok (.iaload, 1) := by decide +kernel
theorem dX0_readFor_6 : decode cX0_readFor 6 = .ok (.istore_n 2, 1) := by decide +kernel
theorem dX0_readFor_7 : decode cX0_readFor 7 = .ok (.iload_n 2, 1) := by decide +kernel
theorem dX0_readFor_8 : decode cX0_readFor 8 = .ok (.iconst (-1), 1) := by decide +kernel
theorem dX0_readFor_9 : decode cX0_readFor 9 = .ok (.if_icmp .ne 5, 3) := by decide +kernel
theorem dX0_readFor_12 : decode cX0_readFor 12 = .ok (.iconst (-1), 1) := by decide +kernel
theorem dX0_readFor_13 : decode cX0_readFor 13 = .ok (.ireturn, 1) := by decide +kernel
theorem dX0_readFor_14 : decode cX0_readFor 14 = .ok (.iconst 0, 1) := by decide +kernel
theorem dX0_readFor_15 : decode cX0_readFor 15 = .ok (.aload_n 0, 1) := by decide +kernel
theorem dX0_readFor_16 : decode cX0_readFor 16 = .ok (.getfield 30, 3) := by decide +kernel
theorem dX0_readFor_19 : decode cX0_readFor 19 = .ok (.getfield 128, 3) := by decide +kernel
theorem dX0_readFor_22 : decode cX0_readFor 22 = .ok (.iload_n 1, 1) := by decide +kernel
theorem dX0_readFor_23 : decode cX0_readFor 23 = .ok (.iaload, 1) := by decide +kernel
theorem dX0_readFor_24 : decode cX0_readFor 24 = .ok (.aload_n 0, 1) := by decide +kernel
theorem dX0_readFor_25 : decode cX0_readFor 25 = .ok (.iload_n 1, 1) := by decide +kernel
theorem dX0_readFor_26 : decode cX0_readFor 26 = .ok (.aload_n 0, 1) := by decide +kernel
theorem dX0_readFor_27 : decode cX0_readFor 27 = .ok (.getfield 30, 3) := by decide +kernel
theorem dX0_readFor_30 : decode cX0_readFor 30 = .ok (.getfield 99, 3) := by decide +kernel
theorem dX0_readFor_33 : decode cX0_readFor 33 = .ok (.iload_n 1, 1) := by decide +kernel
theorem dX0_readFor_34 : decode cX0_readFor 34 = .ok (.iaload, 1) := by decide +kernel
theorem dX0_readFor_35 : decode cX0_readFor 35 = .ok (.iload_n 2, 1) := by decide +kernel
theorem dX0_readFor_36 : decode cX0_readFor 36 = .ok (.iconst 1, 1) := by decide +kernel
theorem dX0_readFor_37 : decode cX0_readFor 37 = .ok (.iadd, 1) := by decide +kernel
theorem dX0_readFor_38 : decode cX0_readFor 38 = .ok (.invokevirtual 102, 3) := by decide +kernel
theorem dX0_readFor_41 : decode cX0_readFor 41 = .ok (.isub, 1) := by decide +kernel
theorem dX0_readFor_42 : decode cX0_readFor 42 = .ok (.invokestatic 112, 3) := by decide +kernel
theorem dX0_readFor_45 : decode cX0_readFor 45 = .ok (.ireturn, 1) := by decide +kernel
theorem dX0_readIn_0 : decode cX0_readIn 0 = .ok (.iconst 0, 1) := by decide +kernel
theorem dX0_readIn_1 : decode cX0_readIn 1 = .ok (.istore_n 2, 1) := by decide +kernel
theorem dX0_readIn_2 : decode cX0_readIn 2 = .ok (.iconst 0, 1) := by decide +kernel
theorem dX0_readIn_3 : decode cX0_readIn 3 = .ok (.istore_n 3, 1) := by decide +kernel
theorem dX0_readIn_4 : decode cX0_readIn 4 = .ok (.iload_n 3, 1) := by decide +kernel
theorem dX0_readIn_5 : decode cX0_readIn 5 = .ok (.aload_n 0, 1) := by decide +kernel
theorem dX0_readIn_6 : decode cX0_readIn 6 = .ok (.getfield 30, 3) := by decide +kernel
theorem dX0_readIn_9 : decode cX0_readIn 9 = .ok (.getfield 44, 3) := by decide +kernel
theorem dX0_readIn_12 : decode cX0_readIn 12 = .ok (.if_icmp .ge 31, 3) := by decide +kernel
theorem dX0_readIn_15 : decode cX0_readIn 15 = .ok (.iload_n 2, 1) := by decide +kernel
theorem dX0_readIn_16 : decode cX0_readIn 16 = .ok (.aload_n 0, 1) := by decide +kernel
theorem dX0_readIn_17 : decode cX0_readIn 17 = .ok (.getfield 24, 3) := by decide +kernel
theorem dX0_readIn_20 : decode cX0_readIn 20 = .ok (.iload_n 3, 1) := by decide +kernel
theorem dX0_readIn_21 : decode cX0_readIn 21 = .ok (.iaload, 1) := by decide +kernel
theorem dX0_readIn_22 : decode cX0_readIn 22 = .ok (.iload_n 1, 1) := by decide +kernel
theorem dX0_readIn_23 : decode cX0_readIn 23 = .ok (.if_icmp .ne 11, 3) := by decide +kernel
theorem dX0_readIn_26 : decode cX0_readIn 26 = .ok (.aload_n 0, 1) := by decide +kernel
theorem dX0_readIn_27 : decode cX0_readIn 27 = .ok (.iload_n 3, 1) := by decide +kernel
theorem dX0_readIn_28 : decode cX0_readIn 28 = .ok (.invokevirtual 131, 3) := by decide +kernel
theorem dX0_readIn_31 : decode cX0_readIn 31 = .ok (.goto 4, 3) := by decide +kernel
theorem dX0_readIn_34 : decode cX0_readIn 34 = .ok (.iconst 0, 1) := by decide +kernel
theorem dX0_readIn_35 : decode cX0_readIn 35 = .ok (.iadd, 1) := by decide +kernel
theorem dX0_readIn_36 : decode cX0_readIn 36 = .ok (.istore_n 2, 1) := by decide +kernel
theorem dX0_readIn_37 : decode cX0_readIn 37 = .ok (.iinc 3 1, 3) := by decide +kernel
theorem dX0_readIn_40 : decode cX0_readIn 40 = .ok (.goto (-36), 3) := by decide +kernel
theorem dX0_readIn_43 : decode cX0_readIn 43 = .ok (.iload_n 2, 1) := by decide +kernel
theorem dX0_readIn_44 : decode cX0_readIn 44 = .ok (.ireturn, 1) := by decide +kernel
theorem dX0_readInAll_0 : decode cX0_readInAll 0 = .ok (.iconst 0, 1) := by decide +kernel
theorem dX0_readInAll_1 : decode cX0_readInAll 1 = .ok (.istore_n 1, 1) := by decide +kernel
theorem dX0_readInAll_2 : decode cX0_readInAll 2 = .ok (.iconst 0, 1) := by decide +kernel
theorem dX0_readInAll_3 : decode cX0_readInAll 3 = .ok (.istore_n 2, 1) := by decide +kernel
theorem dX0_readInAll_4 : decode cX0_readInAll 4 = .ok (.iload_n 2, 1) := by decide +kernel
theorem dX0_readInAll_5 : decode cX0_readInAll 5 = .ok (.aload_n 0, 1) := by decide +kernel
theorem dX0_readInAll_6 : decode cX0_readInAll 6 = .ok (.getfield 30, 3) := by decide +kernel
theorem dX0_readInAll_9 : decode cX0_readInAll 9 = .ok (.getfield 44, 3) := by decide +kernel
theorem dX0_readInAll_12 : decode cX0_readInAll 12 = .ok (.if_icmp .ge 21, 3) := by decide +kernel
theorem dX0_readInAll_15 : decode cX0_readInAll 15 = .ok (.iload_n 1, 1) := by decide +kernel
theorem dX0_readInAll_16 : decode cX0_readInAll 16 = .ok (.iconst 0, 1) := by decide +kernel
theorem dX0_readInAll_17 : decode cX0_readInAll 17 = .ok (.aload_n 0, 1) := by decide +kernel
theorem dX0_readInAll_18 : decode cX0_readInAll 18 = .ok (.iload_n 2, 1) := by decide +kernel
theorem dX0_readInAll_19 : decode cX0_readInAll 19 = .ok (.invokevirtual 131, 3) := by decide +kernel
theorem dX0_readInAll_22 : decode cX0_readInAll 22 = .ok (.invokestatic 112, 3) := by decide +kernel
theorem dX0_readInAll_25 : decode cX0_readInAll 25 = .ok (.iadd, 1) := by decide +kernel
theorem dX0_readInAll_26 : decode cX0_readInAll 26 = .ok (.istore_n 1, 1) := by decide +kernel
theorem dX0_readInAll_27 : decode cX0_readInAll 27 = .ok (.iinc 2 1, 3) := by decide +kernel
theorem dX0_readInAll_30 : decode cX0_readInAll 30 = .ok (.goto (-26), 3) := by decide +kernel
theorem dX0_readInAll_33 : decode cX0_readInAll 33 = .ok (.iload_n 1, 1) := by decide +kernel
theorem dX0_readInAll_34 : decode cX0_readInAll 34 = .ok (.ireturn, 1) := by decide +kernel
theorem dX0_settle_0 : decode cX0_settle 0 = .ok (.iload_n 1, 1) := by decide +kernel
theorem dX0_settle_1 : decode cX0_settle 1 = .ok (.istore_n 2, 1) := by decide +kernel
theorem dX0_settle_2 : decode cX0_settle 2 = .ok (.iconst 0, 1) := by decide +kernel
theorem dX0_settle_3 : decode cX0_settle 3 = .ok (.istore_n 3, 1) := by decide +kernel
theorem dX0_settle_4 : decode cX0_settle 4 = .ok (.iload_n 3, 1) := by decide +kernel
theorem dX0_settle_5 : decode cX0_settle 5 = .ok (.aload_n 0, 1) := by decide +kernel
theorem dX0_settle_6 : decode cX0_settle 6 = .ok (.getfield 30, 3) := by decide +kernel
theorem dX0_settle_9 : decode cX0_settle 9 = .ok (.getfield 44, 3) := by decide +kernel
theorem dX0_settle_12 : decode cX0_settle 12 = .ok (.if_icmp .ge 50, 3) := by decide +kernel
theorem dX0_settle_15 : decode cX0_settle 15 = .ok (.iload_n 1, 1) := by decide +kernel
theorem dX0_settle_16 : decode cX0_settle 16 = .ok (.aload_n 0, 1) := by decide +kernel
theorem dX0_settle_17 : decode cX0_settle 17 = .ok (.getfield 41, 3) := by decide +kernel
theorem dX0_settle_20 : decode cX0_settle 20 = .ok (.ior, 1) := by decide +kernel
theorem dX0_settle_21 : decode cX0_settle 21 = .ok (.iload_n 3, 1) := by decide +kernel
theorem dX0_settle_22 : decode cX0_settle 22 = .ok (.invokestatic 72, 3) := by decide +kernel
theorem dX0_settle_25 : decode cX0_settle 25 = .ok (.ifCond .ne 31, 3) := by decide +kernel
theorem dX0_settle_28 : decode cX0_settle 28 = .ok (.aload_n 0, 1) := by decide +kernel
theorem dX0_settle_29 : decode cX0_settle 29 = .ok (.getfield 9, 3) := by decide +kernel
theorem dX0_settle_32 : decode cX0_settle 32 = .ok (.iload_n 3, 1) := by decide +kernel
theorem dX0_settle_33 : decode cX0_settle 33 = .ok (.iaload, 1) := by decide +kernel
theorem dX0_settle_34 : decode cX0_settle 34 = .ok (.ifCond .eq 22, 3) := by decide +kernel
theorem dX0_settle_37 : decode cX0_settle 37 = .ok (.aload_n 0, 1) := by decide +kernel
theorem dX0_settle_38 : decode cX0_settle 38 = .ok (.getfield 9, 3) := by decide +kernel
theorem dX0_settle_41 : decode cX0_settle 41 = .ok (.iload_n 3, 1) := by decide +kernel
theorem dX0_settle_42 : decode cX0_settle 42 = .ok (.iaload, 1) := by decide +kernel
theorem dX0_settle_43 : decode cX0_settle 43 = .ok (.iload_n 1, 1) := by decide +kernel
theorem dX0_settle_44 : decode cX0_settle 44 = .ok (.iconst (-1), 1) := by decide +kernel
theorem dX0_settle_45 : decode cX0_settle 45 = .ok (.ixor, 1) := by decide +kernel
theorem dX0_settle_46 : decode cX0_settle 46 = .ok (.iand, 1) := by decide +kernel
theorem dX0_settle_47 : decode cX0_settle 47 = .ok (.ifCond .ne 9, 3) := by decide +kernel
theorem dX0_settle_50 : decode cX0_settle 50 = .ok (.iload_n 2, 1) := by decide +kernel
theorem dX0_settle_51 : decode cX0_settle 51 = .ok (.iconst 1, 1) := by decide +kernel
theorem dX0_settle_52 : decode cX0_settle 52 = .ok (.iload_n 3, 1) := by decide +kernel
theorem dX0_settle_53 : decode cX0_settle 53 = .ok (.ishl, 1) := by decide +kernel
theorem dX0_settle_54 : decode cX0_settle 54 = .ok (.ior, 1) := by decide +kernel
theorem dX0_settle_55 : decode cX0_settle 55 = .ok (.istore_n 2, 1) := by decide +kernel
theorem dX0_settle_56 : decode cX0_settle 56 = .ok (.iinc 3 1, 3) := by decide +kernel
theorem dX0_settle_59 : decode cX0_settle 59 = .ok (.goto (-55), 3) := by decide +kernel
theorem dX0_settle_62 : decode cX0_settle 62 = .ok (.iload_n 2, 1) := by decide +kernel
theorem dX0_settle_63 : decode cX0_settle 63 = .ok (.ireturn, 1) := by decide +kernel
theorem dX0_shutWorth_0 : decode cX0_shutWorth 0 = .ok (.aload_n 0, 1) := by decide +kernel
theorem dX0_shutWorth_1 : decode cX0_shutWorth 1 = .ok (.getfield 21, 3) := by decide +kernel
theorem dX0_shutWorth_4 : decode cX0_shutWorth 4 = .ok (.iload_n 2, 1) := by decide +kernel
theorem dX0_shutWorth_5 : decode cX0_shutWorth 5 = .ok (.iaload, 1) := by decide +kernel
theorem dX0_shutWorth_6 : decode cX0_shutWorth 6 = .ok (.iload_n 1, 1) := by decide +kernel
theorem dX0_shutWorth_7 : decode cX0_shutWorth 7 = .ok (.invokestatic 72, 3) := by decide +kernel
theorem dX0_shutWorth_10 : decode cX0_shutWorth 10 = .ok (.ifCond .eq 5, 3) := by decide +kernel
theorem dX0_shutWorth_13 : decode cX0_shutWorth 13 = .ok (.iconst (-1), 1) := by decide +kernel
theorem dX0_shutWorth_14 : decode cX0_shutWorth 14 = .ok (.ireturn, 1) := by decide +kernel
theorem dX0_shutWorth_15 : decode cX0_shutWorth 15 = .ok (.iconst 0, 1) := by decide +kernel
theorem dX0_shutWorth_16 : decode cX0_shutWorth 16 = .ok (.aload_n 0, 1) := by decide +kernel
theorem dX0_shutWorth_17 : decode cX0_shutWorth 17 = .ok (.getfield 30, 3) := by decide +kernel
theorem dX0_shutWorth_20 : decode cX0_shutWorth 20 = .ok (.getfield 128, 3) := by decide +kernel
theorem dX0_shutWorth_23 : decode cX0_shutWorth 23 = .ok (.iload_n 1, 1) := by decide +kernel
theorem dX0_shutWorth_24 : decode cX0_shutWorth 24 = .ok (.iaload, 1) := by decide +kernel
theorem dX0_shutWorth_25 : decode cX0_shutWorth 25 = .ok (.aload_n 0, 1) := by decide +kernel
theorem dX0_shutWorth_26 : decode cX0_shutWorth 26 = .ok (.iload_n 1, 1) := by decide +kernel
theorem dX0_shutWorth_27 : decode cX0_shutWorth 27 = .ok (.aload_n 0, 1) := by decide +kernel
theorem dX0_shutWorth_28 : decode cX0_shutWorth 28 = .ok (.getfield 30, 3) := by decide +kernel
theorem dX0_shutWorth_31 : decode cX0_shutWorth 31 = .ok (.getfield 99, 3) := by decide +kernel
theorem dX0_shutWorth_34 : decode cX0_shutWorth 34 = .ok (.iload_n 1, 1) := by decide +kernel
theorem dX0_shutWorth_35 : decode cX0_shutWorth 35 = .ok (.iaload, 1) := by decide +kernel
theorem dX0_shutWorth_36 : decode cX0_shutWorth 36 = .ok (.iload_n 2, 1) := by decide +kernel
theorem dX0_shutWorth_37 : decode cX0_shutWorth 37 = .ok (.invokevirtual 102, 3) := by decide +kernel
theorem dX0_shutWorth_40 : decode cX0_shutWorth 40 = .ok (.isub, 1) := by decide +kernel
theorem dX0_shutWorth_41 : decode cX0_shutWorth 41 = .ok (.invokestatic 112, 3) := by decide +kernel
theorem dX0_shutWorth_44 : decode cX0_shutWorth 44 = .ok (.ireturn, 1) := by decide +kernel
theorem dX0_stiffness_0 : decode cX0_stiffness 0 = .ok (.aload_n 0, 1) := by decide +kernel
theorem dX0_stiffness_1 : decode cX0_stiffness 1 = .ok (.iload_n 1, 1) := by decide +kernel
theorem dX0_stiffness_2 : decode cX0_stiffness 2 = .ok (.aload_n 0, 1) := by decide +kernel
theorem dX0_stiffness_3 : decode cX0_stiffness 3 = .ok (.getfield 30, 3) := by decide +kernel
theorem dX0_stiffness_6 : decode cX0_stiffness 6 = .ok (.getfield 99, 3) := by decide +kernel
theorem dX0_stiffness_9 : decode cX0_stiffness 9 = .ok (.iload_n 1, 1) := by decide +kernel
theorem dX0_stiffness_10 : decode cX0_stiffness 10 = .ok (.iaload, 1) := by decide +kernel
theorem dX0_stiffness_11 : decode cX0_stiffness 11 = .ok (.iload_n 2, 1) := by decide +kernel
theorem dX0_stiffness_12 : decode cX0_stiffness 12 = .ok (.invokevirtual 102, 3) := by decide +kernel
theorem dX0_stiffness_15 : decode cX0_stiffness 15 = .ok (.ireturn, 1) := by decide +kernel
theorem dX0_unfold_0 : decode cX0_unfold 0 = .ok (.aload_n 0, 1) := by decide +kernel
theorem dX0_unfold_1 : decode cX0_unfold 1 = .ok (.getfield 24, 3) := by decide +kernel
theorem dX0_unfold_4 : decode cX0_unfold 4 = .ok (.iconst (-1), 1) := by decide +kernel
theorem dX0_unfold_5 : decode cX0_unfold 5 = .ok (.invokestatic 51, 3) := by decide +kernel
theorem dX0_unfold_8 : decode cX0_unfold 8 = .ok (.aload_n 0, 1) := by decide +kernel
theorem dX0_unfold_9 : decode cX0_unfold 9 = .ok (.iconst 0, 1) := by decide +kernel
theorem dX0_unfold_10 : decode cX0_unfold 10 = .ok (.putfield 85, 3) := by decide +kernel
theorem dX0_unfold_13 : decode cX0_unfold 13 = .ok (.aload_n 0, 1) := by decide +kernel
theorem dX0_unfold_14 : decode cX0_unfold 14 = .ok (.getfield 21, 3) := by decide +kernel
theorem dX0_unfold_17 : decode cX0_unfold 17 = .ok (.iconst 0, 1) := by decide +kernel
theorem dX0_unfold_18 : decode cX0_unfold 18 = .ok (.iconst 0, 1) := by decide +kernel
theorem dX0_unfold_19 : decode cX0_unfold 19 = .ok (.iastore, 1) := by decide +kernel
theorem dX0_unfold_20 : decode cX0_unfold 20 = .ok (.iconst 0, 1) := by decide +kernel
theorem dX0_unfold_21 : decode cX0_unfold 21 = .ok (.istore_n 1, 1) := by decide +kernel
theorem dX0_unfold_22 : decode cX0_unfold 22 = .ok (.iload_n 1, 1) := by decide +kernel
theorem dX0_unfold_23 : decode cX0_unfold 23 = .ok (.aload_n 0, 1) := by decide +kernel
theorem dX0_unfold_24 : decode cX0_unfold 24 = .ok (.getfield 30, 3) := by decide +kernel
theorem dX0_unfold_27 : decode cX0_unfold 27 = .ok (.getfield 88, 3) := by decide +kernel
theorem dX0_unfold_30 : decode cX0_unfold 30 = .ok (.if_icmp .ge 77, 3) := by decide +kernel
theorem dX0_unfold_33 : decode cX0_unfold 33 = .ok (.aload_n 0, 1) := by decide +kernel
theorem dX0_unfold_34 : decode cX0_unfold 34 = .ok (.getfield 21, 3) := by decide +kernel
theorem dX0_unfold_37 : decode cX0_unfold 37 = .ok (.iload_n 1, 1) := by decide +kernel
theorem dX0_unfold_38 : decode cX0_unfold 38 = .ok (.iaload, 1) := by decide +kernel
theorem dX0_unfold_39 : decode cX0_unfold 39 = .ok (.istore_n 2, 1) := by decide +kernel
theorem dX0_unfold_40 : decode cX0_unfold 40 = .ok (.iload_n 2, 1) := by decide +kernel
theorem dX0_unfold_41 : decode cX0_unfold 41 = .ok (.aload_n 0, 1) := by decide +kernel
theorem dX0_unfold_42 : decode cX0_unfold 42 = .ok (.getfield 18, 3) := by decide +kernel
theorem dX0_unfold_45 : decode cX0_unfold 45 = .ok (.iload_n 1, 1) := by decide +kernel
theorem dX0_unfold_46 : decode cX0_unfold 46 = .ok (.iaload, 1) := by decide +kernel
theorem dX0_unfold_47 : decode cX0_unfold 47 = .ok (.ior, 1) := by decide +kernel
theorem dX0_unfold_48 : decode cX0_unfold 48 = .ok (.istore_n 3, 1) := by decide +kernel
theorem dX0_unfold_49 : decode cX0_unfold 49 = .ok (.iload_n 3, 1) := by decide +kernel
theorem dX0_unfold_50 : decode cX0_unfold 50 = .ok (.iload_n 2, 1) := by decide +kernel
theorem dX0_unfold_51 : decode cX0_unfold 51 = .ok (.if_icmp .ne 7, 3) := by decide +kernel
theorem dX0_unfold_54 : decode cX0_unfold 54 = .ok (.iload_n 2, 1) := by decide +kernel
theorem dX0_unfold_55 : decode cX0_unfold 55 = .ok (.goto 8, 3) := by decide +kernel
theorem dX0_unfold_58 : decode cX0_unfold 58 = .ok (.aload_n 0, 1) := by decide +kernel
theorem dX0_unfold_59 : decode cX0_unfold 59 = .ok (.iload_n 3, 1) := by decide +kernel
theorem dX0_unfold_60 : decode cX0_unfold 60 = .ok (.invokevirtual 91, 3) := by decide +kernel
theorem dX0_unfold_63 : decode cX0_unfold 63 = .ok (.istore 4, 2) := by decide +kernel
theorem dX0_unfold_65 : decode cX0_unfold 65 = .ok (.aload_n 0, 1) := by decide +kernel
theorem dX0_unfold_66 : decode cX0_unfold 66 = .ok (.dup, 1) := by decide +kernel
theorem dX0_unfold_67 : decode cX0_unfold 67 = .ok (.getfield 85, 3) := by decide +kernel
theorem dX0_unfold_70 : decode cX0_unfold 70 = .ok (.iload 4, 2) := by decide +kernel
theorem dX0_unfold_72 : decode cX0_unfold 72 = .ok (.iload_n 3, 1) := by decide +kernel
theorem dX0_unfold_73 : decode cX0_unfold 73 = .ok (.iconst (-1), 1) := by decide +kernel
theorem dX0_unfold_74 : decode cX0_unfold 74 = .ok (.ixor, 1) := by decide +kernel
theorem dX0_unfold_75 : decode cX0_unfold 75 = .ok (.iand, 1) := by decide +kernel
theorem dX0_unfold_76 : decode cX0_unfold 76 = .ok (.ior, 1) := by decide +kernel
theorem dX0_unfold_77 : decode cX0_unfold 77 = .ok (.putfield 85, 3) := by decide +kernel
theorem dX0_unfold_80 : decode cX0_unfold 80 = .ok (.aload_n 0, 1) := by decide +kernel
theorem dX0_unfold_81 : decode cX0_unfold 81 = .ok (.iload 4, 2) := by decide +kernel
theorem dX0_unfold_83 : decode cX0_unfold 83 = .ok (.iload_n 2, 1) := by decide +kernel
theorem dX0_unfold_84 : decode cX0_unfold 84 = .ok (.iconst (-1), 1) := by decide +kernel
theorem dX0_unfold_85 : decode cX0_unfold 85 = .ok (.ixor, 1) := by decide +kernel
theorem dX0_unfold_86 : decode cX0_unfold 86 = .ok (.iand, 1) := by decide +kernel
theorem dX0_unfold_87 : decode cX0_unfold 87 = .ok (.iload_n 1, 1) := by decide +kernel
theorem dX0_unfold_88 : decode cX0_unfold 88 = .ok (.invokevirtual 95, 3) := by decide +kernel
theorem dX0_unfold_91 : decode cX0_unfold 91 = .ok (.aload_n 0, 1) := by decide +kernel
theorem dX0_unfold_92 : decode cX0_unfold 92 = .ok (.getfield 21, 3) := by decide +kernel
theorem dX0_unfold_95 : decode cX0_unfold 95 = .ok (.iload_n 1, 1) := by decide +kernel
theorem dX0_unfold_96 : decode cX0_unfold 96 = .ok (.iconst 1, 1) := by decide +kernel
theorem dX0_unfold_97 : decode cX0_unfold 97 = .ok (.iadd, 1) := by decide +kernel
theorem dX0_unfold_98 : decode cX0_unfold 98 = .ok (.iload 4, 2) := by decide +kernel
theorem dX0_unfold_100 : decode cX0_unfold 100 = .ok (.iastore, 1) := by decide +kernel
theorem dX0_unfold_101 : decode cX0_unfold 101 = .ok (.iinc 1 1, 3) := by decide +kernel
theorem dX0_unfold_104 : decode cX0_unfold 104 = .ok (.goto (-82), 3) := by decide +kernel
theorem dX0_unfold_107 : decode cX0_unfold 107 = .ok (.return_, 1) := by decide +kernel
theorem dX0_unfoldBy_0 : decode cX0_unfoldBy 0 = .ok (.aload_n 0, 1) := by decide +kernel
theorem dX0_unfoldBy_1 : decode cX0_unfoldBy 1 = .ok (.getfield 18, 3) := by decide +kernel
theorem dX0_unfoldBy_4 : decode cX0_unfoldBy 4 = .ok (.iconst 0, 1) := by decide +kernel
theorem dX0_unfoldBy_5 : decode cX0_unfoldBy 5 = .ok (.invokestatic 51, 3) := by decide +kernel
theorem dX0_unfoldBy_8 : decode cX0_unfoldBy 8 = .ok (.aload_n 0, 1) := by decide +kernel
theorem dX0_unfoldBy_9 : decode cX0_unfoldBy 9 = .ok (.getfield 18, 3) := by decide +kernel
theorem dX0_unfoldBy_12 : decode cX0_unfoldBy 12 = .ok (.iconst 0, 1) := by decide +kernel
theorem dX0_unfoldBy_13 : decode cX0_unfoldBy 13 = .ok (.iload_n 1, 1) := by decide +kernel
theorem dX0_unfoldBy_14 : decode cX0_unfoldBy 14 = .ok (.iastore, 1) := by decide +kernel
theorem dX0_unfoldBy_15 : decode cX0_unfoldBy 15 = .ok (.aload_n 0, 1) := by decide +kernel
theorem dX0_unfoldBy_16 : decode cX0_unfoldBy 16 = .ok (.getfield 18, 3) := by decide +kernel
theorem dX0_unfoldBy_19 : decode cX0_unfoldBy 19 = .ok (.iconst 1, 1) := by decide +kernel
theorem dX0_unfoldBy_20 : decode cX0_unfoldBy 20 = .ok (.iload_n 2, 1) := by decide +kernel
theorem dX0_unfoldBy_21 : decode cX0_unfoldBy 21 = .ok (.iastore, 1) := by decide +kernel
theorem dX0_unfoldBy_22 : decode cX0_unfoldBy 22 = .ok (.aload_n 0, 1) := by decide +kernel
theorem dX0_unfoldBy_23 : decode cX0_unfoldBy 23 = .ok (.invokevirtual 82, 3) := by decide +kernel
theorem dX0_unfoldBy_26 : decode cX0_unfoldBy 26 = .ok (.return_, 1) := by decide +kernel
theorem dX0_unfoldWith_0 : decode cX0_unfoldWith 0 = .ok (.aload_n 0, 1) := by decide +kernel
theorem dX0_unfoldWith_1 : decode cX0_unfoldWith 1 = .ok (.getfield 18, 3) := by decide +kernel
theorem dX0_unfoldWith_4 : decode cX0_unfoldWith 4 = .ok (.iconst 0, 1) := by decide +kernel
theorem dX0_unfoldWith_5 : decode cX0_unfoldWith 5 = .ok (.invokestatic 51, 3) := by decide +kernel
theorem dX0_unfoldWith_8 : decode cX0_unfoldWith 8 = .ok (.iconst 0, 1) := by decide +kernel
theorem dX0_unfoldWith_9 : decode cX0_unfoldWith 9 = .ok (.istore_n 2, 1) := by decide +kernel
theorem dX0_unfoldWith_10 : decode cX0_unfoldWith 10 = .ok (.iload_n 2, 1) := by decide +kernel
theorem dX0_unfoldWith_11 : decode cX0_unfoldWith 11 = .ok (.aload_n 0, 1) := by decide +kernel
theorem dX0_unfoldWith_12 : decode cX0_unfoldWith 12 = .ok (.getfield 30, 3) := by decide +kernel
theorem dX0_unfoldWith_15 : decode cX0_unfoldWith 15 = .ok (.getfield 69, 3) := by decide +kernel
theorem dX0_unfoldWith_18 : decode cX0_unfoldWith 18 = .ok (.if_icmp .ge 45, 3) := by decide +kernel
theorem dX0_unfoldWith_21 : decode cX0_unfoldWith 21 = .ok (.iload_n 1, 1) := by decide +kernel
theorem dX0_unfoldWith_22 : decode cX0_unfoldWith 22 = .ok (.iload_n 2, 1) := by decide +kernel
theorem dX0_unfoldWith_23 : decode cX0_unfoldWith 23 = .ok (.invokestatic 72, 3) := by decide +kernel
theorem dX0_unfoldWith_26 : decode cX0_unfoldWith 26 = .ok (.ifCond .eq 31, 3) := by decide +kernel
theorem dX0_unfoldWith_29 : decode cX0_unfoldWith 29 = .ok (.aload_n 0, 1) := by decide +kernel
theorem dX0_unfoldWith_30 : decode cX0_unfoldWith 30 = .ok (.getfield 18, 3) := by decide +kernel
theorem dX0_unfoldWith_33 : decode cX0_unfoldWith 33 = .ok (.aload_n 0, 1) := by decide +kernel
theorem dX0_unfoldWith_34 : decode cX0_unfoldWith 34 = .ok (.getfield 30, 3) := by decide +kernel
theorem dX0_unfoldWith_37 : decode cX0_unfoldWith 37 = .ok (.getfield 76, 3) := by decide +kernel
theorem dX0_unfoldWith_40 : decode cX0_unfoldWith 40 = .ok (.iload_n 2, 1) := by decide +kernel
theorem dX0_unfoldWith_41 : decode cX0_unfoldWith 41 = .ok (.iaload, 1) := by decide +kernel
theorem dX0_unfoldWith_42 : decode cX0_unfoldWith 42 = .ok (.dup2, 1) := by decide +kernel
theorem dX0_unfoldWith_43 : decode cX0_unfoldWith 43 = .ok (.iaload, 1) := by decide +kernel
theorem dX0_unfoldWith_44 : decode cX0_unfoldWith 44 = .ok (.iconst 1, 1) := by decide +kernel
theorem dX0_unfoldWith_45 : decode cX0_unfoldWith 45 = .ok (.aload_n 0, 1) := by decide +kernel
theorem dX0_unfoldWith_46 : decode cX0_unfoldWith 46 = .ok (.getfield 30, 3) := by decide +kernel
theorem dX0_unfoldWith_49 : decode cX0_unfoldWith 49 = .ok (.getfield 79, 3) := by decide +kernel
theorem dX0_unfoldWith_52 : decode cX0_unfoldWith 52 = .ok (.iload_n 2, 1) := by decide +kernel
theorem dX0_unfoldWith_53 : decode cX0_unfoldWith 53 = .ok (.iaload, 1) := by decide +kernel
theorem dX0_unfoldWith_54 : decode cX0_unfoldWith 54 = .ok (.ishl, 1) := by decide +kernel
theorem dX0_unfoldWith_55 : decode cX0_unfoldWith 55 = .ok (.ior, 1) := by decide +kernel
theorem dX0_unfoldWith_56 : decode cX0_unfoldWith 56 = .ok (.iastore, 1) := by decide +kernel
theorem dX0_unfoldWith_57 : decode cX0_unfoldWith 57 = .ok (.iinc 2 1, 3) := by decide +kernel
theorem dX0_unfoldWith_60 : decode cX0_unfoldWith 60 = .ok (.goto (-50), 3) := by decide +kernel
theorem dX0_unfoldWith_63 : decode cX0_unfoldWith 63 = .ok (.iconst 0, 1) := by decide +kernel
theorem dX0_unfoldWith_64 : decode cX0_unfoldWith 64 = .ok (.istore_n 2, 1) := by decide +kernel
theorem dX0_unfoldWith_65 : decode cX0_unfoldWith 65 = .ok (.iload_n 2, 1) := by decide +kernel
theorem dX0_unfoldWith_66 : decode cX0_unfoldWith 66 = .ok (.aload_n 0, 1) := by decide +kernel
theorem dX0_unfoldWith_67 : decode cX0_unfoldWith 67 = .ok (.getfield 30, 3) := by decide +kernel
theorem dX0_unfoldWith_70 : decode cX0_unfoldWith 70 = .ok (.getfield 57, 3) := by decide +kernel
theorem dX0_unfoldWith_73 : decode cX0_unfoldWith 73 = .ok (.if_icmp .ge 49, 3) := by decide +kernel
theorem dX0_unfoldWith_76 : decode cX0_unfoldWith 76 = .ok (.aload_n 0, 1) := by decide +kernel
theorem dX0_unfoldWith_77 : decode cX0_unfoldWith 77 = .ok (.getfield 30, 3) := by decide +kernel
theorem dX0_unfoldWith_80 : decode cX0_unfoldWith 80 = .ok (.getfield 60, 3) := by decide +kernel
theorem dX0_unfoldWith_83 : decode cX0_unfoldWith 83 = .ok (.iload_n 2, 1) := by decide +kernel
theorem dX0_unfoldWith_84 : decode cX0_unfoldWith 84 = .ok (.iaload, 1) := by decide +kernel
theorem dX0_unfoldWith_85 : decode cX0_unfoldWith 85 = .ok (.ifCond .ne 31, 3) := by decide +kernel
theorem dX0_unfoldWith_88 : decode cX0_unfoldWith 88 = .ok (.aload_n 0, 1) := by decide +kernel
theorem dX0_unfoldWith_89 : decode cX0_unfoldWith 89 = .ok (.getfield 18, 3) := by decide +kernel
theorem dX0_unfoldWith_92 : decode cX0_unfoldWith 92 = .ok (.aload_n 0, 1) := by decide +kernel
theorem dX0_unfoldWith_93 : decode cX0_unfoldWith 93 = .ok (.getfield 30, 3) := by decide +kernel
theorem dX0_unfoldWith_96 : decode cX0_unfoldWith 96 = .ok (.getfield 63, 3) := by decide +kernel
theorem dX0_unfoldWith_99 : decode cX0_unfoldWith 99 = .ok (.iload_n 2, 1) := by decide +kernel
theorem dX0_unfoldWith_100 : decode cX0_unfoldWith 100 = .ok (.iaload, 1) := by decide +kernel
theorem dX0_unfoldWith_101 : decode cX0_unfoldWith 101 = .ok (.dup2, 1) := by decide +kernel
theorem dX0_unfoldWith_102 : decode cX0_unfoldWith 102 = .ok (.iaload, 1) := by decide +kernel
theorem dX0_unfoldWith_103 : decode cX0_unfoldWith 103 = .ok (.iconst 1, 1) := by decide +kernel
theorem dX0_unfoldWith_104 : decode cX0_unfoldWith 104 = .ok (.aload_n 0, 1) := by decide +kernel
theorem dX0_unfoldWith_105 : decode cX0_unfoldWith 105 = .ok (.getfield 30, 3) := by decide +kernel
theorem dX0_unfoldWith_108 : decode cX0_unfoldWith 108 = .ok (.getfield 66, 3) := by decide +kernel
theorem dX0_unfoldWith_111 : decode cX0_unfoldWith 111 = .ok (.iload_n 2, 1) := by decide +kernel
theorem dX0_unfoldWith_112 : decode cX0_unfoldWith 112 = .ok (.iaload, 1) := by decide +kernel
theorem dX0_unfoldWith_113 : decode cX0_unfoldWith 113 = .ok (.ishl, 1) := by decide +kernel
theorem dX0_unfoldWith_114 : decode cX0_unfoldWith 114 = .ok (.ior, 1) := by decide +kernel
theorem dX0_unfoldWith_115 : decode cX0_unfoldWith 115 = .ok (.iastore, 1) := by decide +kernel
theorem dX0_unfoldWith_116 : decode cX0_unfoldWith 116 = .ok (.iinc 2 1, 3) := by decide +kernel
theorem dX0_unfoldWith_119 : decode cX0_unfoldWith 119 = .ok (.goto (-54), 3) := by decide +kernel
theorem dX0_unfoldWith_122 : decode cX0_unfoldWith 122 = .ok (.aload_n 0, 1) := by decide +kernel
theorem dX0_unfoldWith_123 : decode cX0_unfoldWith 123 = .ok (.invokevirtual 82, 3) := by decide +kernel
theorem dX0_unfoldWith_126 : decode cX0_unfoldWith 126 = .ok (.return_, 1) := by decide +kernel
theorem dX0_waited_0 : decode cX0_waited 0 = .ok (.aload_n 0, 1) := by decide +kernel
theorem dX0_waited_1 : decode cX0_waited 1 = .ok (.getfield 30, 3) := by decide +kernel
theorem dX0_waited_4 : decode cX0_waited 4 = .ok (.getfield 117, 3) := by decide +kernel
theorem dX0_waited_7 : decode cX0_waited 7 = .ok (.iload_n 1, 1) := by decide +kernel
theorem dX0_waited_8 : decode cX0_waited 8 = .ok (.iaload, 1) := by decide +kernel
theorem dX0_waited_9 : decode cX0_waited 9 = .ok (.istore 4, 2) := by decide +kernel
theorem dX0_waited_11 : decode cX0_waited 11 = .ok (.aload_n 0, 1) := by decide +kernel
theorem dX0_waited_12 : decode cX0_waited 12 = .ok (.getfield 40, 3) := by decide +kernel
theorem dX0_waited_15 : decode cX0_waited 15 = .ok (.tableswitch 86 1 3 #[25, 47, 59], 25) := by decide +kernel
theorem dX0_waited_40 : decode cX0_waited 40 = .ok (.bipush 99, 2) := by decide +kernel
theorem dX0_waited_42 : decode cX0_waited 42 = .ok (.iload_n 2, 1) := by decide +kernel
theorem dX0_waited_43 : decode cX0_waited 43 = .ok (.iload 4, 2) := by decide +kernel
theorem dX0_waited_45 : decode cX0_waited 45 = .ok (.iadd, 1) := by decide +kernel
theorem dX0_waited_46 : decode cX0_waited 46 = .ok (.aload_n 0, 1) := by decide +kernel
theorem dX0_waited_47 : decode cX0_waited 47 = .ok (.getfield 9, 3) := by decide +kernel
theorem dX0_waited_50 : decode cX0_waited 50 = .ok (.iload_n 1, 1) := by decide +kernel
theorem dX0_waited_51 : decode cX0_waited 51 = .ok (.iaload, 1) := by decide +kernel
theorem dX0_waited_52 : decode cX0_waited 52 = .ok (.iload_n 3, 1) := by decide +kernel
theorem dX0_waited_53 : decode cX0_waited 53 = .ok (.iand, 1) := by decide +kernel
theorem dX0_waited_54 : decode cX0_waited 54 = .ok (.invokestatic 120, 3) := by decide +kernel
theorem dX0_waited_57 : decode cX0_waited 57 = .ok (.iadd, 1) := by decide +kernel
theorem dX0_waited_58 : decode cX0_waited 58 = .ok (.invokestatic 125, 3) := by decide +kernel
theorem dX0_waited_61 : decode cX0_waited 61 = .ok (.ireturn, 1) := by decide +kernel
theorem dX0_waited_62 : decode cX0_waited 62 = .ok (.bipush 99, 2) := by decide +kernel
theorem dX0_waited_64 : decode cX0_waited 64 = .ok (.iload_n 2, 1) := by decide +kernel
theorem dX0_waited_65 : decode cX0_waited 65 = .ok (.iload 4, 2) := by decide +kernel
theorem dX0_waited_67 : decode cX0_waited 67 = .ok (.iadd, 1) := by decide +kernel
theorem dX0_waited_68 : decode cX0_waited 68 = .ok (.iload_n 2, 1) := by decide +kernel
theorem dX0_waited_69 : decode cX0_waited 69 = .ok (.iadd, 1) := by decide +kernel
theorem dX0_waited_70 : decode cX0_waited 70 = .ok (.invokestatic 125, 3) := by decide +kernel
theorem dX0_waited_73 : decode cX0_waited 73 = .ok (.ireturn, 1) := by decide +kernel
theorem dX0_waited_74 : decode cX0_waited 74 = .ok (.aload_n 0, 1) := by decide +kernel
theorem dX0_waited_75 : decode cX0_waited 75 = .ok (.getfield 9, 3) := by decide +kernel
theorem dX0_waited_78 : decode cX0_waited 78 = .ok (.iload_n 1, 1) := by decide +kernel
theorem dX0_waited_79 : decode cX0_waited 79 = .ok (.iaload, 1) := by decide +kernel
theorem dX0_waited_80 : decode cX0_waited 80 = .ok (.iload_n 3, 1) := by decide +kernel
theorem dX0_waited_81 : decode cX0_waited 81 = .ok (.iconst (-1), 1) := by decide +kernel
theorem dX0_waited_82 : decode cX0_waited 82 = .ok (.ixor, 1) := by decide +kernel
theorem dX0_waited_83 : decode cX0_waited 83 = .ok (.iand, 1) := by decide +kernel
theorem dX0_waited_84 : decode cX0_waited 84 = .ok (.ifCond .ne 15, 3) := by decide +kernel
theorem dX0_waited_87 : decode cX0_waited 87 = .ok (.bipush 99, 2) := by decide +kernel
theorem dX0_waited_89 : decode cX0_waited 89 = .ok (.iload_n 2, 1) := by decide +kernel
theorem dX0_waited_90 : decode cX0_waited 90 = .ok (.iload 4, 2) := by decide +kernel
theorem dX0_waited_92 : decode cX0_waited 92 = .ok (.iadd, 1) := by decide +kernel
theorem dX0_waited_93 : decode cX0_waited 93 = .ok (.invokestatic 125, 3) := by decide +kernel
theorem dX0_waited_96 : decode cX0_waited 96 = .ok (.goto 4, 3) := by decide +kernel
theorem dX0_waited_99 : decode cX0_waited 99 = .ok (.iload_n 2, 1) := by decide +kernel
theorem dX0_waited_100 : decode cX0_waited 100 = .ok (.ireturn, 1) := by decide +kernel
theorem dX0_waited_101 : decode cX0_waited 101 = .ok (.bipush 99, 2) := by decide +kernel
theorem dX0_waited_103 : decode cX0_waited 103 = .ok (.iload_n 2, 1) := by decide +kernel
theorem dX0_waited_104 : decode cX0_waited 104 = .ok (.iload 4, 2) := by decide +kernel
theorem dX0_waited_106 : decode cX0_waited 106 = .ok (.iadd, 1) := by decide +kernel
theorem dX0_waited_107 : decode cX0_waited 107 = .ok (.invokestatic 125, 3) := by decide +kernel
theorem dX0_waited_110 : decode cX0_waited 110 = .ok (.ireturn, 1) := by decide +kernel
theorem dX1_choose_0 : decode cX1_choose 0 = .ok (.aload_n 0, 1) := by decide +kernel
theorem dX1_choose_1 : decode cX1_choose 1 = .ok (.aload_n 0, 1) := by decide +kernel
theorem dX1_choose_2 : decode cX1_choose 2 = .ok (.iload_n 1, 1) := by decide +kernel
theorem dX1_choose_3 : decode cX1_choose 3 = .ok (.iload_n 2, 1) := by decide +kernel
theorem dX1_choose_4 : decode cX1_choose 4 = .ok (.aload_n 3, 1) := by decide +kernel
theorem dX1_choose_5 : decode cX1_choose 5 = .ok (.invokevirtual 68, 3) := by decide +kernel
theorem dX1_choose_8 : decode cX1_choose 8 = .ok (.putfield 72, 3) := by decide +kernel
theorem dX1_choose_11 : decode cX1_choose 11 = .ok (.aload_n 0, 1) := by decide +kernel
theorem dX1_choose_12 : decode cX1_choose 12 = .ok (.iconst (-1), 1) := by decide +kernel
theorem dX1_choose_13 : decode cX1_choose 13 = .ok (.putfield 75, 3) := by decide +kernel
theorem dX1_choose_16 : decode cX1_choose 16 = .ok (.aload_n 0, 1) := by decide +kernel
theorem dX1_choose_17 : decode cX1_choose 17 = .ok (.iload_n 2, 1) := by decide +kernel
theorem dX1_choose_18 : decode cX1_choose 18 = .ok (.aload_n 3, 1) := by decide +kernel
theorem dX1_choose_19 : decode cX1_choose 19 = .ok (.invokevirtual 78, 3) := by decide +kernel
theorem dX1_choose_22 : decode cX1_choose 22 = .ok (.iconst 0, 1) := by decide +kernel
theorem dX1_choose_23 : decode cX1_choose 23 = .ok (.istore 4, 2) := by decide +kernel
theorem dX1_choose_25 : decode cX1_choose 25 = .ok (.iload 4, 2) := by decide +kernel
theorem dX1_choose_27 : decode cX1_choose 27 = .ok (.aload_n 0, 1) := by decide +kernel
theorem dX1_choose_28 : decode cX1_choose 28 = .ok (.getfield 19, 3) := by decide +kernel
theorem dX1_choose_31 : decode cX1_choose 31 = .ok (.getfield 43, 3) := by decide +kernel
theorem dX1_choose_34 : decode cX1_choose 34 = .ok (.if_icmp .gt 38, 3) := by decide +kernel
theorem dX1_choose_37 : decode cX1_choose 37 = .ok (.aload_n 0, 1) := by decide +kernel
theorem dX1_choose_38 : decode cX1_choose 38 = .ok (.iload 4, 2) := by decide +kernel
theorem dX1_choose_40 : decode cX1_choose 40 = .ok (.invokevirtual 82, 3) := by decide +kernel
theorem dX1_choose_43 : decode cX1_choose 43 = .ok (.istore 5, 2) := by decide +kernel
theorem dX1_choose_45 : decode cX1_choose 45 = .ok (.iload 5, 2) := by decide +kernel
theorem dX1_choose_47 : decode cX1_choose 47 = .ok (.aload_n 0, 1) := by decide +kernel
theorem dX1_choose_48 : decode cX1_choose 48 = .ok (.getfield 72, 3) := by decide +kernel
theorem dX1_choose_51 : decode cX1_choose 51 = .ok (.if_icmp .ge 15, 3) := by decide +kernel
theorem dX1_choose_54 : decode cX1_choose 54 = .ok (.aload_n 0, 1) := by decide +kernel
theorem dX1_choose_55 : decode cX1_choose 55 = .ok (.iload 5, 2) := by decide +kernel
theorem dX1_choose_57 : decode cX1_choose 57 = .ok (.putfield 72, 3) := by decide +kernel
theorem dX1_choose_60 : decode cX1_choose 60 = .ok (.aload_n 0, 1) := by decide +kernel
theorem dX1_choose_61 : decode cX1_choose 61 = .ok (.iload 4, 2) := by decide +kernel
theorem dX1_choose_63 : decode cX1_choose 63 = .ok (.putfield 75, 3) := by decide +kernel
theorem dX1_choose_66 : decode cX1_choose 66 = .ok (.iinc 4 1, 3) := by decide +kernel
theorem dX1_choose_69 : decode cX1_choose 69 = .ok (.goto (-44), 3) := by decide +kernel
theorem dX1_choose_72 : decode cX1_choose 72 = .ok (.return_, 1) := by decide +kernel
theorem dX1_greatest_0 : decode cX1_greatest 0 = .ok (.bipush 60, 2) := by decide +kernel
theorem dX1_greatest_2 : decode cX1_greatest 2 = .ok (.istore_n 1, 1) := by decide +kernel
theorem dX1_greatest_3 : decode cX1_greatest 3 = .ok (.iload_n 1, 1) := by decide +kernel
theorem dX1_greatest_4 : decode cX1_greatest 4 = .ok (.ifCond .lt 20, 3) := by decide +kernel
theorem dX1_greatest_7 : decode cX1_greatest 7 = .ok (.aload_n 0, 1) := by decide +kernel
theorem dX1_greatest_8 : decode cX1_greatest 8 = .ok (.getfield 9, 3) := by decide +kernel
theorem dX1_greatest_11 : decode cX1_greatest 11 = .ok (.iload_n 1, 1) := by decide +kernel
theorem dX1_greatest_12 : decode cX1_greatest 12 = .ok (.baload, 1) := by decide +kernel
theorem dX1_greatest_13 : decode cX1_greatest 13 = .ok (.ifCond .eq 5, 3) := by decide +kernel
theorem dX1_greatest_16 : decode cX1_greatest 16 = .ok (.iload_n 1, 1) := by decide +kernel
theorem dX1_greatest_17 : decode cX1_greatest 17 = .ok (.ireturn, 1) := by decide +kernel
theorem dX1_greatest_18 : decode cX1_greatest 18 = .ok (.iinc 1 (-1), 3) := by decide +kernel
theorem dX1_greatest_21 : decode cX1_greatest 21 = .ok (.goto (-18), 3) := by decide +kernel
theorem dX1_greatest_24 : decode cX1_greatest 24 = .ok (.iconst (-1), 1) := by decide +kernel
theorem dX1_greatest_25 : decode cX1_greatest 25 = .ok (.ireturn, 1) := by decide +kernel
theorem dX1_howMany_0 : decode cX1_howMany 0 = .ok (.aload_n 0, 1) := by decide +kernel
theorem dX1_howMany_1 : decode cX1_howMany 1 = .ok (.iload_n 1, 1) := by decide +kernel
theorem dX1_howMany_2 : decode cX1_howMany 2 = .ok (.iload_n 2, 1) := by decide +kernel
theorem dX1_howMany_3 : decode cX1_howMany 3 = .ok (.aload_n 3, 1) := by decide +kernel
theorem dX1_howMany_4 : decode cX1_howMany 4 = .ok (.invokevirtual 54, 3) := by decide +kernel
theorem dX1_howMany_7 : decode cX1_howMany 7 = .ok (.istore 4, 2) := by decide +kernel
theorem dX1_howMany_9 : decode cX1_howMany 9 = .ok (.iconst 0, 1) := by decide +kernel
theorem dX1_howMany_10 : decode cX1_howMany 10 = .ok (.istore 5, 2) := by decide +kernel
theorem dX1_howMany_12 : decode cX1_howMany 12 = .ok (.iconst 0, 1) := by decide +kernel
theorem dX1_howMany_13 : decode cX1_howMany 13 = .ok (.istore 6, 2) := by decide +kernel
theorem dX1_howMany_15 : decode cX1_howMany 15 = .ok (.iload 6, 2) := by decide +kernel
theorem dX1_howMany_17 : decode cX1_howMany 17 = .ok (.bipush 60, 2) := by decide +kernel
theorem dX1_howMany_19 : decode cX1_howMany 19 = .ok (.if_icmp .gt 71, 3) := by decide +kernel
theorem dX1_howMany_22 : decode cX1_howMany 22 = .ok (.aload_n 0, 1) := by decide +kernel
theorem dX1_howMany_23 : decode cX1_howMany 23 = .ok (.getfield 9, 3) := by decide +kernel
theorem dX1_howMany_26 : decode cX1_howMany 26 = .ok (.iload 6, 2) := by decide +kernel
theorem dX1_howMany_28 : decode cX1_howMany 28 = .ok (.iconst 0, 1) := by decide +kernel
theorem dX1_howMany_29 : decode cX1_howMany 29 = .ok (.bastore, 1) := by decide +kernel
theorem dX1_howMany_30 : decode cX1_howMany 30 = .ok (.iload 4, 2) := by decide +kernel
theorem dX1_howMany_32 : decode cX1_howMany 32 = .ok (.ifCond .eq 32, 3) := by decide +kernel
theorem dX1_howMany_35 : decode cX1_howMany 35 = .ok (.aload_n 3, 1) := by decide +kernel
theorem dX1_howMany_36 : decode cX1_howMany 36 = .ok (.iload_n 2, 1) := by decide +kernel
theorem dX1_howMany_37 : decode cX1_howMany 37 = .ok (.iload 6, 2) := by decide +kernel
theorem dX1_howMany_39 : decode cX1_howMany 39 = .ok (.aload_n 0, 1) := by decide +kernel
theorem dX1_howMany_40 : decode cX1_howMany 40 = .ok (.getfield 19, 3) := by decide +kernel
theorem dX1_howMany_43 : decode cX1_howMany 43 = .ok (.getfield 43, 3) := by decide +kernel
theorem dX1_howMany_46 : decode cX1_howMany 46 = .ok (.invokevirtual 58, 3) := by decide +kernel
theorem dX1_howMany_49 : decode cX1_howMany 49 = .ok (.pop, 1) := by decide +kernel
theorem dX1_howMany_50 : decode cX1_howMany 50 = .ok (.aload_n 0, 1) := by decide +kernel
theorem dX1_howMany_51 : decode cX1_howMany 51 = .ok (.getfield 9, 3) := by decide +kernel
theorem dX1_howMany_54 : decode cX1_howMany 54 = .ok (.iload 6, 2) := by decide +kernel
theorem dX1_howMany_56 : decode cX1_howMany 56 = .ok (.aload_n 0, 1) := by decide +kernel
theorem dX1_howMany_57 : decode cX1_howMany 57 = .ok (.iload_n 1, 1) := by decide +kernel
theorem dX1_howMany_58 : decode cX1_howMany 58 = .ok (.iload_n 2, 1) := by decide +kernel
theorem dX1_howMany_59 : decode cX1_howMany 59 = .ok (.aload_n 3, 1) := by decide +kernel
theorem dX1_howMany_60 : decode cX1_howMany 60 = .ok (.invokevirtual 62, 3) := by decide +kernel
theorem dX1_howMany_63 : decode cX1_howMany 63 = .ok (.bastore, 1) := by decide +kernel
theorem dX1_howMany_64 : decode cX1_howMany 64 = .ok (.iload 5, 2) := by decide +kernel
theorem dX1_howMany_66 : decode cX1_howMany 66 = .ok (.aload_n 0, 1) := by decide +kernel
theorem dX1_howMany_67 : decode cX1_howMany 67 = .ok (.getfield 9, 3) := by decide +kernel
theorem dX1_howMany_70 : decode cX1_howMany 70 = .ok (.iload 6, 2) := by decide +kernel
theorem dX1_howMany_72 : decode cX1_howMany 72 = .ok (.baload, 1) := by decide +kernel
theorem dX1_howMany_73 : decode cX1_howMany 73 = .ok (.ifCond .eq 7, 3) := by decide +kernel
theorem dX1_howMany_76 : decode cX1_howMany 76 = .ok (.iconst 1, 1) := by decide +kernel
theorem dX1_howMany_77 : decode cX1_howMany 77 = .ok (.goto 4, 3) := by decide +kernel
theorem dX1_howMany_80 : decode cX1_howMany 80 = .ok (.iconst 0, 1) := by decide +kernel
theorem dX1_howMany_81 : decode cX1_howMany 81 = .ok (.iadd, 1) := by decide +kernel
theorem dX1_howMany_82 : decode cX1_howMany 82 = .ok (.istore 5, 2) := by decide +kernel
theorem dX1_howMany_84 : decode cX1_howMany 84 = .ok (.iinc 6 1, 3) := by decide +kernel
theorem dX1_howMany_87 : decode cX1_howMany 87 = .ok (.goto (-72), 3) := by decide +kernel
theorem dX1_howMany_90 : decode cX1_howMany 90 = .ok (.iload 5, 2) := by decide +kernel
theorem dX1_howMany_92 : decode cX1_howMany 92 = .ok (.ireturn, 1) := by decide +kernel
theorem dX1_isAsSeen_0 : decode cX1_isAsSeen 0 = .ok (.iconst 0, 1) := by decide +kernel
theorem dX1_isAsSeen_1 : decode cX1_isAsSeen 1 = .ok (.istore 4, 2) := by decide +kernel
theorem dX1_isAsSeen_3 : decode cX1_isAsSeen 3 = .ok (.iload 4, 2) := by decide +kernel
theorem dX1_isAsSeen_5 : decode cX1_isAsSeen 5 = .ok (.iconst 2, 1) := by decide +kernel
theorem dX1_isAsSeen_6 : decode cX1_isAsSeen 6 = .ok (.iadd, 1) := by decide +kernel
theorem dX1_isAsSeen_7 : decode cX1_isAsSeen 7 = .ok (.aload_n 0, 1) := by decide +kernel
theorem dX1_isAsSeen_8 : decode cX1_isAsSeen 8 = .ok (.getfield 23, 3) := by decide +kernel
theorem dX1_isAsSeen_11 : decode cX1_isAsSeen 11 = .ok (.iload_n 1, 1) := by decide +kernel
theorem dX1_isAsSeen_12 : decode cX1_isAsSeen 12 = .ok (.invokevirtual 27, 3) := by decide +kernel
theorem dX1_isAsSeen_15 : decode cX1_isAsSeen 15 = .ok (.if_icmp .ge 70, 3) := by decide +kernel
theorem dX1_isAsSeen_18 : decode cX1_isAsSeen 18 = .ok (.aload_n 0, 1) := by decide +kernel
theorem dX1_isAsSeen_19 : decode cX1_isAsSeen 19 = .ok (.getfield 23, 3) := by decide +kernel
theorem dX1_isAsSeen_22 : decode cX1_isAsSeen 22 = .ok (.iload_n 1, 1) := by decide +kernel
theorem dX1_isAsSeen_23 : decode cX1_isAsSeen 23 = .ok (.iload 4, 2) := by decide +kernel
theorem dX1_isAsSeen_25 : decode cX1_isAsSeen 25 = .ok (.invokevirtual 33, 3) := by decide +kernel
theorem dX1_isAsSeen_28 : decode cX1_isAsSeen 28 = .ok (.l2i, 1) := by decide +kernel
theorem dX1_isAsSeen_29 : decode cX1_isAsSeen 29 = .ok (.istore 5, 2) := by decide +kernel
theorem dX1_isAsSeen_31 : decode cX1_isAsSeen 31 = .ok (.aload_n 0, 1) := by decide +kernel
theorem dX1_isAsSeen_32 : decode cX1_isAsSeen 32 = .ok (.getfield 23, 3) := by decide +kernel
theorem dX1_isAsSeen_35 : decode cX1_isAsSeen 35 = .ok (.iload_n 1, 1) := by decide +kernel
theorem dX1_isAsSeen_36 : decode cX1_isAsSeen 36 = .ok (.iload 4, 2) := by decide +kernel
theorem dX1_isAsSeen_38 : decode cX1_isAsSeen 38 = .ok (.iconst 1, 1) := by decide +kernel
theorem dX1_isAsSeen_39 : decode cX1_isAsSeen 39 = .ok (.iadd, 1) := by decide +kernel
theorem dX1_isAsSeen_40 : decode cX1_isAsSeen 40 = .ok (.invokevirtual 33, 3) := by decide +kernel
theorem dX1_isAsSeen_43 : decode cX1_isAsSeen 43 = .ok (.l2i, 1) := by decide +kernel
theorem dX1_isAsSeen_44 : decode cX1_isAsSeen 44 = .ok (.istore 6, 2) := by decide +kernel
theorem dX1_isAsSeen_46 : decode cX1_isAsSeen 46 = .ok (.iload 5, 2) := by decide +kernel
theorem dX1_isAsSeen_48 : decode cX1_isAsSeen 48 = .ok (.iload_n 2, 1) := by decide +kernel
theorem dX1_isAsSeen_49 : decode cX1_isAsSeen 49 = .ok (.if_icmp .eq 30, 3) := by decide +kernel
theorem dX1_isAsSeen_52 : decode cX1_isAsSeen 52 = .ok (.aload_n 3, 1) := by decide +kernel
theorem dX1_isAsSeen_53 : decode cX1_isAsSeen 53 = .ok (.iload 5, 2) := by decide +kernel
theorem dX1_isAsSeen_55 : decode cX1_isAsSeen 55 = .ok (.iload 6, 2) := by decide +kernel
theorem dX1_isAsSeen_57 : decode cX1_isAsSeen 57 = .ok (.invokevirtual 48, 3) := by decide +kernel
theorem dX1_isAsSeen_60 : decode cX1_isAsSeen 60 = .ok (.i2l, 1) := by decide +kernel
theorem dX1_isAsSeen_61 : decode cX1_isAsSeen 61 = .ok (.aload_n 0, 1) := by decide +kernel
theorem dX1_isAsSeen_62 : decode cX1_isAsSeen 62 = .ok (.getfield 23, 3) := by decide +kernel
theorem dX1_isAsSeen_65 : decode cX1_isAsSeen 65 = .ok (.iload_n 1, 1) := by decide +kernel
theorem dX1_isAsSeen_66 : decode cX1_isAsSeen 66 = .ok (.iload 4, 2) := by decide +kernel
theorem dX1_isAsSeen_68 : decode cX1_isAsSeen 68 = .ok (.iconst 2, 1) := by decide +kernel
theorem dX1_isAsSeen_69 : decode cX1_isAsSeen 69 = .ok (.iadd, 1) := by decide +kernel
theorem dX1_isAsSeen_70 : decode cX1_isAsSeen 70 = .ok (.invokevirtual 33, 3) := by decide +kernel
theorem dX1_isAsSeen_73 : decode cX1_isAsSeen 73 = .ok (.lcmp, 1) := by decide +kernel
theorem dX1_isAsSeen_74 : decode cX1_isAsSeen 74 = .ok (.ifCond .eq 5, 3) := by decide +kernel
theorem dX1_isAsSeen_77 : decode cX1_isAsSeen 77 = .ok (.iconst 0, 1) := by decide +kernel
theorem dX1_isAsSeen_78 : decode cX1_isAsSeen 78 = .ok (.ireturn, 1) := by decide +kernel
theorem dX1_isAsSeen_79 : decode cX1_isAsSeen 79 = .ok (.iinc 4 3, 3) := by decide +kernel
theorem dX1_isAsSeen_82 : decode cX1_isAsSeen 82 = .ok (.goto (-79), 3) := by decide +kernel
theorem dX1_isAsSeen_85 : decode cX1_isAsSeen 85 = .ok (.iconst 1, 1) := by decide +kernel
theorem dX1_isAsSeen_86 : decode cX1_isAsSeen 86 = .ok (.ireturn, 1) := by decide +kernel
theorem dX1_isSeenRow_0 : decode cX1_isSeenRow 0 = .ok (.aload_n 0, 1) := by decide +kernel
theorem dX1_isSeenRow_1 : decode cX1_isSeenRow 1 = .ok (.getfield 23, 3) := by decide +kernel
theorem dX1_isSeenRow_4 : decode cX1_isSeenRow 4 = .ok (.iload_n 1, 1) := by decide +kernel
theorem dX1_isSeenRow_5 : decode cX1_isSeenRow 5 = .ok (.invokevirtual 27, 3) := by decide +kernel
theorem dX1_isSeenRow_8 : decode cX1_isSeenRow 8 = .ok (.istore_n 2, 1) := by decide +kernel
theorem dX1_isSeenRow_9 : decode cX1_isSeenRow 9 = .ok (.iconst 0, 1) := by decide +kernel
theorem dX1_isSeenRow_10 : decode cX1_isSeenRow 10 = .ok (.istore_n 3, 1) := by decide +kernel
theorem dX1_isSeenRow_11 : decode cX1_isSeenRow 11 = .ok (.iload_n 3, 1) := by decide +kernel
theorem dX1_isSeenRow_12 : decode cX1_isSeenRow 12 = .ok (.iconst 2, 1) := by decide +kernel
theorem dX1_isSeenRow_13 : decode cX1_isSeenRow 13 = .ok (.iadd, 1) := by decide +kernel
theorem dX1_isSeenRow_14 : decode cX1_isSeenRow 14 = .ok (.iload_n 2, 1) := by decide +kernel
theorem dX1_isSeenRow_15 : decode cX1_isSeenRow 15 = .ok (.if_icmp .ge 106, 3) := by decide +kernel
theorem dX1_isSeenRow_18 : decode cX1_isSeenRow 18 = .ok (.aload_n 0, 1) := by decide +kernel
theorem dX1_isSeenRow_19 : decode cX1_isSeenRow 19 = .ok (.getfield 23, 3) := by decide +kernel
theorem dX1_isSeenRow_22 : decode cX1_isSeenRow 22 = .ok (.iload_n 1, 1) := by decide +kernel
theorem dX1_isSeenRow_23 : decode cX1_isSeenRow 23 = .ok (.iload_n 3, 1) := by decide +kernel
theorem dX1_isSeenRow_24 : decode cX1_isSeenRow 24 = .ok (.invokevirtual 33, 3) := by decide +kernel
theorem dX1_isSeenRow_27 : decode cX1_isSeenRow 27 = .ok (.lstore 4, 2) := by decide +kernel
theorem dX1_isSeenRow_29 : decode cX1_isSeenRow 29 = .ok (.aload_n 0, 1) := by decide +kernel
theorem dX1_isSeenRow_30 : decode cX1_isSeenRow 30 = .ok (.getfield 23, 3) := by decide +kernel
theorem dX1_isSeenRow_33 : decode cX1_isSeenRow 33 = .ok (.iload_n 1, 1) := by decide +kernel
theorem dX1_isSeenRow_34 : decode cX1_isSeenRow 34 = .ok (.iload_n 3, 1) := by decide +kernel
theorem dX1_isSeenRow_35 : decode cX1_isSeenRow 35 = .ok (.iconst 1, 1) := by decide +kernel
theorem dX1_isSeenRow_36 : decode cX1_isSeenRow 36 = .ok (.iadd, 1) := by decide +kernel
theorem dX1_isSeenRow_37 : decode cX1_isSeenRow 37 = .ok (.invokevirtual 33, 3) := by decide +kernel
theorem dX1_isSeenRow_40 : decode cX1_isSeenRow 40 = .ok (.lstore 6, 2) := by decide +kernel
theorem dX1_isSeenRow_42 : decode cX1_isSeenRow 42 = .ok (.aload_n 0, 1) := by decide +kernel
theorem dX1_isSeenRow_43 : decode cX1_isSeenRow 43 = .ok (.getfield 23, 3) := by decide +kernel
theorem dX1_isSeenRow_46 : decode cX1_isSeenRow 46 = .ok (.iload_n 1, 1) := by decide +kernel
theorem dX1_isSeenRow_47 : decode cX1_isSeenRow 47 = .ok (.iload_n 3, 1) := by decide +kernel
theorem dX1_isSeenRow_48 : decode cX1_isSeenRow 48 = .ok (.iconst 2, 1) := by decide +kernel
theorem dX1_isSeenRow_49 : decode cX1_isSeenRow 49 = .ok (.iadd, 1) := by decide +kernel
theorem dX1_isSeenRow_50 : decode cX1_isSeenRow 50 = .ok (.invokevirtual 33, 3) := by decide +kernel
theorem dX1_isSeenRow_53 : decode cX1_isSeenRow 53 = .ok (.lstore 8, 2) := by decide +kernel
theorem dX1_isSeenRow_55 : decode cX1_isSeenRow 55 = .ok (.lload 4, 2) := by decide +kernel
theorem dX1_isSeenRow_57 : decode cX1_isSeenRow 57 = .ok (.lconst 0, 1) := by decide +kernel
theorem dX1_isSeenRow_58 : decode cX1_isSeenRow 58 = .ok (.lcmp, 1) := by decide +kernel
theorem dX1_isSeenRow_59 : decode cX1_isSeenRow 59 = .ok (.ifCond .lt 54, 3) := by decide +kernel
theorem dX1_isSeenRow_62 : decode cX1_isSeenRow 62 = .ok (.lload 4, 2) := by decide +kernel
theorem dX1_isSeenRow_64 : decode cX1_isSeenRow 64 = .ok (.aload_n 0, 1) := by decide +kernel
theorem dX1_isSeenRow_65 : decode cX1_isSeenRow 65 = .ok (.getfield 19, 3) := by decide +kernel
theorem dX1_isSeenRow_68 : decode cX1_isSeenRow 68 = .ok (.getfield 37, 3) := by decide +kernel
theorem dX1_isSeenRow_71 : decode cX1_isSeenRow 71 = .ok (.i2l, 1) := by decide +kernel
theorem dX1_isSeenRow_72 : decode cX1_isSeenRow 72 = .ok (.lcmp, 1) := by decide +kernel
theorem dX1_isSeenRow_73 : decode cX1_isSeenRow 73 = .ok (.ifCond .ge 40, 3) := by decide +kernel
theorem dX1_isSeenRow_76 : decode cX1_isSeenRow 76 = .ok (.lload 6, 2) := by decide +kernel
theorem dX1_isSeenRow_78 : decode cX1_isSeenRow 78 = .ok (.lconst 0, 1) := by decide +kernel
theorem dX1_isSeenRow_79 : decode cX1_isSeenRow 79 = .ok (.lcmp, 1) := by decide +kernel
theorem dX1_isSeenRow_80 : decode cX1_isSeenRow 80 = .ok (.ifCond .lt 33, 3) := by decide +kernel
theorem dX1_isSeenRow_83 : decode cX1_isSeenRow 83 = .ok (.lload 6, 2) := by decide +kernel
theorem dX1_isSeenRow_85 : decode cX1_isSeenRow 85 = .ok (.aload_n 0, 1) := by decide +kernel
theorem dX1_isSeenRow_86 : decode cX1_isSeenRow 86 = .ok (.getfield 19, 3) := by decide +kernel
theorem dX1_isSeenRow_89 : decode cX1_isSeenRow 89 = .ok (.getfield 43, 3) := by decide +kernel
theorem dX1_isSeenRow_92 : decode cX1_isSeenRow 92 = .ok (.i2l, 1) := by decide +kernel
theorem dX1_isSeenRow_93 : decode cX1_isSeenRow 93 = .ok (.lcmp, 1) := by decide +kernel
theorem dX1_isSeenRow_94 : decode cX1_isSeenRow 94 = .ok (.ifCond .gt 19, 3) := by decide +kernel
theorem dX1_isSeenRow_97 : decode cX1_isSeenRow 97 = .ok (.lload 8, 2) := by decide +kernel
theorem dX1_isSeenRow_99 : decode cX1_isSeenRow 99 = .ok (.lconst 0, 1) := by decide +kernel
theorem dX1_isSeenRow_100 : decode cX1_isSeenRow 100 = .ok (.lcmp, 1) := by decide +kernel
theorem dX1_isSeenRow_101 : decode cX1_isSeenRow 101 = .ok (.ifCond .lt 12, 3) := by decide +kernel
theorem dX1_isSeenRow_104 : decode cX1_isSeenRow 104 = .ok (.lload 8, 2) := by decide +kernel
theorem dX1_isSeenRow_106 : decode cX1_isSeenRow 106 = .ok (.ldc2_w 46, 3) := by decide +kernel
theorem dX1_isSeenRow_109 : decode cX1_isSeenRow 109 = .ok (.lcmp, 1) := by decide +kernel
theorem dX1_isSeenRow_110 : decode cX1_isSeenRow 110 = .ok (.ifCond .le 5, 3) := by decide +kernel
theorem dX1_isSeenRow_113 : decode cX1_isSeenRow 113 = .ok (.iconst 0, 1) := by decide +kernel
theorem dX1_isSeenRow_114 : decode cX1_isSeenRow 114 = .ok (.ireturn, 1) := by decide +kernel
theorem dX1_isSeenRow_115 : decode cX1_isSeenRow 115 = .ok (.iinc 3 3, 3) := by decide +kernel
theorem dX1_isSeenRow_118 : decode cX1_isSeenRow 118 = .ok (.goto (-107), 3) := by decide +kernel
theorem dX1_isSeenRow_121 : decode cX1_isSeenRow 121 = .ok (.iload_n 2, 1) := by decide +kernel
theorem dX1_isSeenRow_122 : decode cX1_isSeenRow 122 = .ok (.iconst 3, 1) := by decide +kernel
theorem dX1_isSeenRow_123 : decode cX1_isSeenRow 123 = .ok (.irem, 1) := by decide +kernel
theorem dX1_isSeenRow_124 : decode cX1_isSeenRow 124 = .ok (.ifCond .ne 7, 3) := by decide +kernel
theorem dX1_isSeenRow_127 : decode cX1_isSeenRow 127 = .ok (.iconst 1, 1) := by decide +kernel
theorem dX1_isSeenRow_128 : decode cX1_isSeenRow 128 = .ok (.goto 4, 3) := by decide +kernel
theorem dX1_isSeenRow_131 : decode cX1_isSeenRow 131 = .ok (.iconst 0, 1) := by decide +kernel
theorem dX1_isSeenRow_132 : decode cX1_isSeenRow 132 = .ok (.ireturn, 1) := by decide +kernel
theorem dX1_isTraceAsSeen_0 : decode cX1_isTraceAsSeen 0 = .ok (.iconst 0, 1) := by decide +kernel
theorem dX1_isTraceAsSeen_1 : decode cX1_isTraceAsSeen 1 = .ok (.istore 4, 2) := by decide +kernel
theorem dX1_isTraceAsSeen_3 : decode cX1_isTraceAsSeen 3 = .ok (.iload 4, 2) := by decide +kernel
theorem dX1_isTraceAsSeen_5 : decode cX1_isTraceAsSeen 5 = .ok (.iconst 2, 1) := by decide +kernel
theorem dX1_isTraceAsSeen_6 : decode cX1_isTraceAsSeen 6 = .ok (.iadd, 1) := by decide +kernel
theorem dX1_isTraceAsSeen_7 : decode cX1_isTraceAsSeen 7 = .ok (.aload_n 0, 1) := by decide +kernel
theorem dX1_isTraceAsSeen_8 : decode cX1_isTraceAsSeen 8 = .ok (.getfield 23, 3) := by decide +kernel
theorem dX1_isTraceAsSeen_11 : decode cX1_isTraceAsSeen 11 = .ok (.iload_n 1, 1) := by decide +kernel
theorem dX1_isTraceAsSeen_12 : decode cX1_isTraceAsSeen 12 = .ok (.invokevirtual 27, 3) := by decide +kernel
theorem dX1_isTraceAsSeen_15 : decode cX1_isTraceAsSeen 15 = .ok (.if_icmp .ge 66, 3) := by decide +kernel
theorem dX1_isTraceAsSeen_18 : decode cX1_isTraceAsSeen 18 = .ok (.aload_n 0, 1) := by decide +kernel
theorem dX1_isTraceAsSeen_19 : decode cX1_isTraceAsSeen 19 = .ok (.getfield 23, 3) := by decide +kernel
theorem dX1_isTraceAsSeen_22 : decode cX1_isTraceAsSeen 22 = .ok (.iload_n 1, 1) := by decide +kernel
theorem dX1_isTraceAsSeen_23 : decode cX1_isTraceAsSeen 23 = .ok (.iload 4, 2) := by decide +kernel
theorem dX1_isTraceAsSeen_25 : decode cX1_isTraceAsSeen 25 = .ok (.iconst 1, 1) := by decide +kernel
theorem dX1_isTraceAsSeen_26 : decode cX1_isTraceAsSeen 26 = .ok (.iadd, 1) := by decide +kernel
theorem dX1_isTraceAsSeen_27 : decode cX1_isTraceAsSeen 27 = .ok (.invokevirtual 33, 3) := by decide +kernel
theorem dX1_isTraceAsSeen_30 : decode cX1_isTraceAsSeen 30 = .ok (.l2i, 1) := by decide +kernel
theorem dX1_isTraceAsSeen_31 : decode cX1_isTraceAsSeen 31 = .ok (.istore 5, 2) := by decide +kernel
theorem dX1_isTraceAsSeen_33 : decode cX1_isTraceAsSeen 33 = .ok (.aload_n 0, 1) := by decide +kernel
theorem dX1_isTraceAsSeen_34 : decode cX1_isTraceAsSeen 34 = .ok (.getfield 23, 3) := by decide +kernel
theorem dX1_isTraceAsSeen_37 : decode cX1_isTraceAsSeen 37 = .ok (.iload_n 1, 1) := by decide +kernel
theorem dX1_isTraceAsSeen_38 : decode cX1_isTraceAsSeen 38 = .ok (.iload 4, 2) := by decide +kernel
theorem dX1_isTraceAsSeen_40 : decode cX1_isTraceAsSeen 40 = .ok (.invokevirtual 33, 3) := by decide +kernel
theorem dX1_isTraceAsSeen_43 : decode cX1_isTraceAsSeen 43 = .ok (.iload_n 2, 1) := by decide +kernel
theorem dX1_isTraceAsSeen_44 : decode cX1_isTraceAsSeen 44 = .ok (.i2l, 1) := by decide +kernel
theorem dX1_isTraceAsSeen_45 : decode cX1_isTraceAsSeen 45 = .ok (.lcmp, 1) := by decide +kernel
theorem dX1_isTraceAsSeen_46 : decode cX1_isTraceAsSeen 46 = .ok (.ifCond .ne 29, 3) := by decide +kernel
theorem dX1_isTraceAsSeen_49 : decode cX1_isTraceAsSeen 49 = .ok (.aload_n 3, 1) := by decide +kernel
theorem dX1_isTraceAsSeen_50 : decode cX1_isTraceAsSeen 50 = .ok (.getfield 65, 3) := by decide +kernel
theorem dX1_isTraceAsSeen_53 : decode cX1_isTraceAsSeen 53 = .ok (.iload 5, 2) := by decide +kernel
theorem dX1_isTraceAsSeen_55 : decode cX1_isTraceAsSeen 55 = .ok (.iaload, 1) := by decide +kernel
theorem dX1_isTraceAsSeen_56 : decode cX1_isTraceAsSeen 56 = .ok (.i2l, 1) := by decide +kernel
theorem dX1_isTraceAsSeen_57 : decode cX1_isTraceAsSeen 57 = .ok (.aload_n 0, 1) := by decide +kernel
theorem dX1_isTraceAsSeen_58 : decode cX1_isTraceAsSeen 58 = .ok (.getfield 23, 3) := by decide +kernel
theorem dX1_isTraceAsSeen_61 : decode cX1_isTraceAsSeen 61 = .ok (.iload_n 1, 1) := by decide +kernel
theorem dX1_isTraceAsSeen_62 : decode cX1_isTraceAsSeen 62 = .ok (.iload 4, 2) := by decide +kernel
theorem dX1_isTraceAsSeen_64 : decode cX1_isTraceAsSeen 64 = .ok (.iconst 2, 1) := by decide +kernel
theorem dX1_isTraceAsSeen_65 : decode cX1_isTraceAsSeen 65 = .ok (.iadd, 1) := by decide +kernel
theorem dX1_isTraceAsSeen_66 : decode cX1_isTraceAsSeen 66 = .ok (.invokevirtual 33, 3) := by decide +kernel
theorem dX1_isTraceAsSeen_69 : decode cX1_isTraceAsSeen 69 = .ok (.lcmp, 1) := by decide +kernel
theorem dX1_isTraceAsSeen_70 : decode cX1_isTraceAsSeen 70 = .ok (.ifCond .eq 5, 3) := by decide +kernel
theorem dX1_isTraceAsSeen_73 : decode cX1_isTraceAsSeen 73 = .ok (.iconst 0, 1) := by decide +kernel
theorem dX1_isTraceAsSeen_74 : decode cX1_isTraceAsSeen 74 = .ok (.ireturn, 1) := by decide +kernel
theorem dX1_isTraceAsSeen_75 : decode cX1_isTraceAsSeen 75 = .ok (.iinc 4 3, 3) := by decide +kernel
theorem dX1_isTraceAsSeen_78 : decode cX1_isTraceAsSeen 78 = .ok (.goto (-75), 3) := by decide +kernel
theorem dX1_isTraceAsSeen_81 : decode cX1_isTraceAsSeen 81 = .ok (.iconst 1, 1) := by decide +kernel
theorem dX1_isTraceAsSeen_82 : decode cX1_isTraceAsSeen 82 = .ok (.ireturn, 1) := by decide +kernel
theorem dX1_least_0 : decode cX1_least 0 = .ok (.iconst 0, 1) := by decide +kernel
theorem dX1_least_1 : decode cX1_least 1 = .ok (.istore_n 1, 1) := by decide +kernel
theorem dX1_least_2 : decode cX1_least 2 = .ok (.iload_n 1, 1) := by decide +kernel
theorem dX1_least_3 : decode cX1_least 3 = .ok (.bipush 60, 2) := by decide +kernel
theorem dX1_least_5 : decode cX1_least 5 = .ok (.if_icmp .gt 20, 3) := by decide +kernel
theorem dX1_least_8 : decode cX1_least 8 = .ok (.aload_n 0, 1) := by decide +kernel
theorem dX1_least_9 : decode cX1_least 9 = .ok (.getfield 9, 3) := by decide +kernel
theorem dX1_least_12 : decode cX1_least 12 = .ok (.iload_n 1, 1) := by decide +kernel
theorem dX1_least_13 : decode cX1_least 13 = .ok (.baload, 1) := by decide +kernel
theorem dX1_least_14 : decode cX1_least 14 = .ok (.ifCond .eq 5, 3) := by decide +kernel
theorem dX1_least_17 : decode cX1_least 17 = .ok (.iload_n 1, 1) := by decide +kernel
theorem dX1_least_18 : decode cX1_least 18 = .ok (.ireturn, 1) := by decide +kernel
theorem dX1_least_19 : decode cX1_least 19 = .ok (.iinc 1 1, 3) := by decide +kernel
theorem dX1_least_22 : decode cX1_least 22 = .ok (.goto (-20), 3) := by decide +kernel
theorem dX1_least_25 : decode cX1_least 25 = .ok (.iconst (-1), 1) := by decide +kernel
theorem dX1_least_26 : decode cX1_least 26 = .ok (.ireturn, 1) := by decide +kernel
theorem dX1_tallyTraces_0 : decode cX1_tallyTraces 0 = .ok (.aload_n 0, 1) := by decide +kernel
theorem dX1_tallyTraces_1 : decode cX1_tallyTraces 1 = .ok (.getfield 15, 3) := by decide +kernel
theorem dX1_tallyTraces_4 : decode cX1_tallyTraces 4 = .ok (.iconst 0, 1) := by decide +kernel
theorem dX1_tallyTraces_5 : decode cX1_tallyTraces 5 = .ok (.invokestatic 85, 3) := by decide +kernel
theorem dX1_tallyTraces_8 : decode cX1_tallyTraces 8 = .ok (.iconst 0, 1) := by decide +kernel
theorem dX1_tallyTraces_9 : decode cX1_tallyTraces 9 = .ok (.istore_n 3, 1) := by decide +kernel
theorem dX1_tallyTraces_10 : decode cX1_tallyTraces 10 = .ok (.iload_n 3, 1) := by decide +kernel
theorem dX1_tallyTraces_11 : decode cX1_tallyTraces 11 = .ok (.bipush 60, 2) := by decide +kernel
theorem dX1_tallyTraces_13 : decode cX1_tallyTraces 13 = .ok (.if_icmp .gt 75, 3) := by decide +kernel
theorem dX1_tallyTraces_16 : decode cX1_tallyTraces 16 = .ok (.aload_n 0, 1) := by decide +kernel
theorem dX1_tallyTraces_17 : decode cX1_tallyTraces 17 = .ok (.getfield 9, 3) := by decide +kernel
theorem dX1_tallyTraces_20 : decode cX1_tallyTraces 20 = .ok (.iload_n 3, 1) := by decide +kernel
theorem dX1_tallyTraces_21 : decode cX1_tallyTraces 21 = .ok (.baload, 1) := by decide +kernel
theorem dX1_tallyTraces_22 : decode cX1_tallyTraces 22 = .ok (.ifCond .eq 60, 3) := by decide +kernel
theorem dX1_tallyTraces_25 : decode cX1_tallyTraces 25 = .ok (.aload_n 2, 1) := by decide +kernel
theorem dX1_tallyTraces_26 : decode cX1_tallyTraces 26 = .ok (.iload_n 1, 1) := by decide +kernel
theorem dX1_tallyTraces_27 : decode cX1_tallyTraces 27 = .ok (.iload_n 3, 1) := by decide +kernel
theorem dX1_tallyTraces_28 : decode cX1_tallyTraces 28 = .ok (.aload_n 0, 1) := by decide +kernel
theorem dX1_tallyTraces_29 : decode cX1_tallyTraces 29 = .ok (.getfield 19, 3) := by decide +kernel
theorem dX1_tallyTraces_32 : decode cX1_tallyTraces 32 = .ok (.getfield 43, 3) := by decide +kernel
theorem dX1_tallyTraces_35 : decode cX1_tallyTraces 35 = .ok (.invokevirtual 58, 3) := by decide +kernel
theorem dX1_tallyTraces_38 : decode cX1_tallyTraces 38 = .ok (.pop, 1) := by decide +kernel
theorem dX1_tallyTraces_39 : decode cX1_tallyTraces 39 = .ok (.iconst 0, 1) := by decide +kernel
theorem dX1_tallyTraces_40 : decode cX1_tallyTraces 40 = .ok (.istore 4, 2) := by decide +kernel
theorem dX1_tallyTraces_42 : decode cX1_tallyTraces 42 = .ok (.iload 4, 2) := by decide +kernel
theorem dX1_tallyTraces_44 : decode cX1_tallyTraces 44 = .ok (.aload_n 0, 1) := by decide +kernel
theorem dX1_tallyTraces_45 : decode cX1_tallyTraces 45 = .ok (.getfield 19, 3) := by decide +kernel
theorem dX1_tallyTraces_48 : decode cX1_tallyTraces 48 = .ok (.getfield 43, 3) := by decide +kernel
theorem dX1_tallyTraces_51 : decode cX1_tallyTraces 51 = .ok (.if_icmp .gt 31, 3) := by decide +kernel
theorem dX1_tallyTraces_54 : decode cX1_tallyTraces 54 = .ok (.aload_n 0, 1) := by decide +kernel
theorem dX1_tallyTraces_55 : decode cX1_tallyTraces 55 = .ok (.getfield 15, 3) := by decide +kernel
theorem dX1_tallyTraces_58 : decode cX1_tallyTraces 58 = .ok (.iload 4, 2) := by decide +kernel
theorem dX1_tallyTraces_60 : decode cX1_tallyTraces 60 = .ok (.bipush 100, 2) := by decide +kernel
theorem dX1_tallyTraces_62 : decode cX1_tallyTraces 62 = .ok (.imul, 1) := by decide +kernel
theorem dX1_tallyTraces_63 : decode cX1_tallyTraces 63 = .ok (.aload_n 2, 1) := by decide +kernel
theorem dX1_tallyTraces_64 : decode cX1_tallyTraces 64 = .ok (.getfield 65, 3) := by decide +kernel
theorem dX1_tallyTraces_67 : decode cX1_tallyTraces 67 = .ok (.iload 4, 2) := by decide +kernel
theorem dX1_tallyTraces_69 : decode cX1_tallyTraces 69 = .ok (.iaload, 1) := by decide +kernel
theorem dX1_tallyTraces_70 : decode cX1_tallyTraces 70 = .ok (.iadd, 1) := by decide +kernel
theorem dX1_tallyTraces_71 : decode cX1_tallyTraces 71 = .ok (.dup2, 1) := by decide +kernel
theorem dX1_tallyTraces_72 : decode cX1_tallyTraces 72 = .ok (.iaload, 1) := by decide +kernel
theorem dX1_tallyTraces_73 : decode cX1_tallyTraces 73 = .ok (.iconst 1, 1) := by decide +kernel
theorem dX1_tallyTraces_74 : decode cX1_tallyTraces 74 = .ok (.iadd, 1) := by decide +kernel
theorem dX1_tallyTraces_75 : decode cX1_tallyTraces 75 = .ok (.iastore, 1) := by decide +kernel
theorem dX1_tallyTraces_76 : decode cX1_tallyTraces 76 = .ok (.iinc 4 1, 3) := by decide +kernel
theorem dX1_tallyTraces_79 : decode cX1_tallyTraces 79 = .ok (.goto (-37), 3) := by decide +kernel
theorem dX1_tallyTraces_82 : decode cX1_tallyTraces 82 = .ok (.iinc 3 1, 3) := by decide +kernel
theorem dX1_tallyTraces_85 : decode cX1_tallyTraces 85 = .ok (.goto (-75), 3) := by decide +kernel
theorem dX1_tallyTraces_88 : decode cX1_tallyTraces 88 = .ok (.return_, 1) := by decide +kernel
theorem dX1_worstIn_0 : decode cX1_worstIn 0 = .ok (.iconst 0, 1) := by decide +kernel
theorem dX1_worstIn_1 : decode cX1_worstIn 1 = .ok (.istore_n 2, 1) := by decide +kernel
theorem dX1_worstIn_2 : decode cX1_worstIn 2 = .ok (.iconst 0, 1) := by decide +kernel
theorem dX1_worstIn_3 : decode cX1_worstIn 3 = .ok (.istore_n 3, 1) := by decide +kernel
theorem dX1_worstIn_4 : decode cX1_worstIn 4 = .ok (.iload_n 3, 1) := by decide +kernel
theorem dX1_worstIn_5 : decode cX1_worstIn 5 = .ok (.bipush 100, 2) := by decide +kernel
theorem dX1_worstIn_7 : decode cX1_worstIn 7 = .ok (.if_icmp .ge 25, 3) := by decide +kernel
theorem dX1_worstIn_10 : decode cX1_worstIn 10 = .ok (.iload_n 2, 1) := by decide +kernel
theorem dX1_worstIn_11 : decode cX1_worstIn 11 = .ok (.aload_n 0, 1) := by decide +kernel
theorem dX1_worstIn_12 : decode cX1_worstIn 12 = .ok (.getfield 15, 3) := by decide +kernel
theorem dX1_worstIn_15 : decode cX1_worstIn 15 = .ok (.iload_n 1, 1) := by decide +kernel
theorem dX1_worstIn_16 : decode cX1_worstIn 16 = .ok (.bipush 100, 2) := by decide +kernel
theorem dX1_worstIn_18 : decode cX1_worstIn 18 = .ok (.imul, 1) := by decide +kernel
theorem dX1_worstIn_19 : decode cX1_worstIn 19 = .ok (.iload_n 3, 1) := by decide +kernel
theorem dX1_worstIn_20 : decode cX1_worstIn 20 = .ok (.iadd, 1) := by decide +kernel
theorem dX1_worstIn_21 : decode cX1_worstIn 21 = .ok (.iaload, 1) := by decide +kernel
theorem dX1_worstIn_22 : decode cX1_worstIn 22 = .ok (.invokestatic 91, 3) := by decide +kernel
theorem dX1_worstIn_25 : decode cX1_worstIn 25 = .ok (.istore_n 2, 1) := by decide +kernel
theorem dX1_worstIn_26 : decode cX1_worstIn 26 = .ok (.iinc 3 1, 3) := by decide +kernel
theorem dX1_worstIn_29 : decode cX1_worstIn 29 = .ok (.goto (-25), 3) := by decide +kernel
theorem dX1_worstIn_32 : decode cX1_worstIn 32 = .ok (.iload_n 2, 1) := by decide +kernel
theorem dX1_worstIn_33 : decode cX1_worstIn 33 = .ok (.ireturn, 1) := by decide +kernel
theorem dX2_addToOpen_0 : decode cX2_addToOpen 0 = .ok (.aload_n 0, 1) := by decide +kernel
theorem dX2_addToOpen_1 : decode cX2_addToOpen 1 = .ok (.getfield 19, 3) := by decide +kernel
theorem dX2_addToOpen_4 : decode cX2_addToOpen 4 = .ok (.aload_n 0, 1) := by decide +kernel
theorem dX2_addToOpen_5 : decode cX2_addToOpen 5 = .ok (.getfield 15, 3) := by decide +kernel
theorem dX2_addToOpen_8 : decode cX2_addToOpen 8 = .ok (.getfield 73, 3) := by decide +kernel
theorem dX2_addToOpen_11 : decode cX2_addToOpen 11 = .ok (.invokevirtual 76, 3) := by decide +kernel
theorem dX2_addToOpen_14 : decode cX2_addToOpen 14 = .ok (.istore_n 3, 1) := by decide +kernel
theorem dX2_addToOpen_15 : decode cX2_addToOpen 15 = .ok (.iconst 0, 1) := by decide +kernel
theorem dX2_addToOpen_16 : decode cX2_addToOpen 16 = .ok (.istore 4, 2) := by decide +kernel
theorem dX2_addToOpen_18 : decode cX2_addToOpen 18 = .ok (.iload 4, 2) := by decide +kernel
theorem dX2_addToOpen_20 : decode cX2_addToOpen 20 = .ok (.aload_n 0, 1) := by decide +kernel
theorem dX2_addToOpen_21 : decode cX2_addToOpen 21 = .ok (.getfield 15, 3) := by decide +kernel
theorem dX2_addToOpen_24 : decode cX2_addToOpen 24 = .ok (.getfield 80, 3) := by decide +kernel
theorem dX2_addToOpen_27 : decode cX2_addToOpen 27 = .ok (.if_icmp .ge 33, 3) := by decide +kernel
theorem dX2_addToOpen_30 : decode cX2_addToOpen 30 = .ok (.aload_n 0, 1) := by decide +kernel
theorem dX2_addToOpen_31 : decode cX2_addToOpen 31 = .ok (.getfield 9, 3) := by decide +kernel
theorem dX2_addToOpen_34 : decode cX2_addToOpen 34 = .ok (.iload 4, 2) := by decide +kernel
theorem dX2_addToOpen_36 : decode cX2_addToOpen 36 = .ok (.dup2, 1) := by decide +kernel
theorem dX2_addToOpen_37 : decode cX2_addToOpen 37 = .ok (.laload, 1) := by decide +kernel
theorem dX2_addToOpen_38 : decode cX2_addToOpen 38 = .ok (.iload_n 3, 1) := by decide +kernel
theorem dX2_addToOpen_39 : decode cX2_addToOpen 39 = .ok (.iload 4, 2) := by decide +kernel
theorem dX2_addToOpen_41 : decode cX2_addToOpen 41 = .ok (.invokestatic 66, 3) := by decide +kernel
theorem dX2_addToOpen_44 : decode cX2_addToOpen 44 = .ok (.ifCond .eq 7, 3) := by decide +kernel
theorem dX2_addToOpen_47 : decode cX2_addToOpen 47 = .ok (.lload_n 1, 1) := by decide +kernel
theorem dX2_addToOpen_48 : decode cX2_addToOpen 48 = .ok (.goto 4, 3) := by decide +kernel
theorem dX2_addToOpen_51 : decode cX2_addToOpen 51 = .ok (.lconst 0, 1) := by decide +kernel
theorem dX2_addToOpen_52 : decode cX2_addToOpen 52 = .ok (.ladd, 1) := by decide +kernel
theorem dX2_addToOpen_53 : decode cX2_addToOpen 53 = .ok (.lastore, 1) := by decide +kernel
theorem dX2_addToOpen_54 : decode cX2_addToOpen 54 = .ok (.iinc 4 1, 3) := by decide +kernel
theorem dX2_addToOpen_57 : decode cX2_addToOpen 57 = .ok (.goto (-39), 3) := by decide +kernel
theorem dX2_addToOpen_60 : decode cX2_addToOpen 60 = .ok (.return_, 1) := by decide +kernel
theorem dX2_weigh_0 : decode cX2_weigh 0 = .ok (.aload_n 0, 1) := by decide +kernel
theorem dX2_weigh_1 : decode cX2_weigh 1 = .ok (.getfield 19, 3) := by decide +kernel
theorem dX2_weigh_4 : decode cX2_weigh 4 = .ok (.iconst (-1), 1) := by decide +kernel
theorem dX2_weigh_5 : decode cX2_weigh 5 = .ok (.invokevirtual 23, 3) := by decide +kernel
theorem dX2_weigh_8 : decode cX2_weigh 8 = .ok (.aload_n 0, 1) := by decide +kernel
theorem dX2_weigh_9 : decode cX2_weigh 9 = .ok (.getfield 9, 3) := by decide +kernel
theorem dX2_weigh_12 : decode cX2_weigh 12 = .ok (.lconst 0, 1) := by decide +kernel
theorem dX2_weigh_13 : decode cX2_weigh 13 = .ok (.invokestatic 29, 3) := by decide +kernel
theorem dX2_weigh_16 : decode cX2_weigh 16 = .ok (.aload_n 0, 1) := by decide +kernel
theorem dX2_weigh_17 : decode cX2_weigh 17 = .ok (.lconst 0, 1) := by decide +kernel
theorem dX2_weigh_18 : decode cX2_weigh 18 = .ok (.putfield 35, 3) := by decide +kernel
theorem dX2_weigh_21 : decode cX2_weigh 21 = .ok (.aload_n 0, 1) := by decide +kernel
theorem dX2_weigh_22 : decode cX2_weigh 22 = .ok (.lconst 0, 1) := by decide +kernel
theorem dX2_weigh_23 : decode cX2_weigh 23 = .ok (.putfield 39, 3) := by decide +kernel
theorem dX2_weigh_26 : decode cX2_weigh 26 = .ok (.iconst 0, 1) := by decide +kernel
theorem dX2_weigh_27 : decode cX2_weigh 27 = .ok (.istore_n 1, 1) := by decide +kernel
theorem dX2_weigh_28 : decode cX2_weigh 28 = .ok (.iload_n 1, 1) := by decide +kernel
theorem dX2_weigh_29 : decode cX2_weigh 29 = .ok (.aload_n 0, 1) := by decide +kernel
theorem dX2_weigh_30 : decode cX2_weigh 30 = .ok (.getfield 15, 3) := by decide +kernel
theorem dX2_weigh_33 : decode cX2_weigh 33 = .ok (.invokevirtual 42, 3) := by decide +kernel
theorem dX2_weigh_36 : decode cX2_weigh 36 = .ok (.if_icmp .gt 63, 3) := by decide +kernel
theorem dX2_weigh_39 : decode cX2_weigh 39 = .ok (.aload_n 0, 1) := by decide +kernel
theorem dX2_weigh_40 : decode cX2_weigh 40 = .ok (.iload_n 1, 1) := by decide +kernel
theorem dX2_weigh_41 : decode cX2_weigh 41 = .ok (.invokevirtual 48, 3) := by decide +kernel
theorem dX2_weigh_44 : decode cX2_weigh 44 = .ok (.lstore_n 2, 1) := by decide +kernel
theorem dX2_weigh_45 : decode cX2_weigh 45 = .ok (.lload_n 2, 1) := by decide +kernel
theorem dX2_weigh_46 : decode cX2_weigh 46 = .ok (.lconst 0, 1) := by decide +kernel
theorem dX2_weigh_47 : decode cX2_weigh 47 = .ok (.lcmp, 1) := by decide +kernel
theorem dX2_weigh_48 : decode cX2_weigh 48 = .ok (.ifCond .le 45, 3) := by decide +kernel
theorem dX2_weigh_51 : decode cX2_weigh 51 = .ok (.aload_n 0, 1) := by decide +kernel
theorem dX2_weigh_52 : decode cX2_weigh 52 = .ok (.getfield 19, 3) := by decide +kernel
theorem dX2_weigh_55 : decode cX2_weigh 55 = .ok (.iload_n 1, 1) := by decide +kernel
theorem dX2_weigh_56 : decode cX2_weigh 56 = .ok (.invokevirtual 52, 3) := by decide +kernel
theorem dX2_weigh_59 : decode cX2_weigh 59 = .ok (.aload_n 0, 1) := by decide +kernel
theorem dX2_weigh_60 : decode cX2_weigh 60 = .ok (.dup, 1) := by decide +kernel
theorem dX2_weigh_61 : decode cX2_weigh 61 = .ok (.getfield 39, 3) := by decide +kernel
theorem dX2_weigh_64 : decode cX2_weigh 64 = .ok (.lload_n 2, 1) := by decide +kernel
theorem dX2_weigh_65 : decode cX2_weigh 65 = .ok (.ladd, 1) := by decide +kernel
theorem dX2_weigh_66 : decode cX2_weigh 66 = .ok (.putfield 39, 3) := by decide +kernel
theorem dX2_weigh_69 : decode cX2_weigh 69 = .ok (.aload_n 0, 1) := by decide +kernel
theorem dX2_weigh_70 : decode cX2_weigh 70 = .ok (.dup, 1) := by decide +kernel
theorem dX2_weigh_71 : decode cX2_weigh 71 = .ok (.getfield 35, 3) := by decide +kernel
theorem dX2_weigh_74 : decode cX2_weigh 74 = .ok (.lload_n 2, 1) := by decide +kernel
theorem dX2_weigh_75 : decode cX2_weigh 75 = .ok (.aload_n 0, 1) := by decide +kernel
theorem dX2_weigh_76 : decode cX2_weigh 76 = .ok (.getfield 19, 3) := by decide +kernel
theorem dX2_weigh_79 : decode cX2_weigh 79 = .ok (.invokevirtual 55, 3) := by decide +kernel
theorem dX2_weigh_82 : decode cX2_weigh 82 = .ok (.i2l, 1) := by decide +kernel
theorem dX2_weigh_83 : decode cX2_weigh 83 = .ok (.lmul, 1) := by decide +kernel
theorem dX2_weigh_84 : decode cX2_weigh 84 = .ok (.ladd, 1) := by decide +kernel
theorem dX2_weigh_85 : decode cX2_weigh 85 = .ok (.putfield 35, 3) := by decide +kernel
theorem dX2_weigh_88 : decode cX2_weigh 88 = .ok (.aload_n 0, 1) := by decide +kernel
theorem dX2_weigh_89 : decode cX2_weigh 89 = .ok (.lload_n 2, 1) := by decide +kernel
theorem dX2_weigh_90 : decode cX2_weigh 90 = .ok (.invokevirtual 58, 3) := by decide +kernel
theorem dX2_weigh_93 : decode cX2_weigh 93 = .ok (.iinc 1 1, 3) := by decide +kernel
theorem dX2_weigh_96 : decode cX2_weigh 96 = .ok (.goto (-68), 3) := by decide +kernel
theorem dX2_weigh_99 : decode cX2_weigh 99 = .ok (.return_, 1) := by decide +kernel
theorem dX2_weightOf_0 : decode cX2_weightOf 0 = .ok (.lconst 1, 1) := by decide +kernel
theorem dX2_weightOf_1 : decode cX2_weightOf 1 = .ok (.lstore_n 2, 1) := by decide +kernel
theorem dX2_weightOf_2 : decode cX2_weightOf 2 = .ok (.iconst 0, 1) := by decide +kernel
theorem dX2_weightOf_3 : decode cX2_weightOf 3 = .ok (.istore 4, 2) := by decide +kernel
theorem dX2_weightOf_5 : decode cX2_weightOf 5 = .ok (.iload 4, 2) := by decide +kernel
theorem dX2_weightOf_7 : decode cX2_weightOf 7 = .ok (.aload_n 0, 1) := by decide +kernel
theorem dX2_weightOf_8 : decode cX2_weightOf 8 = .ok (.getfield 15, 3) := by decide +kernel
theorem dX2_weightOf_11 : decode cX2_weightOf 11 = .ok (.getfield 62, 3) := by decide +kernel
theorem dX2_weightOf_14 : decode cX2_weightOf 14 = .ok (.if_icmp .ge 43, 3) := by decide +kernel
theorem dX2_weightOf_17 : decode cX2_weightOf 17 = .ok (.lload_n 2, 1) := by decide +kernel
theorem dX2_weightOf_18 : decode cX2_weightOf 18 = .ok (.iload_n 1, 1) := by decide +kernel
theorem dX2_weightOf_19 : decode cX2_weightOf 19 = .ok (.iload 4, 2) := by decide +kernel
theorem dX2_weightOf_21 : decode cX2_weightOf 21 = .ok (.invokestatic 66, 3) := by decide +kernel
theorem dX2_weightOf_24 : decode cX2_weightOf 24 = .ok (.ifCond .eq 14, 3) := by decide +kernel
theorem dX2_weightOf_27 : decode cX2_weightOf 27 = .ok (.aload_n 0, 1) := by decide +kernel
theorem dX2_weightOf_28 : decode cX2_weightOf 28 = .ok (.getfield 15, 3) := by decide +kernel
theorem dX2_weightOf_31 : decode cX2_weightOf 31 = .ok (.getfield 70, 3) := by decide +kernel
theorem dX2_weightOf_34 : decode cX2_weightOf 34 = .ok (.i2l, 1) := by decide +kernel
theorem dX2_weightOf_35 : decode cX2_weightOf 35 = .ok (.goto 14, 3) := by decide +kernel
theorem dX2_weightOf_38 : decode cX2_weightOf 38 = .ok (.bipush 10, 2) := by decide +kernel
theorem dX2_weightOf_40 : decode cX2_weightOf 40 = .ok (.aload_n 0, 1) := by decide +kernel
theorem dX2_weightOf_41 : decode cX2_weightOf 41 = .ok (.getfield 15, 3) := by decide +kernel
theorem dX2_weightOf_44 : decode cX2_weightOf 44 = .ok (.getfield 70, 3) := by decide +kernel
theorem dX2_weightOf_47 : decode cX2_weightOf 47 = .ok (.isub, 1) := by decide +kernel
theorem dX2_weightOf_48 : decode cX2_weightOf 48 = .ok (.i2l, 1) := by decide +kernel
theorem dX2_weightOf_49 : decode cX2_weightOf 49 = .ok (.lmul, 1) := by decide +kernel
theorem dX2_weightOf_50 : decode cX2_weightOf 50 = .ok (.lstore_n 2, 1) := by decide +kernel
theorem dX2_weightOf_51 : decode cX2_weightOf 51 = .ok (.iinc 4 1, 3) := by decide +kernel
theorem dX2_weightOf_54 : decode cX2_weightOf 54 = .ok (.goto (-49), 3) := by decide +kernel
theorem dX2_weightOf_57 : decode cX2_weightOf 57 = .ok (.lload_n 2, 1) := by decide +kernel
theorem dX2_weightOf_58 : decode cX2_weightOf 58 = .ok (.lreturn, 1) := by decide +kernel
theorem dX3_advance_0 : decode cX3_advance 0 = .ok (.aload_n 0, 1) := by decide +kernel
theorem dX3_advance_1 : decode cX3_advance 1 = .ok (.aload_n 0, 1) := by decide +kernel
theorem dX3_advance_2 : decode cX3_advance 2 = .ok (.getfield 31, 3) := by decide +kernel
theorem dX3_advance_5 : decode cX3_advance 5 = .ok (.putfield 137, 3) := by decide +kernel
theorem dX3_advance_8 : decode cX3_advance 8 = .ok (.aload_n 0, 1) := by decide +kernel
theorem dX3_advance_9 : decode cX3_advance 9 = .ok (.getfield 137, 3) := by decide +kernel
theorem dX3_advance_12 : decode cX3_advance 12 = .ok (.aload_n 0, 1) := by decide +kernel
theorem dX3_advance_13 : decode cX3_advance 13 = .ok (.getfield 15, 3) := by decide +kernel
theorem dX3_advance_16 : decode cX3_advance 16 = .ok (.getfield 140, 3) := by decide +kernel
theorem dX3_advance_19 : decode cX3_advance 19 = .ok (.if_icmp .ge 48, 3) := by decide +kernel
theorem dX3_advance_22 : decode cX3_advance 22 = .ok (.aload_n 0, 1) := by decide +kernel
theorem dX3_advance_23 : decode cX3_advance 23 = .ok (.getfield 15, 3) := by decide +kernel
theorem dX3_advance_26 : decode cX3_advance 26 = .ok (.aload_n 0, 1) := by decide +kernel
theorem dX3_advance_27 : decode cX3_advance 27 = .ok (.getfield 137, 3) := by decide +kernel
theorem dX3_advance_30 : decode cX3_advance 30 = .ok (.invokevirtual 145, 3) := by decide +kernel
theorem dX3_advance_33 : decode cX3_advance 33 = .ok (.bipush 32, 2) := by decide +kernel
theorem dX3_advance_35 : decode cX3_advance 35 = .ok (.if_icmp .eq 19, 3) := by decide +kernel
theorem dX3_advance_38 : decode cX3_advance 38 = .ok (.aload_n 0, 1) := by decide +kernel
theorem dX3_advance_39 : decode cX3_advance 39 = .ok (.getfield 15, 3) := by decide +kernel
theorem dX3_advance_42 : decode cX3_advance 42 = .ok (.aload_n 0, 1) := by decide +kernel
theorem dX3_advance_43 : decode cX3_advance 43 = .ok (.getfield 137, 3) := by decide +kernel
theorem dX3_advance_46 : decode cX3_advance 46 = .ok (.invokevirtual 145, 3) := by decide +kernel
theorem dX3_advance_49 : decode cX3_advance 49 = .ok (.bipush 10, 2) := by decide +kernel
theorem dX3_advance_51 : decode cX3_advance 51 = .ok (.if_icmp .ne 16, 3) := by decide +kernel
theorem dX3_advance_54 : decode cX3_advance 54 = .ok (.aload_n 0, 1) := by decide +kernel
theorem dX3_advance_55 : decode cX3_advance 55 = .ok (.dup, 1) := by decide +kernel
theorem dX3_advance_56 : decode cX3_advance 56 = .ok (.getfield 137, 3) := by decide +kernel
theorem dX3_advance_59 : decode cX3_advance 59 = .ok (.iconst 1, 1) := by decide +kernel
theorem dX3_advance_60 : decode cX3_advance 60 = .ok (.iadd, 1) := by decide +kernel
theorem dX3_advance_61 : decode cX3_advance 61 = .ok (.putfield 137, 3) := by decide +kernel
theorem dX3_advance_64 : decode cX3_advance 64 = .ok (.goto (-56), 3) := by decide +kernel
theorem dX3_advance_67 : decode cX3_advance 67 = .ok (.aload_n 0, 1) := by decide +kernel
theorem dX3_advance_68 : decode cX3_advance 68 = .ok (.aload_n 0, 1) := by decide +kernel
theorem dX3_advance_69 : decode cX3_advance 69 = .ok (.getfield 15, 3) := by decide +kernel
theorem dX3_advance_72 : decode cX3_advance 72 = .ok (.aload_n 0, 1) := by decide +kernel
theorem dX3_advance_73 : decode cX3_advance 73 = .ok (.getfield 137, 3) := by decide +kernel
theorem dX3_advance_76 : decode cX3_advance 76 = .ok (.invokevirtual 145, 3) := by decide +kernel
theorem dX3_advance_79 : decode cX3_advance 79 = .ok (.invokestatic 148, 3) := by decide +kernel
theorem dX3_advance_82 : decode cX3_advance 82 = .ok (.putfield 37, 3) := by decide +kernel
theorem dX3_advance_85 : decode cX3_advance 85 = .ok (.aload_n 0, 1) := by decide +kernel
theorem dX3_advance_86 : decode cX3_advance 86 = .ok (.aload_n 0, 1) := by decide +kernel
theorem dX3_advance_87 : decode cX3_advance 87 = .ok (.getfield 37, 3) := by decide +kernel
theorem dX3_advance_90 : decode cX3_advance 90 = .ok (.ifCond .ne 10, 3) := by decide +kernel
theorem dX3_advance_93 : decode cX3_advance 93 = .ok (.aload_n 0, 1) := by decide +kernel
theorem dX3_advance_94 : decode cX3_advance 94 = .ok (.getfield 137, 3) := by decide +kernel
theorem dX3_advance_97 : decode cX3_advance 97 = .ok (.goto 9, 3) := by decide +kernel
theorem dX3_advance_100 : decode cX3_advance 100 = .ok (.aload_n 0, 1) := by decide +kernel
theorem dX3_advance_101 : decode cX3_advance 101 = .ok (.getfield 137, 3) := by decide +kernel
theorem dX3_advance_104 : decode cX3_advance 104 = .ok (.iconst 1, 1) := by decide +kernel
theorem dX3_advance_105 : decode cX3_advance 105 = .ok (.iadd, 1) := by decide +kernel
theorem dX3_advance_106 : decode cX3_advance 106 = .ok (.putfield 31, 3) := by decide +kernel
theorem dX3_advance_109 : decode cX3_advance 109 = .ok (.aload_n 0, 1) := by decide +kernel
theorem dX3_advance_110 : decode cX3_advance 110 = .ok (.getfield 37, 3) := by decide +kernel
theorem dX3_advance_113 : decode cX3_advance 113 = .ok (.iconst 1, 1) := by decide +kernel
theorem dX3_advance_114 : decode cX3_advance 114 = .ok (.if_icmp .eq 11, 3) := by decide +kernel
theorem dX3_advance_117 : decode cX3_advance 117 = .ok (.aload_n 0, 1) := by decide +kernel
theorem dX3_advance_118 : decode cX3_advance 118 = .ok (.getfield 37, 3) := by decide +kernel
theorem dX3_advance_121 : decode cX3_advance 121 = .ok (.iconst 2, 1) := by decide +kernel
theorem dX3_advance_122 : decode cX3_advance 122 = .ok (.if_icmp .ne 7, 3) := by decide +kernel
theorem dX3_advance_125 : decode cX3_advance 125 = .ok (.iconst 1, 1) := by decide +kernel
theorem dX3_advance_126 : decode cX3_advance 126 = .ok (.goto 4, 3) := by decide +kernel
theorem dX3_advance_129 : decode cX3_advance 129 = .ok (.iconst 0, 1) := by decide +kernel
theorem dX3_advance_130 : decode cX3_advance 130 = .ok (.istore_n 1, 1) := by decide +kernel
theorem dX3_advance_131 : decode cX3_advance 131 = .ok (.iload_n 1, 1) := by decide +kernel
theorem dX3_advance_132 : decode cX3_advance 132 = .ok (.ifCond .eq 51, 3) := by decide +kernel
theorem dX3_advance_135 : decode cX3_advance 135 = .ok (.aload_n 0, 1) := by decide +kernel
theorem dX3_advance_136 : decode cX3_advance 136 = .ok (.getfield 31, 3) := by decide +kernel
theorem dX3_advance_139 : decode cX3_advance 139 = .ok (.aload_n 0, 1) := by decide +kernel
theorem dX3_advance_140 : decode cX3_advance 140 = .ok (.getfield 15, 3) := by decide +kernel
theorem dX3_advance_143 : decode cX3_advance 143 = .ok (.getfield 140, 3) := by decide +kernel
theorem dX3_advance_146 : decode cX3_advance 146 = .ok (.if_icmp .ge 37, 3) := by decide +kernel
theorem dX3_advance_149 : decode cX3_advance 149 = .ok (.aload_n 0, 1) := by decide +kernel
theorem dX3_advance_150 : decode cX3_advance 150 = .ok (.getfield 15, 3) := by decide +kernel
theorem dX3_advance_153 : decode cX3_advance 153 = .ok (.aload_n 0, 1) := by decide +kernel
theorem dX3_advance_154 : decode cX3_advance 154 = .ok (.getfield 31, 3) := by decide +kernel
theorem dX3_advance_157 : decode cX3_advance 157 = .ok (.invokevirtual 145, 3) := by decide +kernel
theorem dX3_advance_160 : decode cX3_advance 160 = .ok (.invokestatic 148, 3) := by decide +kernel
theorem dX3_advance_163 : decode cX3_advance 163 = .ok (.aload_n 0, 1) := by decide +kernel
theorem dX3_advance_164 : decode cX3_advance 164 = .ok (.getfield 37, 3) := by decide +kernel
theorem dX3_advance_167 : decode cX3_advance 167 = .ok (.if_icmp .ne 16, 3) := by decide +kernel
theorem dX3_advance_170 : decode cX3_advance 170 = .ok (.aload_n 0, 1) := by decide +kernel
theorem dX3_advance_171 : decode cX3_advance 171 = .ok (.dup, 1) := by decide +kernel
theorem dX3_advance_172 : decode cX3_advance 172 = .ok (.getfield 31, 3) := by decide +kernel
theorem dX3_advance_175 : decode cX3_advance 175 = .ok (.iconst 1, 1) := by decide +kernel
theorem dX3_advance_176 : decode cX3_advance 176 = .ok (.iadd, 1) := by decide +kernel
theorem dX3_advance_177 : decode cX3_advance 177 = .ok (.putfield 31, 3) := by decide +kernel
theorem dX3_advance_180 : decode cX3_advance 180 = .ok (.goto (-49), 3) := by decide +kernel
theorem dX3_advance_183 : decode cX3_advance 183 = .ok (.aload_n 0, 1) := by decide +kernel
theorem dX3_advance_184 : decode cX3_advance 184 = .ok (.iconst 0, 1) := by decide +kernel
theorem dX3_advance_185 : decode cX3_advance 185 = .ok (.putfield 118, 3) := by decide +kernel
theorem dX3_advance_188 : decode cX3_advance 188 = .ok (.aload_n 0, 1) := by decide +kernel
theorem dX3_advance_189 : decode cX3_advance 189 = .ok (.getfield 137, 3) := by decide +kernel
theorem dX3_advance_192 : decode cX3_advance 192 = .ok (.istore_n 2, 1) := by decide +kernel
theorem dX3_advance_193 : decode cX3_advance 193 = .ok (.aload_n 0, 1) := by decide +kernel
theorem dX3_advance_194 : decode cX3_advance 194 = .ok (.getfield 37, 3) := by decide +kernel
theorem dX3_advance_197 : decode cX3_advance 197 = .ok (.iconst 2, 1) := by decide +kernel
theorem dX3_advance_198 : decode cX3_advance 198 = .ok (.if_icmp .ne 46, 3) := by decide +kernel
theorem dX3_advance_201 : decode cX3_advance 201 = .ok (.iload_n 2, 1) := by decide +kernel
theorem dX3_advance_202 : decode cX3_advance 202 = .ok (.aload_n 0, 1) := by decide +kernel
theorem dX3_advance_203 : decode cX3_advance 203 = .ok (.getfield 31, 3) := by decide +kernel
theorem dX3_advance_206 : decode cX3_advance 206 = .ok (.if_icmp .ge 38, 3) := by decide +kernel
theorem dX3_advance_209 : decode cX3_advance 209 = .ok (.aload_n 0, 1) := by decide +kernel
theorem dX3_advance_210 : decode cX3_advance 210 = .ok (.sipush 1000, 3) := by decide +kernel
theorem dX3_advance_213 : decode cX3_advance 213 = .ok (.aload_n 0, 1) := by decide +kernel
theorem dX3_advance_214 : decode cX3_advance 214 = .ok (.getfield 118, 3) := by decide +kernel
theorem dX3_advance_217 : decode cX3_advance 217 = .ok (.bipush 10, 2) := by decide +kernel
theorem dX3_advance_219 : decode cX3_advance 219 = .ok (.imul, 1) := by decide +kernel
theorem dX3_advance_220 : decode cX3_advance 220 = .ok (.aload_n 0, 1) := by decide +kernel
theorem dX3_advance_221 : decode cX3_advance 221 = .ok (.getfield 15, 3) := by decide +kernel
theorem dX3_advance_224 : decode cX3_advance 224 = .ok (.iload_n 2, 1) := by decide +kernel
theorem dX3_advance_225 : decode cX3_advance 225 = .ok (.invokevirtual 145, 3) := by decide +kernel
theorem dX3_advance_228 : decode cX3_advance 228 = .ok (.iadd, 1) := by decide +kernel
theorem dX3_advance_229 : decode cX3_advance 229 = .ok (.bipush 48, 2) := by decide +kernel
theorem dX3_advance_231 : decode cX3_advance 231 = .ok (.isub, 1) := by decide +kernel
theorem dX3_advance_232 : decode cX3_advance 232 = .ok (.invokestatic 151, 3) := by decide +kernel
theorem dX3_advance_235 : decode cX3_advance 235 = .ok (.putfield 118, 3) := by decide +kernel
theorem dX3_advance_238 : decode cX3_advance 238 = .ok (.iinc 2 1, 3) := by decide +kernel
theorem dX3_advance_241 : decode cX3_advance 241 = .ok (.goto (-48), 3) := by decide +kernel
theorem dX3_advance_244 : decode cX3_advance 244 = .ok (.return_, 1) := by decide +kernel
theorem dX3_isWord_0 : decode cX3_isWord 0 = .ok (.aload_n 0, 1) := by decide +kernel
theorem dX3_isWord_1 : decode cX3_isWord 1 = .ok (.getfield 37, 3) := by decide +kernel
theorem dX3_isWord_4 : decode cX3_isWord 4 = .ok (.iconst 1, 1) := by decide +kernel
theorem dX3_isWord_5 : decode cX3_isWord 5 = .ok (.if_icmp .ne 26, 3) := by decide +kernel
theorem dX3_isWord_8 : decode cX3_isWord 8 = .ok (.aload_n 0, 1) := by decide +kernel
theorem dX3_isWord_9 : decode cX3_isWord 9 = .ok (.getfield 28, 3) := by decide +kernel
theorem dX3_isWord_12 : decode cX3_isWord 12 = .ok (.ifCond .ne 19, 3) := by decide +kernel
theorem dX3_isWord_15 : decode cX3_isWord 15 = .ok (.aload_n 0, 1) := by decide +kernel
theorem dX3_isWord_16 : decode cX3_isWord 16 = .ok (.getfield 31, 3) := by decide +kernel
theorem dX3_isWord_19 : decode cX3_isWord 19 = .ok (.aload_n 0, 1) := by decide +kernel
theorem dX3_isWord_20 : decode cX3_isWord 20 = .ok (.getfield 137, 3) := by decide +kernel
theorem dX3_isWord_23 : decode cX3_isWord 23 = .ok (.isub, 1) := by decide +kernel
theorem dX3_isWord_24 : decode cX3_isWord 24 = .ok (.aload_n 1, 1) := by decide +kernel
theorem dX3_isWord_25 : decode cX3_isWord 25 = .ok (.invokevirtual 156, 3) := by decide +kernel
theorem dX3_isWord_28 : decode cX3_isWord 28 = .ok (.if_icmp .eq 5, 3) := by decide +kernel
theorem dX3_isWord_31 : decode cX3_isWord 31 = .ok (.iconst 0, 1) := by decide +kernel
theorem dX3_isWord_32 : decode cX3_isWord 32 = .ok (.ireturn, 1) := by decide +kernel
theorem dX3_isWord_33 : decode cX3_isWord 33 = .ok (.iconst 0, 1) := by decide +kernel
theorem dX3_isWord_34 : decode cX3_isWord 34 = .ok (.istore_n 2, 1) := by decide +kernel
theorem dX3_isWord_35 : decode cX3_isWord 35 = .ok (.iload_n 2, 1) := by decide +kernel
theorem dX3_isWord_36 : decode cX3_isWord 36 = .ok (.aload_n 1, 1) := by decide +kernel
theorem dX3_isWord_37 : decode cX3_isWord 37 = .ok (.invokevirtual 156, 3) := by decide +kernel
theorem dX3_isWord_40 : decode cX3_isWord 40 = .ok (.if_icmp .ge 32, 3) := by decide +kernel
theorem dX3_isWord_43 : decode cX3_isWord 43 = .ok (.aload_n 0, 1) := by decide +kernel
theorem dX3_isWord_44 : decode cX3_isWord 44 = .ok (.getfield 15, 3) := by decide +kernel
theorem dX3_isWord_47 : decode cX3_isWord 47 = .ok (.aload_n 0, 1) := by decide +kernel
theorem dX3_isWord_48 : decode cX3_isWord 48 = .ok (.getfield 137, 3) := by decide +kernel
theorem dX3_isWord_51 : decode cX3_isWord 51 = .ok (.iload_n 2, 1) := by decide +kernel
theorem dX3_isWord_52 : decode cX3_isWord 52 = .ok (.iadd, 1) := by decide +kernel
theorem dX3_isWord_53 : decode cX3_isWord 53 = .ok (.invokevirtual 145, 3) := by decide +kernel
theorem dX3_isWord_56 : decode cX3_isWord 56 = .ok (.aload_n 1, 1) := by decide +kernel
theorem dX3_isWord_57 : decode cX3_isWord 57 = .ok (.iload_n 2, 1) := by decide +kernel
theorem dX3_isWord_58 : decode cX3_isWord 58 = .ok (.invokevirtual 161, 3) := by decide +kernel
theorem dX3_isWord_61 : decode cX3_isWord 61 = .ok (.if_icmp .eq 5, 3) := by decide +kernel
theorem dX3_isWord_64 : decode cX3_isWord 64 = .ok (.iconst 0, 1) := by decide +kernel
theorem dX3_isWord_65 : decode cX3_isWord 65 = .ok (.ireturn, 1) := by decide +kernel
theorem dX3_isWord_66 : decode cX3_isWord 66 = .ok (.iinc 2 1, 3) := by decide +kernel
theorem dX3_isWord_69 : decode cX3_isWord 69 = .ok (.goto (-34), 3) := by decide +kernel
theorem dX3_isWord_72 : decode cX3_isWord 72 = .ok (.iconst 1, 1) := by decide +kernel
theorem dX3_isWord_73 : decode cX3_isWord 73 = .ok (.ireturn, 1) := by decide +kernel
theorem dX3_kindOf_0 : decode cX3_kindOf 0 = .ok (.iload_n 0, 1) := by decide +kernel
theorem dX3_kindOf_1 : decode cX3_kindOf 1 = .ok (.bipush 97, 2) := by decide +kernel
theorem dX3_kindOf_3 : decode cX3_kindOf 3 = .ok (.if_icmp .lt 11, 3) := by decide +kernel
theorem dX3_kindOf_6 : decode cX3_kindOf 6 = .ok (.iload_n 0, 1) := by decide +kernel
theorem dX3_kindOf_7 : decode cX3_kindOf 7 = .ok (.bipush 122, 2) := by decide +kernel
theorem dX3_kindOf_9 : decode cX3_kindOf 9 = .ok (.if_icmp .gt 5, 3) := by decide +kernel
theorem dX3_kindOf_12 : decode cX3_kindOf 12 = .ok (.iconst 1, 1) := by decide +kernel
theorem dX3_kindOf_13 : decode cX3_kindOf 13 = .ok (.ireturn, 1) := by decide +kernel
theorem dX3_kindOf_14 : decode cX3_kindOf 14 = .ok (.iload_n 0, 1) := by decide +kernel
theorem dX3_kindOf_15 : decode cX3_kindOf 15 = .ok (.bipush 48, 2) := by decide +kernel
theorem dX3_kindOf_17 : decode cX3_kindOf 17 = .ok (.if_icmp .lt 11, 3) := by decide +kernel
theorem dX3_kindOf_20 : decode cX3_kindOf 20 = .ok (.iload_n 0, 1) := by decide +kernel
theorem dX3_kindOf_21 : decode cX3_kindOf 21 = .ok (.bipush 57, 2) := by decide +kernel
theorem dX3_kindOf_23 : decode cX3_kindOf 23 = .ok (.if_icmp .gt 5, 3) := by decide +kernel
theorem dX3_kindOf_26 : decode cX3_kindOf 26 = .ok (.iconst 2, 1) := by decide +kernel
theorem dX3_kindOf_27 : decode cX3_kindOf 27 = .ok (.ireturn, 1) := by decide +kernel
theorem dX3_kindOf_28 : decode cX3_kindOf 28 = .ok (.iload_n 0, 1) := by decide +kernel
theorem dX3_kindOf_29 : decode cX3_kindOf 29 = .ok (.bipush 59, 2) := by decide +kernel
theorem dX3_kindOf_31 : decode cX3_kindOf 31 = .ok (.if_icmp .ne 5, 3) := by decide +kernel
theorem dX3_kindOf_34 : decode cX3_kindOf 34 = .ok (.iconst 3, 1) := by decide +kernel
theorem dX3_kindOf_35 : decode cX3_kindOf 35 = .ok (.ireturn, 1) := by decide +kernel
theorem dX3_kindOf_36 : decode cX3_kindOf 36 = .ok (.iload_n 0, 1) := by decide +kernel
theorem dX3_kindOf_37 : decode cX3_kindOf 37 = .ok (.iconst (-1), 1) := by decide +kernel
theorem dX3_kindOf_38 : decode cX3_kindOf 38 = .ok (.if_icmp .ne 7, 3) := by decide +kernel
theorem dX3_kindOf_41 : decode cX3_kindOf 41 = .ok (.iconst 0, 1) := by decide +kernel
theorem dX3_kindOf_42 : decode cX3_kindOf 42 = .ok (.goto 4, 3) := by decide +kernel
theorem dX3_kindOf_45 : decode cX3_kindOf 45 = .ok (.iconst 4, 1) := by decide +kernel
theorem dX3_kindOf_46 : decode cX3_kindOf 46 = .ok (.ireturn, 1) := by decide +kernel
theorem dX3_parse_0 : decode cX3_parse 0 = .ok (.aload_n 0, 1) := by decide +kernel
theorem dX3_parse_1 : decode cX3_parse 1 = .ok (.getfield 19, 3) := by decide +kernel
theorem dX3_parse_4 : decode cX3_parse 4 = .ok (.invokevirtual 23, 3) := by decide +kernel
theorem dX3_parse_7 : decode cX3_parse 7 = .ok (.aload_n 0, 1) := by decide +kernel
theorem dX3_parse_8 : decode cX3_parse 8 = .ok (.iconst 0, 1) := by decide +kernel
theorem dX3_parse_9 : decode cX3_parse 9 = .ok (.putfield 28, 3) := by decide +kernel
theorem dX3_parse_12 : decode cX3_parse 12 = .ok (.aload_n 0, 1) := by decide +kernel
theorem dX3_parse_13 : decode cX3_parse 13 = .ok (.iconst (-1), 1) := by decide +kernel
theorem dX3_parse_14 : decode cX3_parse 14 = .ok (.putfield 9, 3) := by decide +kernel
theorem dX3_parse_17 : decode cX3_parse 17 = .ok (.aload_n 0, 1) := by decide +kernel
theorem dX3_parse_18 : decode cX3_parse 18 = .ok (.iconst 0, 1) := by decide +kernel
theorem dX3_parse_19 : decode cX3_parse 19 = .ok (.putfield 31, 3) := by decide +kernel
theorem dX3_parse_22 : decode cX3_parse 22 = .ok (.aload_n 0, 1) := by decide +kernel
theorem dX3_parse_23 : decode cX3_parse 23 = .ok (.invokevirtual 34, 3) := by decide +kernel
theorem dX3_parse_26 : decode cX3_parse 26 = .ok (.iconst 0, 1) := by decide +kernel
theorem dX3_parse_27 : decode cX3_parse 27 = .ok (.istore_n 1, 1) := by decide +kernel
theorem dX3_parse_28 : decode cX3_parse 28 = .ok (.iload_n 1, 1) := by decide +kernel
theorem dX3_parse_29 : decode cX3_parse 29 = .ok (.sipush 700, 3) := by decide +kernel
theorem dX3_parse_32 : decode cX3_parse 32 = .ok (.if_icmp .ge 38, 3) := by decide +kernel
theorem dX3_parse_35 : decode cX3_parse 35 = .ok (.aload_n 0, 1) := by decide +kernel
theorem dX3_parse_36 : decode cX3_parse 36 = .ok (.getfield 37, 3) := by decide +kernel
theorem dX3_parse_39 : decode cX3_parse 39 = .ok (.ifCond .eq 31, 3) := by decide +kernel
theorem dX3_parse_42 : decode cX3_parse 42 = .ok (.aload_n 0, 1) := by decide +kernel
theorem dX3_parse_43 : decode cX3_parse 43 = .ok (.invokevirtual 40, 3) := by decide +kernel
theorem dX3_parse_46 : decode cX3_parse 46 = .ok (.ifCond .ne 5, 3) := by decide +kernel
theorem dX3_parse_49 : decode cX3_parse 49 = .ok (.iconst 0, 1) := by decide +kernel
theorem dX3_parse_50 : decode cX3_parse 50 = .ok (.ireturn, 1) := by decide +kernel
theorem dX3_parse_51 : decode cX3_parse 51 = .ok (.aload_n 0, 1) := by decide +kernel
theorem dX3_parse_52 : decode cX3_parse 52 = .ok (.getfield 19, 3) := by decide +kernel
theorem dX3_parse_55 : decode cX3_parse 55 = .ok (.dup, 1) := by decide +kernel
theorem dX3_parse_56 : decode cX3_parse 56 = .ok (.getfield 44, 3) := by decide +kernel
theorem dX3_parse_59 : decode cX3_parse 59 = .ok (.iconst 1, 1) := by decide +kernel
theorem dX3_parse_60 : decode cX3_parse 60 = .ok (.iadd, 1) := by decide +kernel
theorem dX3_parse_61 : decode cX3_parse 61 = .ok (.putfield 44, 3) := by decide +kernel
theorem dX3_parse_64 : decode cX3_parse 64 = .ok (.iinc 1 1, 3) := by decide +kernel
theorem dX3_parse_67 : decode cX3_parse 67 = .ok (.goto (-39), 3) := by decide +kernel
theorem dX3_parse_70 : decode cX3_parse 70 = .ok (.iconst 1, 1) := by decide +kernel
theorem dX3_parse_71 : decode cX3_parse 71 = .ok (.ireturn, 1) := by decide +kernel
theorem dX3_refuse_0 : decode cX3_refuse 0 = .ok (.aload_n 0, 1) := by decide +kernel
theorem dX3_refuse_1 : decode cX3_refuse 1 = .ok (.getfield 28, 3) := by decide +kernel
theorem dX3_refuse_4 : decode cX3_refuse 4 = .ok (.ifCond .ne 16, 3) := by decide +kernel
theorem dX3_refuse_7 : decode cX3_refuse 7 = .ok (.aload_n 0, 1) := by decide +kernel
theorem dX3_refuse_8 : decode cX3_refuse 8 = .ok (.iload_n 1, 1) := by decide +kernel
theorem dX3_refuse_9 : decode cX3_refuse 9 = .ok (.putfield 28, 3) := by decide +kernel
theorem dX3_refuse_12 : decode cX3_refuse 12 = .ok (.aload_n 0, 1) := by decide +kernel
theorem dX3_refuse_13 : decode cX3_refuse 13 = .ok (.aload_n 0, 1) := by decide +kernel
theorem dX3_refuse_14 : decode cX3_refuse 14 = .ok (.getfield 137, 3) := by decide +kernel
theorem dX3_refuse_17 : decode cX3_refuse 17 = .ok (.putfield 9, 3) := by decide +kernel
theorem dX3_refuse_20 : decode cX3_refuse 20 = .ok (.iconst 0, 1) := by decide +kernel
theorem dX3_refuse_21 : decode cX3_refuse 21 = .ok (.ireturn, 1) := by decide +kernel
theorem dX3_takeFold_0 : decode cX3_takeFold 0 = .ok (.aload_n 0, 1) := by decide +kernel
theorem dX3_takeFold_1 : decode cX3_takeFold 1 = .ok (.getfield 19, 3) := by decide +kernel
theorem dX3_takeFold_4 : decode cX3_takeFold 4 = .ok (.getfield 111, 3) := by decide +kernel
theorem dX3_takeFold_7 : decode cX3_takeFold 7 = .ok (.bipush 10, 2) := by decide +kernel
theorem dX3_takeFold_9 : decode cX3_takeFold 9 = .ok (.if_icmp .lt 9, 3) := by decide +kernel
theorem dX3_takeFold_12 : decode cX3_takeFold 12 = .ok (.aload_n 0, 1) := by decide +kernel
theorem dX3_takeFold_13 : decode cX3_takeFold 13 = .ok (.iconst 3, 1) := by decide +kernel
theorem dX3_takeFold_14 : decode cX3_takeFold 14 = .ok (.invokevirtual 69, 3) := by decide +kernel
theorem dX3_takeFold_17 : decode cX3_takeFold 17 = .ok (.ireturn, 1) := by decide +kernel
theorem dX3_takeFold_18 : decode cX3_takeFold 18 = .ok (.aload_n 0, 1) := by decide +kernel
theorem dX3_takeFold_19 : decode cX3_takeFold 19 = .ok (.invokevirtual 34, 3) := by decide +kernel
theorem dX3_takeFold_22 : decode cX3_takeFold 22 = .ok (.aload_n 0, 1) := by decide +kernel
theorem dX3_takeFold_23 : decode cX3_takeFold 23 = .ok (.iconst 0, 1) := by decide +kernel
theorem dX3_takeFold_24 : decode cX3_takeFold 24 = .ok (.aload_n 0, 1) := by decide +kernel
theorem dX3_takeFold_25 : decode cX3_takeFold 25 = .ok (.getfield 19, 3) := by decide +kernel
theorem dX3_takeFold_28 : decode cX3_takeFold 28 = .ok (.getfield 98, 3) := by decide +kernel
theorem dX3_takeFold_31 : decode cX3_takeFold 31 = .ok (.iconst 1, 1) := by decide +kernel
theorem dX3_takeFold_32 : decode cX3_takeFold 32 = .ok (.isub, 1) := by decide +kernel
theorem dX3_takeFold_33 : decode cX3_takeFold 33 = .ok (.invokevirtual 114, 3) := by decide +kernel
theorem dX3_takeFold_36 : decode cX3_takeFold 36 = .ok (.istore_n 1, 1) := by decide +kernel
theorem dX3_takeFold_37 : decode cX3_takeFold 37 = .ok (.aload_n 0, 1) := by decide +kernel
theorem dX3_takeFold_38 : decode cX3_takeFold 38 = .ok (.getfield 28, 3) := by decide +kernel
theorem dX3_takeFold_41 : decode cX3_takeFold 41 = .ok (.ifCond .ne 40, 3) := by decide +kernel
theorem dX3_takeFold_44 : decode cX3_takeFold 44 = .ok (.aload_n 0, 1) := by decide +kernel
theorem dX3_takeFold_45 : decode cX3_takeFold 45 = .ok (.getfield 37, 3) := by decide +kernel
theorem dX3_takeFold_48 : decode cX3_takeFold 48 = .ok (.iconst 2, 1) := by decide +kernel
theorem dX3_takeFold_49 : decode cX3_takeFold 49 = .ok (.if_icmp .ne 32, 3) := by decide +kernel
theorem dX3_takeFold_52 : decode cX3_takeFold 52 = .ok (.aload_n 0, 1) := by decide +kernel
theorem dX3_takeFold_53 : decode cX3_takeFold 53 = .ok (.getfield 118, 3) := by decide +kernel
theorem dX3_takeFold_56 : decode cX3_takeFold 56 = .ok (.iload_n 1, 1) := by decide +kernel
theorem dX3_takeFold_57 : decode cX3_takeFold 57 = .ok (.if_icmp .eq 18, 3) := by decide +kernel
theorem dX3_takeFold_60 : decode cX3_takeFold 60 = .ok (.aload_n 0, 1) := by decide +kernel
theorem dX3_takeFold_61 : decode cX3_takeFold 61 = .ok (.getfield 19, 3) := by decide +kernel
theorem dX3_takeFold_64 : decode cX3_takeFold 64 = .ok (.iload_n 1, 1) := by decide +kernel
theorem dX3_takeFold_65 : decode cX3_takeFold 65 = .ok (.aload_n 0, 1) := by decide +kernel
theorem dX3_takeFold_66 : decode cX3_takeFold 66 = .ok (.getfield 118, 3) := by decide +kernel
theorem dX3_takeFold_69 : decode cX3_takeFold 69 = .ok (.invokevirtual 121, 3) := by decide +kernel
theorem dX3_takeFold_72 : decode cX3_takeFold 72 = .ok (.ifCond .eq 9, 3) := by decide +kernel
theorem dX3_takeFold_75 : decode cX3_takeFold 75 = .ok (.aload_n 0, 1) := by decide +kernel
theorem dX3_takeFold_76 : decode cX3_takeFold 76 = .ok (.iconst 2, 1) := by decide +kernel
theorem dX3_takeFold_77 : decode cX3_takeFold 77 = .ok (.invokevirtual 69, 3) := by decide +kernel
theorem dX3_takeFold_80 : decode cX3_takeFold 80 = .ok (.ireturn, 1) := by decide +kernel
theorem dX3_takeFold_81 : decode cX3_takeFold 81 = .ok (.aload_n 0, 1) := by decide +kernel
theorem dX3_takeFold_82 : decode cX3_takeFold 82 = .ok (.iconst 0, 1) := by decide +kernel
theorem dX3_takeFold_83 : decode cX3_takeFold 83 = .ok (.aload_n 0, 1) := by decide +kernel
theorem dX3_takeFold_84 : decode cX3_takeFold 84 = .ok (.getfield 19, 3) := by decide +kernel
theorem dX3_takeFold_87 : decode cX3_takeFold 87 = .ok (.getfield 98, 3) := by decide +kernel
theorem dX3_takeFold_90 : decode cX3_takeFold 90 = .ok (.iconst 1, 1) := by decide +kernel
theorem dX3_takeFold_91 : decode cX3_takeFold 91 = .ok (.isub, 1) := by decide +kernel
theorem dX3_takeFold_92 : decode cX3_takeFold 92 = .ok (.invokevirtual 114, 3) := by decide +kernel
theorem dX3_takeFold_95 : decode cX3_takeFold 95 = .ok (.istore_n 2, 1) := by decide +kernel
theorem dX3_takeFold_96 : decode cX3_takeFold 96 = .ok (.aload_n 0, 1) := by decide +kernel
theorem dX3_takeFold_97 : decode cX3_takeFold 97 = .ok (.getfield 28, 3) := by decide +kernel
theorem dX3_takeFold_100 : decode cX3_takeFold 100 = .ok (.ifCond .ne 12, 3) := by decide +kernel
theorem dX3_takeFold_103 : decode cX3_takeFold 103 = .ok (.aload_n 0, 1) := by decide +kernel
theorem dX3_takeFold_104 : decode cX3_takeFold 104 = .ok (.getfield 19, 3) := by decide +kernel
theorem dX3_takeFold_107 : decode cX3_takeFold 107 = .ok (.iload_n 1, 1) := by decide +kernel
theorem dX3_takeFold_108 : decode cX3_takeFold 108 = .ok (.iload_n 2, 1) := by decide +kernel
theorem dX3_takeFold_109 : decode cX3_takeFold 109 = .ok (.invokevirtual 125, 3) := by decide +kernel
theorem dX3_takeFold_112 : decode cX3_takeFold 112 = .ok (.aload_n 0, 1) := by decide +kernel
theorem dX3_takeFold_113 : decode cX3_takeFold 113 = .ok (.getfield 28, 3) := by decide +kernel
theorem dX3_takeFold_116 : decode cX3_takeFold 116 = .ok (.ifCond .ne 7, 3) := by decide +kernel
theorem dX3_takeFold_119 : decode cX3_takeFold 119 = .ok (.iconst 1, 1) := by decide +kernel
theorem dX3_takeFold_120 : decode cX3_takeFold 120 = .ok (.goto 4, 3) := by decide +kernel
theorem dX3_takeFold_123 : decode cX3_takeFold 123 = .ok (.iconst 0, 1) := by decide +kernel
theorem dX3_takeFold_124 : decode cX3_takeFold 124 = .ok (.ireturn, 1) := by decide +kernel
theorem dX3_takeHead_0 : decode cX3_takeHead 0 = .ok (.aload_n 0, 1) := by decide +kernel
theorem dX3_takeHead_1 : decode cX3_takeHead 1 = .ok (.ldc 76, 2) := by decide +kernel
theorem dX3_takeHead_3 : decode cX3_takeHead 3 = .ok (.invokevirtual 78, 3) := by decide +kernel
theorem dX3_takeHead_6 : decode cX3_takeHead 6 = .ok (.aload_n 0, 1) := by decide +kernel
theorem dX3_takeHead_7 : decode cX3_takeHead 7 = .ok (.getfield 19, 3) := by decide +kernel
theorem dX3_takeHead_10 : decode cX3_takeHead 10 = .ok (.aload_n 0, 1) := by decide +kernel
theorem dX3_takeHead_11 : decode cX3_takeHead 11 = .ok (.ldc 82, 2) := by decide +kernel
theorem dX3_takeHead_13 : decode cX3_takeHead 13 = .ok (.iconst 1, 1) := by decide +kernel
theorem dX3_takeHead_14 : decode cX3_takeHead 14 = .ok (.bipush 12, 2) := by decide +kernel
theorem dX3_takeHead_16 : decode cX3_takeHead 16 = .ok (.invokevirtual 84, 3) := by decide +kernel
theorem dX3_takeHead_19 : decode cX3_takeHead 19 = .ok (.putfield 88, 3) := by decide +kernel
theorem dX3_takeHead_22 : decode cX3_takeHead 22 = .ok (.aload_n 0, 1) := by decide +kernel
theorem dX3_takeHead_23 : decode cX3_takeHead 23 = .ok (.getfield 19, 3) := by decide +kernel
theorem dX3_takeHead_26 : decode cX3_takeHead 26 = .ok (.aload_n 0, 1) := by decide +kernel
theorem dX3_takeHead_27 : decode cX3_takeHead 27 = .ok (.ldc 90, 2) := by decide +kernel
theorem dX3_takeHead_29 : decode cX3_takeHead 29 = .ok (.iconst 0, 1) := by decide +kernel
theorem dX3_takeHead_30 : decode cX3_takeHead 30 = .ok (.iconst 3, 1) := by decide +kernel
theorem dX3_takeHead_31 : decode cX3_takeHead 31 = .ok (.invokevirtual 84, 3) := by decide +kernel
theorem dX3_takeHead_34 : decode cX3_takeHead 34 = .ok (.putfield 92, 3) := by decide +kernel
theorem dX3_takeHead_37 : decode cX3_takeHead 37 = .ok (.aload_n 0, 1) := by decide +kernel
theorem dX3_takeHead_38 : decode cX3_takeHead 38 = .ok (.getfield 19, 3) := by decide +kernel
theorem dX3_takeHead_41 : decode cX3_takeHead 41 = .ok (.aload_n 0, 1) := by decide +kernel
theorem dX3_takeHead_42 : decode cX3_takeHead 42 = .ok (.ldc 94, 2) := by decide +kernel
theorem dX3_takeHead_44 : decode cX3_takeHead 44 = .ok (.iconst 0, 1) := by decide +kernel
theorem dX3_takeHead_45 : decode cX3_takeHead 45 = .ok (.bipush 10, 2) := by decide +kernel
theorem dX3_takeHead_47 : decode cX3_takeHead 47 = .ok (.invokevirtual 84, 3) := by decide +kernel
theorem dX3_takeHead_50 : decode cX3_takeHead 50 = .ok (.putfield 96, 3) := by decide +kernel
theorem dX3_takeHead_53 : decode cX3_takeHead 53 = .ok (.aload_n 0, 1) := by decide +kernel
theorem dX3_takeHead_54 : decode cX3_takeHead 54 = .ok (.getfield 28, 3) := by decide +kernel
theorem dX3_takeHead_57 : decode cX3_takeHead 57 = .ok (.ifCond .ne 7, 3) := by decide +kernel
theorem dX3_takeHead_60 : decode cX3_takeHead 60 = .ok (.iconst 1, 1) := by decide +kernel
theorem dX3_takeHead_61 : decode cX3_takeHead 61 = .ok (.goto 4, 3) := by decide +kernel
theorem dX3_takeHead_64 : decode cX3_takeHead 64 = .ok (.iconst 0, 1) := by decide +kernel
theorem dX3_takeHead_65 : decode cX3_takeHead 65 = .ok (.ireturn, 1) := by decide +kernel
theorem dX3_takeKnife_0 : decode cX3_takeKnife 0 = .ok (.aload_n 0, 1) := by decide +kernel
theorem dX3_takeKnife_1 : decode cX3_takeKnife 1 = .ok (.getfield 19, 3) := by decide +kernel
theorem dX3_takeKnife_4 : decode cX3_takeKnife 4 = .ok (.getfield 129, 3) := by decide +kernel
theorem dX3_takeKnife_7 : decode cX3_takeKnife 7 = .ok (.bipush 8, 2) := by decide +kernel
theorem dX3_takeKnife_9 : decode cX3_takeKnife 9 = .ok (.if_icmp .lt 9, 3) := by decide +kernel
theorem dX3_takeKnife_12 : decode cX3_takeKnife 12 = .ok (.aload_n 0, 1) := by decide +kernel
theorem dX3_takeKnife_13 : decode cX3_takeKnife 13 = .ok (.iconst 3, 1) := by decide +kernel
theorem dX3_takeKnife_14 : decode cX3_takeKnife 14 = .ok (.invokevirtual 69, 3) := by decide +kernel
theorem dX3_takeKnife_17 : decode cX3_takeKnife 17 = .ok (.ireturn, 1) := by decide +kernel
theorem dX3_takeKnife_18 : decode cX3_takeKnife 18 = .ok (.aload_n 0, 1) := by decide +kernel
theorem dX3_takeKnife_19 : decode cX3_takeKnife 19 = .ok (.invokevirtual 34, 3) := by decide +kernel
theorem dX3_takeKnife_22 : decode cX3_takeKnife 22 = .ok (.aload_n 0, 1) := by decide +kernel
theorem dX3_takeKnife_23 : decode cX3_takeKnife 23 = .ok (.iconst 0, 1) := by decide +kernel
theorem dX3_takeKnife_24 : decode cX3_takeKnife 24 = .ok (.aload_n 0, 1) := by decide +kernel
theorem dX3_takeKnife_25 : decode cX3_takeKnife 25 = .ok (.getfield 19, 3) := by decide +kernel
theorem dX3_takeKnife_28 : decode cX3_takeKnife 28 = .ok (.getfield 98, 3) := by decide +kernel
theorem dX3_takeKnife_31 : decode cX3_takeKnife 31 = .ok (.iconst 1, 1) := by decide +kernel
theorem dX3_takeKnife_32 : decode cX3_takeKnife 32 = .ok (.isub, 1) := by decide +kernel
theorem dX3_takeKnife_33 : decode cX3_takeKnife 33 = .ok (.invokevirtual 114, 3) := by decide +kernel
theorem dX3_takeKnife_36 : decode cX3_takeKnife 36 = .ok (.istore_n 1, 1) := by decide +kernel
theorem dX3_takeKnife_37 : decode cX3_takeKnife 37 = .ok (.aload_n 0, 1) := by decide +kernel
theorem dX3_takeKnife_38 : decode cX3_takeKnife 38 = .ok (.ldc 132, 2) := by decide +kernel
theorem dX3_takeKnife_40 : decode cX3_takeKnife 40 = .ok (.iconst 0, 1) := by decide +kernel
theorem dX3_takeKnife_41 : decode cX3_takeKnife 41 = .ok (.bipush 11, 2) := by decide +kernel
theorem dX3_takeKnife_43 : decode cX3_takeKnife 43 = .ok (.invokevirtual 84, 3) := by decide +kernel
theorem dX3_takeKnife_46 : decode cX3_takeKnife 46 = .ok (.istore_n 2, 1) := by decide +kernel
theorem dX3_takeKnife_47 : decode cX3_takeKnife 47 = .ok (.aload_n 0, 1) := by decide +kernel
theorem dX3_takeKnife_48 : decode cX3_takeKnife 48 = .ok (.getfield 28, 3) := by decide +kernel
theorem dX3_takeKnife_51 : decode cX3_takeKnife 51 = .ok (.ifCond .ne 12, 3) := by decide +kernel
theorem dX3_takeKnife_54 : decode cX3_takeKnife 54 = .ok (.aload_n 0, 1) := by decide +kernel
theorem dX3_takeKnife_55 : decode cX3_takeKnife 55 = .ok (.getfield 19, 3) := by decide +kernel
theorem dX3_takeKnife_58 : decode cX3_takeKnife 58 = .ok (.iload_n 1, 1) := by decide +kernel
theorem dX3_takeKnife_59 : decode cX3_takeKnife 59 = .ok (.iload_n 2, 1) := by decide +kernel
theorem dX3_takeKnife_60 : decode cX3_takeKnife 60 = .ok (.invokevirtual 134, 3) := by decide +kernel
theorem dX3_takeKnife_63 : decode cX3_takeKnife 63 = .ok (.aload_n 0, 1) := by decide +kernel
theorem dX3_takeKnife_64 : decode cX3_takeKnife 64 = .ok (.getfield 28, 3) := by decide +kernel
theorem dX3_takeKnife_67 : decode cX3_takeKnife 67 = .ok (.ifCond .ne 7, 3) := by decide +kernel
theorem dX3_takeKnife_70 : decode cX3_takeKnife 70 = .ok (.iconst 1, 1) := by decide +kernel
theorem dX3_takeKnife_71 : decode cX3_takeKnife 71 = .ok (.goto 4, 3) := by decide +kernel
theorem dX3_takeKnife_74 : decode cX3_takeKnife 74 = .ok (.iconst 0, 1) := by decide +kernel
theorem dX3_takeKnife_75 : decode cX3_takeKnife 75 = .ok (.ireturn, 1) := by decide +kernel
theorem dX3_takeLine_0 : decode cX3_takeLine 0 = .ok (.aload_n 0, 1) := by decide +kernel
theorem dX3_takeLine_1 : decode cX3_takeLine 1 = .ok (.getfield 19, 3) := by decide +kernel
theorem dX3_takeLine_4 : decode cX3_takeLine 4 = .ok (.getfield 44, 3) := by decide +kernel
theorem dX3_takeLine_7 : decode cX3_takeLine 7 = .ok (.ifCond .ne 11, 3) := by decide +kernel
theorem dX3_takeLine_10 : decode cX3_takeLine 10 = .ok (.aload_n 0, 1) := by decide +kernel
theorem dX3_takeLine_11 : decode cX3_takeLine 11 = .ok (.invokevirtual 47, 3) := by decide +kernel
theorem dX3_takeLine_14 : decode cX3_takeLine 14 = .ok (.istore_n 1, 1) := by decide +kernel
theorem dX3_takeLine_15 : decode cX3_takeLine 15 = .ok (.goto 60, 3) := by decide +kernel
theorem dX3_takeLine_18 : decode cX3_takeLine 18 = .ok (.aload_n 0, 1) := by decide +kernel
theorem dX3_takeLine_19 : decode cX3_takeLine 19 = .ok (.ldc 50, 2) := by decide +kernel
theorem dX3_takeLine_21 : decode cX3_takeLine 21 = .ok (.invokevirtual 52, 3) := by decide +kernel
theorem dX3_takeLine_24 : decode cX3_takeLine 24 = .ok (.ifCond .eq 11, 3) := by decide +kernel
theorem dX3_takeLine_27 : decode cX3_takeLine 27 = .ok (.aload_n 0, 1) := by decide +kernel
theorem dX3_takeLine_28 : decode cX3_takeLine 28 = .ok (.invokevirtual 56, 3) := by decide +kernel
theorem dX3_takeLine_31 : decode cX3_takeLine 31 = .ok (.istore_n 1, 1) := by decide +kernel
theorem dX3_takeLine_32 : decode cX3_takeLine 32 = .ok (.goto 43, 3) := by decide +kernel
theorem dX3_takeLine_35 : decode cX3_takeLine 35 = .ok (.aload_n 0, 1) := by decide +kernel
theorem dX3_takeLine_36 : decode cX3_takeLine 36 = .ok (.ldc 59, 2) := by decide +kernel
theorem dX3_takeLine_38 : decode cX3_takeLine 38 = .ok (.invokevirtual 52, 3) := by decide +kernel
theorem dX3_takeLine_41 : decode cX3_takeLine 41 = .ok (.ifCond .eq 11, 3) := by decide +kernel
theorem dX3_takeLine_44 : decode cX3_takeLine 44 = .ok (.aload_n 0, 1) := by decide +kernel
theorem dX3_takeLine_45 : decode cX3_takeLine 45 = .ok (.invokevirtual 61, 3) := by decide +kernel
theorem dX3_takeLine_48 : decode cX3_takeLine 48 = .ok (.istore_n 1, 1) := by decide +kernel
theorem dX3_takeLine_49 : decode cX3_takeLine 49 = .ok (.goto 26, 3) := by decide +kernel
theorem dX3_takeLine_52 : decode cX3_takeLine 52 = .ok (.aload_n 0, 1) := by decide +kernel
theorem dX3_takeLine_53 : decode cX3_takeLine 53 = .ok (.ldc 64, 2) := by decide +kernel
theorem dX3_takeLine_55 : decode cX3_takeLine 55 = .ok (.invokevirtual 52, 3) := by decide +kernel
theorem dX3_takeLine_58 : decode cX3_takeLine 58 = .ok (.ifCond .eq 11, 3) := by decide +kernel
theorem dX3_takeLine_61 : decode cX3_takeLine 61 = .ok (.aload_n 0, 1) := by decide +kernel
theorem dX3_takeLine_62 : decode cX3_takeLine 62 = .ok (.invokevirtual 66, 3) := by decide +kernel
theorem dX3_takeLine_65 : decode cX3_takeLine 65 = .ok (.istore_n 1, 1) := by decide +kernel
theorem dX3_takeLine_66 : decode cX3_takeLine 66 = .ok (.goto 9, 3) := by decide +kernel
theorem dX3_takeLine_69 : decode cX3_takeLine 69 = .ok (.aload_n 0, 1) := by decide +kernel
theorem dX3_takeLine_70 : decode cX3_takeLine 70 = .ok (.iconst 1, 1) := by decide +kernel
theorem dX3_takeLine_71 : decode cX3_takeLine 71 = .ok (.invokevirtual 69, 3) := by decide +kernel
theorem dX3_takeLine_74 : decode cX3_takeLine 74 = .ok (.istore_n 1, 1) := by decide +kernel
theorem dX3_takeLine_75 : decode cX3_takeLine 75 = .ok (.iload_n 1, 1) := by decide +kernel
theorem dX3_takeLine_76 : decode cX3_takeLine 76 = .ok (.ifCond .eq 14, 3) := by decide +kernel
theorem dX3_takeLine_79 : decode cX3_takeLine 79 = .ok (.aload_n 0, 1) := by decide +kernel
theorem dX3_takeLine_80 : decode cX3_takeLine 80 = .ok (.invokevirtual 73, 3) := by decide +kernel
theorem dX3_takeLine_83 : decode cX3_takeLine 83 = .ok (.ifCond .eq 7, 3) := by decide +kernel
theorem dX3_takeLine_86 : decode cX3_takeLine 86 = .ok (.iconst 1, 1) := by decide +kernel
theorem dX3_takeLine_87 : decode cX3_takeLine 87 = .ok (.goto 4, 3) := by decide +kernel
theorem dX3_takeLine_90 : decode cX3_takeLine 90 = .ok (.iconst 0, 1) := by decide +kernel
theorem dX3_takeLine_91 : decode cX3_takeLine 91 = .ok (.ireturn, 1) := by decide +kernel
