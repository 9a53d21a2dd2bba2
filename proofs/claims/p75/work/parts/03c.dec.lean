theorem dX8_fews_0 : decode cX8_fews 0 = .ok (.aload_n 0, 1) := by decide +kernel
theorem dX8_fews_1 : decode cX8_fews 1 = .ok (.getfield 32, 3) := by decide +kernel
theorem dX8_fews_4 : decode cX8_fews 4 = .ok (.invokevirtual 153, 3) := by decide +kernel
theorem dX8_fews_7 : decode cX8_fews 7 = .ok (.ifCond .eq 10, 3) := by decide +kernel
theorem dX8_fews_10 : decode cX8_fews 10 = .ok (.aload_n 0, 1) := by decide +kernel
theorem dX8_fews_11 : decode cX8_fews 11 = .ok (.invokevirtual 249, 3) := by decide +kernel
theorem dX8_fews_14 : decode cX8_fews 14 = .ok (.goto 5, 3) := by decide +kernel
theorem dX8_fews_17 : decode cX8_fews 17 = .ok (.bipush (-2), 2) := by decide +kernel
theorem dX8_fews_19 : decode cX8_fews 19 = .ok (.ireturn, 1) := by decide +kernel
theorem dX8_first_0 : decode cX8_first 0 = .ok (.aload_n 0, 1) := by decide +kernel
theorem dX8_first_1 : decode cX8_first 1 = .ok (.getfield 32, 3) := by decide +kernel
theorem dX8_first_4 : decode cX8_first 4 = .ok (.invokevirtual 153, 3) := by decide +kernel
theorem dX8_first_7 : decode cX8_first 7 = .ok (.ifCond .ne 6, 3) := by decide +kernel
theorem dX8_first_10 : decode cX8_first 10 = .ok (.bipush (-2), 2) := by decide +kernel
theorem dX8_first_12 : decode cX8_first 12 = .ok (.ireturn, 1) := by decide +kernel
theorem dX8_first_13 : decode cX8_first 13 = .ok (.iconst 0, 1) := by decide +kernel
theorem dX8_first_14 : decode cX8_first 14 = .ok (.istore_n 1, 1) := by decide +kernel
theorem dX8_first_15 : decode cX8_first 15 = .ok (.iload_n 1, 1) := by decide +kernel
theorem dX8_first_16 : decode cX8_first 16 = .ok (.aload_n 0, 1) := by decide +kernel
theorem dX8_first_17 : decode cX8_first 17 = .ok (.getfield 32, 3) := by decide +kernel
theorem dX8_first_20 : decode cX8_first 20 = .ok (.getfield 168, 3) := by decide +kernel
theorem dX8_first_23 : decode cX8_first 23 = .ok (.if_icmp .ge 19, 3) := by decide +kernel
theorem dX8_first_26 : decode cX8_first 26 = .ok (.aload_n 0, 1) := by decide +kernel
theorem dX8_first_27 : decode cX8_first 27 = .ok (.iload_n 1, 1) := by decide +kernel
theorem dX8_first_28 : decode cX8_first 28 = .ok (.invokevirtual 246, 3) := by decide +kernel
theorem dX8_first_31 : decode cX8_first 31 = .ok (.ifCond .le 5, 3) := by decide +kernel
theorem dX8_first_34 : decode cX8_first 34 = .ok (.iload_n 1, 1) := by decide +kernel
theorem dX8_first_35 : decode cX8_first 35 = .ok (.ireturn, 1) := by decide +kernel
theorem dX8_first_36 : decode cX8_first 36 = .ok (.iinc 1 1, 3) := by decide +kernel
theorem dX8_first_39 : decode cX8_first 39 = .ok (.goto (-24), 3) := by decide +kernel
theorem dX8_first_42 : decode cX8_first 42 = .ok (.iconst (-1), 1) := by decide +kernel
theorem dX8_first_43 : decode cX8_first 43 = .ok (.ireturn, 1) := by decide +kernel
theorem dX8_forgetAnswers_0 : decode cX8_forgetAnswers 0 = .ok (.aload_n 0, 1) := by decide +kernel
theorem dX8_forgetAnswers_1 : decode cX8_forgetAnswers 1 = .ok (.iconst 1, 1) := by decide +kernel
theorem dX8_forgetAnswers_2 : decode cX8_forgetAnswers 2 = .ok (.putfield 87, 3) := by decide +kernel
theorem dX8_forgetAnswers_5 : decode cX8_forgetAnswers 5 = .ok (.aload_n 0, 1) := by decide +kernel
theorem dX8_forgetAnswers_6 : decode cX8_forgetAnswers 6 = .ok (.iconst 1, 1) := by decide +kernel
theorem dX8_forgetAnswers_7 : decode cX8_forgetAnswers 7 = .ok (.putfield 91, 3) := by decide +kernel
theorem dX8_forgetAnswers_10 : decode cX8_forgetAnswers 10 = .ok (.aload_n 0, 1) := by decide +kernel
theorem dX8_forgetAnswers_11 : decode cX8_forgetAnswers 11 = .ok (.iconst 0, 1) := by decide +kernel
theorem dX8_forgetAnswers_12 : decode cX8_forgetAnswers 12 = .ok (.putfield 94, 3) := by decide +kernel
theorem dX8_forgetAnswers_15 : decode cX8_forgetAnswers 15 = .ok (.return_, 1) := by decide +kernel
theorem dX8_gets_0 : decode cX8_gets 0 = .ok (.aload_n 0, 1) := by decide +kernel
theorem dX8_gets_1 : decode cX8_gets 1 = .ok (.iload_n 1, 1) := by decide +kernel
theorem dX8_gets_2 : decode cX8_gets 2 = .ok (.iload_n 2, 1) := by decide +kernel
theorem dX8_gets_3 : decode cX8_gets 3 = .ok (.invokevirtual 338, 3) := by decide +kernel
theorem dX8_gets_6 : decode cX8_gets 6 = .ok (.ifCond .eq 18, 3) := by decide +kernel
theorem dX8_gets_9 : decode cX8_gets 9 = .ok (.iload_n 3, 1) := by decide +kernel
theorem dX8_gets_10 : decode cX8_gets 10 = .ok (.invokestatic 345, 3) := by decide +kernel
theorem dX8_gets_13 : decode cX8_gets 13 = .ok (.ifCond .eq 11, 3) := by decide +kernel
theorem dX8_gets_16 : decode cX8_gets 16 = .ok (.iload 4, 2) := by decide +kernel
theorem dX8_gets_18 : decode cX8_gets 18 = .ok (.invokestatic 345, 3) := by decide +kernel
theorem dX8_gets_21 : decode cX8_gets 21 = .ok (.ifCond .ne 7, 3) := by decide +kernel
theorem dX8_gets_24 : decode cX8_gets 24 = .ok (.sipush (-1000), 3) := by decide +kernel
theorem dX8_gets_27 : decode cX8_gets 27 = .ok (.ireturn, 1) := by decide +kernel
theorem dX8_gets_28 : decode cX8_gets 28 = .ok (.aload_n 0, 1) := by decide +kernel
theorem dX8_gets_29 : decode cX8_gets 29 = .ok (.iload_n 1, 1) := by decide +kernel
theorem dX8_gets_30 : decode cX8_gets 30 = .ok (.iload_n 2, 1) := by decide +kernel
theorem dX8_gets_31 : decode cX8_gets 31 = .ok (.iload_n 3, 1) := by decide +kernel
theorem dX8_gets_32 : decode cX8_gets 32 = .ok (.iload 4, 2) := by decide +kernel
theorem dX8_gets_34 : decode cX8_gets 34 = .ok (.invokevirtual 341, 3) := by decide +kernel
theorem dX8_gets_37 : decode cX8_gets 37 = .ok (.ireturn, 1) := by decide +kernel
theorem dX8_greatestDivisor_0 : decode cX8_greatestDivisor 0 = .ok (.lload_n 0, 1) := by decide +kernel
theorem dX8_greatestDivisor_1 : decode cX8_greatestDivisor 1 = .ok (.lstore 4, 2) := by decide +kernel
theorem dX8_greatestDivisor_3 : decode cX8_greatestDivisor 3 = .ok (.lload_n 2, 1) := by decide +kernel
theorem dX8_greatestDivisor_4 : decode cX8_greatestDivisor 4 = .ok (.lstore 6, 2) := by decide +kernel
theorem dX8_greatestDivisor_6 : decode cX8_greatestDivisor 6 = .ok (.iconst 0, 1) := by decide +kernel
theorem dX8_greatestDivisor_7 : decode cX8_greatestDivisor 7 = .ok (.istore 8, 2) := by decide +kernel
theorem dX8_greatestDivisor_9 : decode cX8_greatestDivisor 9 = .ok (.iload 8, 2) := by decide +kernel
theorem dX8_greatestDivisor_11 : decode cX8_greatestDivisor 11 = .ok (.sipush 200, 3) := by decide +kernel
theorem dX8_greatestDivisor_14 : decode cX8_greatestDivisor 14 = .ok (.if_icmp .ge 31, 3) := by decide +kernel
theorem dX8_greatestDivisor_17 : decode cX8_greatestDivisor 17 = .ok (.lload 6, 2) := by decide +kernel
theorem dX8_greatestDivisor_19 : decode cX8_greatestDivisor 19 = .ok (.lconst 0, 1) := by decide +kernel
theorem dX8_greatestDivisor_20 : decode cX8_greatestDivisor 20 = .ok (.lcmp, 1) := by decide +kernel
theorem dX8_greatestDivisor_21 : decode cX8_greatestDivisor 21 = .ok (.ifCond .eq 24, 3) := by decide +kernel
theorem dX8_greatestDivisor_24 : decode cX8_greatestDivisor 24 = .ok (.lload 4, 2) := by decide +kernel
theorem dX8_greatestDivisor_26 : decode cX8_greatestDivisor 26 = .ok (.lload 6, 2) := by decide +kernel
theorem dX8_greatestDivisor_28 : decode cX8_greatestDivisor 28 = .ok (.lrem, 1) := by decide +kernel
theorem dX8_greatestDivisor_29 : decode cX8_greatestDivisor 29 = .ok (.lstore 9, 2) := by decide +kernel
theorem dX8_greatestDivisor_31 : decode cX8_greatestDivisor 31 = .ok (.lload 6, 2) := by decide +kernel
theorem dX8_greatestDivisor_33 : decode cX8_greatestDivisor 33 = .ok (.lstore 4, 2) := by decide +kernel
theorem dX8_greatestDivisor_35 : decode cX8_greatestDivisor 35 = .ok (.lload 9, 2) := by decide +kernel
theorem dX8_greatestDivisor_37 : decode cX8_greatestDivisor 37 = .ok (.lstore 6, 2) := by decide +kernel
theorem dX8_greatestDivisor_39 : decode cX8_greatestDivisor 39 = .ok (.iinc 8 1, 3) := by decide +kernel
theorem dX8_greatestDivisor_42 : decode cX8_greatestDivisor 42 = .ok (.goto (-33), 3) := by decide +kernel
theorem dX8_greatestDivisor_45 : decode cX8_greatestDivisor 45 = .ok (.lload 4, 2) := by decide +kernel
theorem dX8_greatestDivisor_47 : decode cX8_greatestDivisor 47 = .ok (.lreturn, 1) := by decide +kernel
theorem dX8_hasBit_0 : decode cX8_hasBit 0 = .ok (.iload_n 0, 1) := by decide +kernel
theorem dX8_hasBit_1 : decode cX8_hasBit 1 = .ok (.iload_n 1, 1) := by decide +kernel
theorem dX8_hasBit_2 : decode cX8_hasBit 2 = .ok (.ishr, 1) := by decide +kernel
theorem dX8_hasBit_3 : decode cX8_hasBit 3 = .ok (.iconst 1, 1) := by decide +kernel
theorem dX8_hasBit_4 : decode cX8_hasBit 4 = .ok (.iand, 1) := by decide +kernel
theorem dX8_hasBit_5 : decode cX8_hasBit 5 = .ok (.iconst 1, 1) := by decide +kernel
theorem dX8_hasBit_6 : decode cX8_hasBit 6 = .ok (.if_icmp .ne 7, 3) := by decide +kernel
theorem dX8_hasBit_9 : decode cX8_hasBit 9 = .ok (.iconst 1, 1) := by decide +kernel
theorem dX8_hasBit_10 : decode cX8_hasBit 10 = .ok (.goto 4, 3) := by decide +kernel
theorem dX8_hasBit_13 : decode cX8_hasBit 13 = .ok (.iconst 0, 1) := by decide +kernel
theorem dX8_hasBit_14 : decode cX8_hasBit 14 = .ok (.ireturn, 1) := by decide +kernel
theorem dX8_hasPartAndYear_0 : decode cX8_hasPartAndYear 0 = .ok (.aload_n 0, 1) := by decide +kernel
theorem dX8_hasPartAndYear_1 : decode cX8_hasPartAndYear 1 = .ok (.getfield 32, 3) := by decide +kernel
theorem dX8_hasPartAndYear_4 : decode cX8_hasPartAndYear 4 = .ok (.iload_n 1, 1) := by decide +kernel
theorem dX8_hasPartAndYear_5 : decode cX8_hasPartAndYear 5 = .ok (.invokevirtual 127, 3) := by decide +kernel
theorem dX8_hasPartAndYear_8 : decode cX8_hasPartAndYear 8 = .ok (.ifCond .eq 18, 3) := by decide +kernel
theorem dX8_hasPartAndYear_11 : decode cX8_hasPartAndYear 11 = .ok (.aload_n 0, 1) := by decide +kernel
theorem dX8_hasPartAndYear_12 : decode cX8_hasPartAndYear 12 = .ok (.getfield 32, 3) := by decide +kernel
theorem dX8_hasPartAndYear_15 : decode cX8_hasPartAndYear 15 = .ok (.iload_n 2, 1) := by decide +kernel
theorem dX8_hasPartAndYear_16 : decode cX8_hasPartAndYear 16 = .ok (.invokevirtual 196, 3) := by decide +kernel
theorem dX8_hasPartAndYear_19 : decode cX8_hasPartAndYear 19 = .ok (.ifCond .eq 7, 3) := by decide +kernel
theorem dX8_hasPartAndYear_22 : decode cX8_hasPartAndYear 22 = .ok (.iconst 1, 1) := by decide +kernel
theorem dX8_hasPartAndYear_23 : decode cX8_hasPartAndYear 23 = .ok (.goto 4, 3) := by decide +kernel
theorem dX8_hasPartAndYear_26 : decode cX8_hasPartAndYear 26 = .ok (.iconst 0, 1) := by decide +kernel
theorem dX8_hasPartAndYear_27 : decode cX8_hasPartAndYear 27 = .ok (.ireturn, 1) := by decide +kernel
theorem dX8_hasPlan_0 : decode cX8_hasPlan 0 = .ok (.aload_n 0, 1) := by decide +kernel
theorem dX8_hasPlan_1 : decode cX8_hasPlan 1 = .ok (.getfield 32, 3) := by decide +kernel
theorem dX8_hasPlan_4 : decode cX8_hasPlan 4 = .ok (.invokevirtual 153, 3) := by decide +kernel
theorem dX8_hasPlan_7 : decode cX8_hasPlan 7 = .ok (.ifCond .eq 28, 3) := by decide +kernel
theorem dX8_hasPlan_10 : decode cX8_hasPlan 10 = .ok (.iload_n 1, 1) := by decide +kernel
theorem dX8_hasPlan_11 : decode cX8_hasPlan 11 = .ok (.iconst 1, 1) := by decide +kernel
theorem dX8_hasPlan_12 : decode cX8_hasPlan 12 = .ok (.if_icmp .lt 23, 3) := by decide +kernel
theorem dX8_hasPlan_15 : decode cX8_hasPlan 15 = .ok (.iload_n 1, 1) := by decide +kernel
theorem dX8_hasPlan_16 : decode cX8_hasPlan 16 = .ok (.iconst 5, 1) := by decide +kernel
theorem dX8_hasPlan_17 : decode cX8_hasPlan 17 = .ok (.if_icmp .gt 18, 3) := by decide +kernel
theorem dX8_hasPlan_20 : decode cX8_hasPlan 20 = .ok (.iload_n 1, 1) := by decide +kernel
theorem dX8_hasPlan_21 : decode cX8_hasPlan 21 = .ok (.aload_n 0, 1) := by decide +kernel
theorem dX8_hasPlan_22 : decode cX8_hasPlan 22 = .ok (.getfield 32, 3) := by decide +kernel
theorem dX8_hasPlan_25 : decode cX8_hasPlan 25 = .ok (.getfield 168, 3) := by decide +kernel
theorem dX8_hasPlan_28 : decode cX8_hasPlan 28 = .ok (.if_icmp .gt 7, 3) := by decide +kernel
theorem dX8_hasPlan_31 : decode cX8_hasPlan 31 = .ok (.iconst 1, 1) := by decide +kernel
theorem dX8_hasPlan_32 : decode cX8_hasPlan 32 = .ok (.goto 4, 3) := by decide +kernel
theorem dX8_hasPlan_35 : decode cX8_hasPlan 35 = .ok (.iconst 0, 1) := by decide +kernel
theorem dX8_hasPlan_36 : decode cX8_hasPlan 36 = .ok (.ireturn, 1) := by decide +kernel
theorem dX8_high_0 : decode cX8_high 0 = .ok (.aload_n 0, 1) := by decide +kernel
theorem dX8_high_1 : decode cX8_high 1 = .ok (.iload_n 1, 1) := by decide +kernel
theorem dX8_high_2 : decode cX8_high 2 = .ok (.iload_n 2, 1) := by decide +kernel
theorem dX8_high_3 : decode cX8_high 3 = .ok (.invokevirtual 289, 3) := by decide +kernel
theorem dX8_high_6 : decode cX8_high 6 = .ok (.istore_n 3, 1) := by decide +kernel
theorem dX8_high_7 : decode cX8_high 7 = .ok (.iload_n 3, 1) := by decide +kernel
theorem dX8_high_8 : decode cX8_high 8 = .ok (.ifCond .eq 5, 3) := by decide +kernel
theorem dX8_high_11 : decode cX8_high 11 = .ok (.iload_n 3, 1) := by decide +kernel
theorem dX8_high_12 : decode cX8_high 12 = .ok (.ireturn, 1) := by decide +kernel
theorem dX8_high_13 : decode cX8_high 13 = .ok (.aload_n 0, 1) := by decide +kernel
theorem dX8_high_14 : decode cX8_high 14 = .ok (.getfield 83, 3) := by decide +kernel
theorem dX8_high_17 : decode cX8_high 17 = .ok (.iload_n 1, 1) := by decide +kernel
theorem dX8_high_18 : decode cX8_high 18 = .ok (.iload_n 2, 1) := by decide +kernel
theorem dX8_high_19 : decode cX8_high 19 = .ok (.aload_n 0, 1) := by decide +kernel
theorem dX8_high_20 : decode cX8_high 20 = .ok (.invokevirtual 189, 3) := by decide +kernel
theorem dX8_high_23 : decode cX8_high 23 = .ok (.invokevirtual 292, 3) := by decide +kernel
theorem dX8_high_26 : decode cX8_high 26 = .ok (.pop, 1) := by decide +kernel
theorem dX8_high_27 : decode cX8_high 27 = .ok (.aload_n 0, 1) := by decide +kernel
theorem dX8_high_28 : decode cX8_high 28 = .ok (.getfield 83, 3) := by decide +kernel
theorem dX8_high_31 : decode cX8_high 31 = .ok (.invokevirtual 299, 3) := by decide +kernel
theorem dX8_high_34 : decode cX8_high 34 = .ok (.ireturn, 1) := by decide +kernel
theorem dX8_how_0 : decode cX8_how 0 = .ok (.aload_n 0, 1) := by decide +kernel
theorem dX8_how_1 : decode cX8_how 1 = .ok (.getfield 32, 3) := by decide +kernel
theorem dX8_how_4 : decode cX8_how 4 = .ok (.iload_n 1, 1) := by decide +kernel
theorem dX8_how_5 : decode cX8_how 5 = .ok (.invokevirtual 127, 3) := by decide +kernel
theorem dX8_how_8 : decode cX8_how 8 = .ok (.ifCond .ne 6, 3) := by decide +kernel
theorem dX8_how_11 : decode cX8_how 11 = .ok (.bipush (-2), 2) := by decide +kernel
theorem dX8_how_13 : decode cX8_how 13 = .ok (.ireturn, 1) := by decide +kernel
theorem dX8_how_14 : decode cX8_how 14 = .ok (.aload_n 0, 1) := by decide +kernel
theorem dX8_how_15 : decode cX8_how 15 = .ok (.invokevirtual 189, 3) := by decide +kernel
theorem dX8_how_18 : decode cX8_how 18 = .ok (.astore_n 2, 1) := by decide +kernel
theorem dX8_how_19 : decode cX8_how 19 = .ok (.aload_n 2, 1) := by decide +kernel
theorem dX8_how_20 : decode cX8_how 20 = .ok (.iload_n 1, 1) := by decide +kernel
theorem dX8_how_21 : decode cX8_how 21 = .ok (.invokevirtual 202, 3) := by decide +kernel
theorem dX8_how_24 : decode cX8_how 24 = .ok (.iconst (-1), 1) := by decide +kernel
theorem dX8_how_25 : decode cX8_how 25 = .ok (.if_icmp .ne 5, 3) := by decide +kernel
theorem dX8_how_28 : decode cX8_how 28 = .ok (.iconst 0, 1) := by decide +kernel
theorem dX8_how_29 : decode cX8_how 29 = .ok (.ireturn, 1) := by decide +kernel
theorem dX8_how_30 : decode cX8_how 30 = .ok (.aload_n 2, 1) := by decide +kernel
theorem dX8_how_31 : decode cX8_how 31 = .ok (.getfield 205, 3) := by decide +kernel
theorem dX8_how_34 : decode cX8_how 34 = .ok (.iload_n 1, 1) := by decide +kernel
theorem dX8_how_35 : decode cX8_how 35 = .ok (.invokestatic 145, 3) := by decide +kernel
theorem dX8_how_38 : decode cX8_how 38 = .ok (.ifCond .eq 7, 3) := by decide +kernel
theorem dX8_how_41 : decode cX8_how 41 = .ok (.iconst 2, 1) := by decide +kernel
theorem dX8_how_42 : decode cX8_how 42 = .ok (.goto 4, 3) := by decide +kernel
theorem dX8_how_45 : decode cX8_how 45 = .ok (.iconst 1, 1) := by decide +kernel
theorem dX8_how_46 : decode cX8_how 46 = .ok (.ireturn, 1) := by decide +kernel
theorem dX8_idle_0 : decode cX8_idle 0 = .ok (.aload_n 0, 1) := by decide +kernel
theorem dX8_idle_1 : decode cX8_idle 1 = .ok (.getfield 32, 3) := by decide +kernel
theorem dX8_idle_4 : decode cX8_idle 4 = .ok (.invokevirtual 153, 3) := by decide +kernel
theorem dX8_idle_7 : decode cX8_idle 7 = .ok (.ifCond .ne 6, 3) := by decide +kernel
theorem dX8_idle_10 : decode cX8_idle 10 = .ok (.bipush (-2), 2) := by decide +kernel
theorem dX8_idle_12 : decode cX8_idle 12 = .ok (.ireturn, 1) := by decide +kernel
theorem dX8_idle_13 : decode cX8_idle 13 = .ok (.aload_n 0, 1) := by decide +kernel
theorem dX8_idle_14 : decode cX8_idle 14 = .ok (.invokevirtual 234, 3) := by decide +kernel
theorem dX8_idle_17 : decode cX8_idle 17 = .ok (.istore_n 1, 1) := by decide +kernel
theorem dX8_idle_18 : decode cX8_idle 18 = .ok (.iconst 0, 1) := by decide +kernel
theorem dX8_idle_19 : decode cX8_idle 19 = .ok (.istore_n 2, 1) := by decide +kernel
theorem dX8_idle_20 : decode cX8_idle 20 = .ok (.iconst 0, 1) := by decide +kernel
theorem dX8_idle_21 : decode cX8_idle 21 = .ok (.istore_n 3, 1) := by decide +kernel
theorem dX8_idle_22 : decode cX8_idle 22 = .ok (.iload_n 3, 1) := by decide +kernel
theorem dX8_idle_23 : decode cX8_idle 23 = .ok (.aload_n 0, 1) := by decide +kernel
theorem dX8_idle_24 : decode cX8_idle 24 = .ok (.getfield 32, 3) := by decide +kernel
theorem dX8_idle_27 : decode cX8_idle 27 = .ok (.getfield 162, 3) := by decide +kernel
theorem dX8_idle_30 : decode cX8_idle 30 = .ok (.if_icmp .ge 42, 3) := by decide +kernel
theorem dX8_idle_33 : decode cX8_idle 33 = .ok (.aload_n 0, 1) := by decide +kernel
theorem dX8_idle_34 : decode cX8_idle 34 = .ok (.getfield 32, 3) := by decide +kernel
theorem dX8_idle_37 : decode cX8_idle 37 = .ok (.aload_n 0, 1) := by decide +kernel
theorem dX8_idle_38 : decode cX8_idle 38 = .ok (.getfield 32, 3) := by decide +kernel
theorem dX8_idle_41 : decode cX8_idle 41 = .ok (.getfield 237, 3) := by decide +kernel
theorem dX8_idle_44 : decode cX8_idle 44 = .ok (.iload_n 3, 1) := by decide +kernel
theorem dX8_idle_45 : decode cX8_idle 45 = .ok (.iaload, 1) := by decide +kernel
theorem dX8_idle_46 : decode cX8_idle 46 = .ok (.invokevirtual 211, 3) := by decide +kernel
theorem dX8_idle_49 : decode cX8_idle 49 = .ok (.ifCond .eq 17, 3) := by decide +kernel
theorem dX8_idle_52 : decode cX8_idle 52 = .ok (.iload_n 1, 1) := by decide +kernel
theorem dX8_idle_53 : decode cX8_idle 53 = .ok (.iload_n 3, 1) := by decide +kernel
theorem dX8_idle_54 : decode cX8_idle 54 = .ok (.invokestatic 145, 3) := by decide +kernel
theorem dX8_idle_57 : decode cX8_idle 57 = .ok (.ifCond .ne 9, 3) := by decide +kernel
theorem dX8_idle_60 : decode cX8_idle 60 = .ok (.iload_n 2, 1) := by decide +kernel
theorem dX8_idle_61 : decode cX8_idle 61 = .ok (.iconst 1, 1) := by decide +kernel
theorem dX8_idle_62 : decode cX8_idle 62 = .ok (.iload_n 3, 1) := by decide +kernel
theorem dX8_idle_63 : decode cX8_idle 63 = .ok (.ishl, 1) := by decide +kernel
theorem dX8_idle_64 : decode cX8_idle 64 = .ok (.ior, 1) := by decide +kernel
theorem dX8_idle_65 : decode cX8_idle 65 = .ok (.istore_n 2, 1) := by decide +kernel
theorem dX8_idle_66 : decode cX8_idle 66 = .ok (.iinc 3 1, 3) := by decide +kernel
theorem dX8_idle_69 : decode cX8_idle 69 = .ok (.goto (-47), 3) := by decide +kernel
theorem dX8_idle_72 : decode cX8_idle 72 = .ok (.iload_n 2, 1) := by decide +kernel
theorem dX8_idle_73 : decode cX8_idle 73 = .ok (.ireturn, 1) := by decide +kernel
theorem dX8_image_0 : decode cX8_image 0 = .ok (.iload_n 1, 1) := by decide +kernel
theorem dX8_image_1 : decode cX8_image 1 = .ok (.ifCond .lt 8, 3) := by decide +kernel
theorem dX8_image_4 : decode cX8_image 4 = .ok (.iload_n 1, 1) := by decide +kernel
theorem dX8_image_5 : decode cX8_image 5 = .ok (.iconst 3, 1) := by decide +kernel
theorem dX8_image_6 : decode cX8_image 6 = .ok (.if_icmp .lt 6, 3) := by decide +kernel
theorem dX8_image_9 : decode cX8_image 9 = .ok (.bipush (-2), 2) := by decide +kernel
theorem dX8_image_11 : decode cX8_image 11 = .ok (.ireturn, 1) := by decide +kernel
theorem dX8_image_12 : decode cX8_image 12 = .ok (.aload_n 0, 1) := by decide +kernel
theorem dX8_image_13 : decode cX8_image 13 = .ok (.getfield 35, 3) := by decide +kernel
theorem dX8_image_16 : decode cX8_image 16 = .ok (.iload_n 1, 1) := by decide +kernel
theorem dX8_image_17 : decode cX8_image 17 = .ok (.aaload, 1) := by decide +kernel
theorem dX8_image_18 : decode cX8_image 18 = .ok (.aload_n 0, 1) := by decide +kernel
theorem dX8_image_19 : decode cX8_image 19 = .ok (.getfield 32, 3) := by decide +kernel
theorem dX8_image_22 : decode cX8_image 22 = .ok (.invokevirtual 112, 3) := by decide +kernel
theorem dX8_image_25 : decode cX8_image 25 = .ok (.aload_n 0, 1) := by decide +kernel
theorem dX8_image_26 : decode cX8_image 26 = .ok (.getfield 39, 3) := by decide +kernel
theorem dX8_image_29 : decode cX8_image 29 = .ok (.iload_n 1, 1) := by decide +kernel
theorem dX8_image_30 : decode cX8_image 30 = .ok (.iconst 1, 1) := by decide +kernel
theorem dX8_image_31 : decode cX8_image 31 = .ok (.bastore, 1) := by decide +kernel
theorem dX8_image_32 : decode cX8_image 32 = .ok (.iconst 0, 1) := by decide +kernel
theorem dX8_image_33 : decode cX8_image 33 = .ok (.ireturn, 1) := by decide +kernel
theorem dX8_isAboveOrBelow_0 : decode cX8_isAboveOrBelow 0 = .ok (.iload_n 0, 1) := by decide +kernel
theorem dX8_isAboveOrBelow_1 : decode cX8_isAboveOrBelow 1 = .ok (.ifCond .eq 8, 3) := by decide +kernel
theorem dX8_isAboveOrBelow_4 : decode cX8_isAboveOrBelow 4 = .ok (.iload_n 0, 1) := by decide +kernel
theorem dX8_isAboveOrBelow_5 : decode cX8_isAboveOrBelow 5 = .ok (.iconst 1, 1) := by decide +kernel
theorem dX8_isAboveOrBelow_6 : decode cX8_isAboveOrBelow 6 = .ok (.if_icmp .ne 7, 3) := by decide +kernel
theorem dX8_isAboveOrBelow_9 : decode cX8_isAboveOrBelow 9 = .ok (.iconst 1, 1) := by decide +kernel
theorem dX8_isAboveOrBelow_10 : decode cX8_isAboveOrBelow 10 = .ok (.goto 4, 3) := by decide +kernel
theorem dX8_isAboveOrBelow_13 : decode cX8_isAboveOrBelow 13 = .ok (.iconst 0, 1) := by decide +kernel
theorem dX8_isAboveOrBelow_14 : decode cX8_isAboveOrBelow 14 = .ok (.ireturn, 1) := by decide +kernel
theorem dX8_isChoice_0 : decode cX8_isChoice 0 = .ok (.iload_n 0, 1) := by decide +kernel
theorem dX8_isChoice_1 : decode cX8_isChoice 1 = .ok (.ifCond .eq 8, 3) := by decide +kernel
theorem dX8_isChoice_4 : decode cX8_isChoice 4 = .ok (.iload_n 0, 1) := by decide +kernel
theorem dX8_isChoice_5 : decode cX8_isChoice 5 = .ok (.iconst 1, 1) := by decide +kernel
theorem dX8_isChoice_6 : decode cX8_isChoice 6 = .ok (.if_icmp .ne 7, 3) := by decide +kernel
theorem dX8_isChoice_9 : decode cX8_isChoice 9 = .ok (.iconst 1, 1) := by decide +kernel
theorem dX8_isChoice_10 : decode cX8_isChoice 10 = .ok (.goto 4, 3) := by decide +kernel
theorem dX8_isChoice_13 : decode cX8_isChoice 13 = .ok (.iconst 0, 1) := by decide +kernel
theorem dX8_isChoice_14 : decode cX8_isChoice 14 = .ok (.ireturn, 1) := by decide +kernel
theorem dX8_isPair_0 : decode cX8_isPair 0 = .ok (.aload_n 0, 1) := by decide +kernel
theorem dX8_isPair_1 : decode cX8_isPair 1 = .ok (.getfield 32, 3) := by decide +kernel
theorem dX8_isPair_4 : decode cX8_isPair 4 = .ok (.iload_n 1, 1) := by decide +kernel
theorem dX8_isPair_5 : decode cX8_isPair 5 = .ok (.invokevirtual 127, 3) := by decide +kernel
theorem dX8_isPair_8 : decode cX8_isPair 8 = .ok (.ifCond .eq 23, 3) := by decide +kernel
theorem dX8_isPair_11 : decode cX8_isPair 11 = .ok (.aload_n 0, 1) := by decide +kernel
theorem dX8_isPair_12 : decode cX8_isPair 12 = .ok (.getfield 32, 3) := by decide +kernel
theorem dX8_isPair_15 : decode cX8_isPair 15 = .ok (.iload_n 2, 1) := by decide +kernel
theorem dX8_isPair_16 : decode cX8_isPair 16 = .ok (.invokevirtual 127, 3) := by decide +kernel
theorem dX8_isPair_19 : decode cX8_isPair 19 = .ok (.ifCond .eq 12, 3) := by decide +kernel
theorem dX8_isPair_22 : decode cX8_isPair 22 = .ok (.iload_n 1, 1) := by decide +kernel
theorem dX8_isPair_23 : decode cX8_isPair 23 = .ok (.iload_n 2, 1) := by decide +kernel
theorem dX8_isPair_24 : decode cX8_isPair 24 = .ok (.if_icmp .eq 7, 3) := by decide +kernel
theorem dX8_isPair_27 : decode cX8_isPair 27 = .ok (.iconst 1, 1) := by decide +kernel
theorem dX8_isPair_28 : decode cX8_isPair 28 = .ok (.goto 4, 3) := by decide +kernel
theorem dX8_isPair_31 : decode cX8_isPair 31 = .ok (.iconst 0, 1) := by decide +kernel
theorem dX8_isPair_32 : decode cX8_isPair 32 = .ok (.ireturn, 1) := by decide +kernel
theorem dX8_isSeed_0 : decode cX8_isSeed 0 = .ok (.iload_n 0, 1) := by decide +kernel
theorem dX8_isSeed_1 : decode cX8_isSeed 1 = .ok (.ifCond .lt 14, 3) := by decide +kernel
theorem dX8_isSeed_4 : decode cX8_isSeed 4 = .ok (.iload_n 0, 1) := by decide +kernel
theorem dX8_isSeed_5 : decode cX8_isSeed 5 = .ok (.ldc_w 402, 3) := by decide +kernel
theorem dX8_isSeed_8 : decode cX8_isSeed 8 = .ok (.if_icmp .gt 7, 3) := by decide +kernel
theorem dX8_isSeed_11 : decode cX8_isSeed 11 = .ok (.iconst 1, 1) := by decide +kernel
theorem dX8_isSeed_12 : decode cX8_isSeed 12 = .ok (.goto 4, 3) := by decide +kernel
theorem dX8_isSeed_15 : decode cX8_isSeed 15 = .ok (.iconst 0, 1) := by decide +kernel
theorem dX8_isSeed_16 : decode cX8_isSeed 16 = .ok (.ireturn, 1) := by decide +kernel
theorem dX8_keeps_0 : decode cX8_keeps 0 = .ok (.aload_n 0, 1) := by decide +kernel
theorem dX8_keeps_1 : decode cX8_keeps 1 = .ok (.iload_n 1, 1) := by decide +kernel
theorem dX8_keeps_2 : decode cX8_keeps 2 = .ok (.iload_n 2, 1) := by decide +kernel
theorem dX8_keeps_3 : decode cX8_keeps 3 = .ok (.invokevirtual 186, 3) := by decide +kernel
theorem dX8_keeps_6 : decode cX8_keeps 6 = .ok (.ifCond .eq 15, 3) := by decide +kernel
theorem dX8_keeps_9 : decode cX8_keeps 9 = .ok (.aload_n 0, 1) := by decide +kernel
theorem dX8_keeps_10 : decode cX8_keeps 10 = .ok (.invokevirtual 189, 3) := by decide +kernel
theorem dX8_keeps_13 : decode cX8_keeps 13 = .ok (.iload_n 1, 1) := by decide +kernel
theorem dX8_keeps_14 : decode cX8_keeps 14 = .ok (.iload_n 2, 1) := by decide +kernel
theorem dX8_keeps_15 : decode cX8_keeps 15 = .ok (.invokevirtual 220, 3) := by decide +kernel
theorem dX8_keeps_18 : decode cX8_keeps 18 = .ok (.goto 5, 3) := by decide +kernel
theorem dX8_keeps_21 : decode cX8_keeps 21 = .ok (.bipush (-2), 2) := by decide +kernel
theorem dX8_keeps_23 : decode cX8_keeps 23 = .ok (.ireturn, 1) := by decide +kernel
theorem dX8_knife_0 : decode cX8_knife 0 = .ok (.aload_n 0, 1) := by decide +kernel
theorem dX8_knife_1 : decode cX8_knife 1 = .ok (.iload_n 1, 1) := by decide +kernel
theorem dX8_knife_2 : decode cX8_knife 2 = .ok (.iload_n 2, 1) := by decide +kernel
theorem dX8_knife_3 : decode cX8_knife 3 = .ok (.invokevirtual 371, 3) := by decide +kernel
theorem dX8_knife_6 : decode cX8_knife 6 = .ok (.istore_n 3, 1) := by decide +kernel
theorem dX8_knife_7 : decode cX8_knife 7 = .ok (.iload_n 3, 1) := by decide +kernel
theorem dX8_knife_8 : decode cX8_knife 8 = .ok (.ifCond .eq 5, 3) := by decide +kernel
theorem dX8_knife_11 : decode cX8_knife 11 = .ok (.iload_n 3, 1) := by decide +kernel
theorem dX8_knife_12 : decode cX8_knife 12 = .ok (.ireturn, 1) := by decide +kernel
theorem dX8_knife_13 : decode cX8_knife 13 = .ok (.aload_n 0, 1) := by decide +kernel
theorem dX8_knife_14 : decode cX8_knife 14 = .ok (.getfield 32, 3) := by decide +kernel
theorem dX8_knife_17 : decode cX8_knife 17 = .ok (.iconst 0, 1) := by decide +kernel
theorem dX8_knife_18 : decode cX8_knife 18 = .ok (.iload_n 1, 1) := by decide +kernel
theorem dX8_knife_19 : decode cX8_knife 19 = .ok (.iload_n 2, 1) := by decide +kernel
theorem dX8_knife_20 : decode cX8_knife 20 = .ok (.invokevirtual 374, 3) := by decide +kernel
theorem dX8_knife_23 : decode cX8_knife 23 = .ok (.aload_n 0, 1) := by decide +kernel
theorem dX8_knife_24 : decode cX8_knife 24 = .ok (.invokevirtual 115, 3) := by decide +kernel
theorem dX8_knife_27 : decode cX8_knife 27 = .ok (.aload_n 0, 1) := by decide +kernel
theorem dX8_knife_28 : decode cX8_knife 28 = .ok (.invokevirtual 189, 3) := by decide +kernel
theorem dX8_knife_31 : decode cX8_knife 31 = .ok (.invokevirtual 217, 3) := by decide +kernel
theorem dX8_knife_34 : decode cX8_knife 34 = .ok (.ireturn, 1) := by decide +kernel
theorem dX8_knives_0 : decode cX8_knives 0 = .ok (.aload_n 0, 1) := by decide +kernel
theorem dX8_knives_1 : decode cX8_knives 1 = .ok (.getfield 32, 3) := by decide +kernel
theorem dX8_knives_4 : decode cX8_knives 4 = .ok (.iload_n 1, 1) := by decide +kernel
theorem dX8_knives_5 : decode cX8_knives 5 = .ok (.invokevirtual 127, 3) := by decide +kernel
theorem dX8_knives_8 : decode cX8_knives 8 = .ok (.ifCond .ne 6, 3) := by decide +kernel
theorem dX8_knives_11 : decode cX8_knives 11 = .ok (.bipush (-2), 2) := by decide +kernel
theorem dX8_knives_13 : decode cX8_knives 13 = .ok (.ireturn, 1) := by decide +kernel
theorem dX8_knives_14 : decode cX8_knives 14 = .ok (.iconst 0, 1) := by decide +kernel
theorem dX8_knives_15 : decode cX8_knives 15 = .ok (.istore_n 2, 1) := by decide +kernel
theorem dX8_knives_16 : decode cX8_knives 16 = .ok (.iconst 0, 1) := by decide +kernel
theorem dX8_knives_17 : decode cX8_knives 17 = .ok (.istore_n 3, 1) := by decide +kernel
theorem dX8_knives_18 : decode cX8_knives 18 = .ok (.iload_n 3, 1) := by decide +kernel
theorem dX8_knives_19 : decode cX8_knives 19 = .ok (.aload_n 0, 1) := by decide +kernel
theorem dX8_knives_20 : decode cX8_knives 20 = .ok (.getfield 32, 3) := by decide +kernel
theorem dX8_knives_23 : decode cX8_knives 23 = .ok (.getfield 162, 3) := by decide +kernel
theorem dX8_knives_26 : decode cX8_knives 26 = .ok (.if_icmp .ge 28, 3) := by decide +kernel
theorem dX8_knives_29 : decode cX8_knives 29 = .ok (.aload_n 0, 1) := by decide +kernel
theorem dX8_knives_30 : decode cX8_knives 30 = .ok (.getfield 32, 3) := by decide +kernel
theorem dX8_knives_33 : decode cX8_knives 33 = .ok (.getfield 165, 3) := by decide +kernel
theorem dX8_knives_36 : decode cX8_knives 36 = .ok (.iload_n 3, 1) := by decide +kernel
theorem dX8_knives_37 : decode cX8_knives 37 = .ok (.iaload, 1) := by decide +kernel
theorem dX8_knives_38 : decode cX8_knives 38 = .ok (.iload_n 1, 1) := by decide +kernel
theorem dX8_knives_39 : decode cX8_knives 39 = .ok (.if_icmp .ne 9, 3) := by decide +kernel
theorem dX8_knives_42 : decode cX8_knives 42 = .ok (.iload_n 2, 1) := by decide +kernel
theorem dX8_knives_43 : decode cX8_knives 43 = .ok (.iconst 1, 1) := by decide +kernel
theorem dX8_knives_44 : decode cX8_knives 44 = .ok (.iload_n 3, 1) := by decide +kernel
theorem dX8_knives_45 : decode cX8_knives 45 = .ok (.ishl, 1) := by decide +kernel
theorem dX8_knives_46 : decode cX8_knives 46 = .ok (.ior, 1) := by decide +kernel
theorem dX8_knives_47 : decode cX8_knives 47 = .ok (.istore_n 2, 1) := by decide +kernel
theorem dX8_knives_48 : decode cX8_knives 48 = .ok (.iinc 3 1, 3) := by decide +kernel
theorem dX8_knives_51 : decode cX8_knives 51 = .ok (.goto (-33), 3) := by decide +kernel
theorem dX8_knives_54 : decode cX8_knives 54 = .ok (.iload_n 2, 1) := by decide +kernel
theorem dX8_knives_55 : decode cX8_knives 55 = .ok (.ireturn, 1) := by decide +kernel
theorem dX8_knivesDrawn_0 : decode cX8_knivesDrawn 0 = .ok (.lload_n 1, 1) := by decide +kernel
theorem dX8_knivesDrawn_1 : decode cX8_knivesDrawn 1 = .ok (.lstore_n 3, 1) := by decide +kernel
theorem dX8_knivesDrawn_2 : decode cX8_knivesDrawn 2 = .ok (.iconst 0, 1) := by decide +kernel
theorem dX8_knivesDrawn_3 : decode cX8_knivesDrawn 3 = .ok (.istore 5, 2) := by decide +kernel
theorem dX8_knivesDrawn_5 : decode cX8_knivesDrawn 5 = .ok (.iconst 0, 1) := by decide +kernel
theorem dX8_knivesDrawn_6 : decode cX8_knivesDrawn 6 = .ok (.istore 6, 2) := by decide +kernel
theorem dX8_knivesDrawn_8 : decode cX8_knivesDrawn 8 = .ok (.iload 6, 2) := by decide +kernel
theorem dX8_knivesDrawn_10 : decode cX8_knivesDrawn 10 = .ok (.aload_n 0, 1) := by decide +kernel
theorem dX8_knivesDrawn_11 : decode cX8_knivesDrawn 11 = .ok (.getfield 32, 3) := by decide +kernel
theorem dX8_knivesDrawn_14 : decode cX8_knivesDrawn 14 = .ok (.getfield 162, 3) := by decide +kernel
theorem dX8_knivesDrawn_17 : decode cX8_knivesDrawn 17 = .ok (.if_icmp .ge 53, 3) := by decide +kernel
theorem dX8_knivesDrawn_20 : decode cX8_knivesDrawn 20 = .ok (.ldc2_w 447, 3) := by decide +kernel
theorem dX8_knivesDrawn_23 : decode cX8_knivesDrawn 23 = .ok (.lload_n 3, 1) := by decide +kernel
theorem dX8_knivesDrawn_24 : decode cX8_knivesDrawn 24 = .ok (.lmul, 1) := by decide +kernel
theorem dX8_knivesDrawn_25 : decode cX8_knivesDrawn 25 = .ok (.ldc2_w 449, 3) := by decide +kernel
theorem dX8_knivesDrawn_28 : decode cX8_knivesDrawn 28 = .ok (.ladd, 1) := by decide +kernel
theorem dX8_knivesDrawn_29 : decode cX8_knivesDrawn 29 = .ok (.ldc2_w 451, 3) := by decide +kernel
theorem dX8_knivesDrawn_32 : decode cX8_knivesDrawn 32 = .ok (.lrem, 1) := by decide +kernel
theorem dX8_knivesDrawn_33 : decode cX8_knivesDrawn 33 = .ok (.lstore_n 3, 1) := by decide +kernel
theorem dX8_knivesDrawn_34 : decode cX8_knivesDrawn 34 = .ok (.lload_n 3, 1) := by decide +kernel
theorem dX8_knivesDrawn_35 : decode cX8_knivesDrawn 35 = .ok (.ldc2_w 453, 3) := by decide +kernel
theorem dX8_knivesDrawn_38 : decode cX8_knivesDrawn 38 = .ok (.ldiv, 1) := by decide +kernel
theorem dX8_knivesDrawn_39 : decode cX8_knivesDrawn 39 = .ok (.ldc2_w 455, 3) := by decide +kernel
theorem dX8_knivesDrawn_42 : decode cX8_knivesDrawn 42 = .ok (.lrem, 1) := by decide +kernel
theorem dX8_knivesDrawn_43 : decode cX8_knivesDrawn 43 = .ok (.aload_n 0, 1) := by decide +kernel
theorem dX8_knivesDrawn_44 : decode cX8_knivesDrawn 44 = .ok (.getfield 32, 3) := by decide +kernel
theorem dX8_knivesDrawn_47 : decode cX8_knivesDrawn 47 = .ok (.getfield 174, 3) := by decide +kernel
theorem dX8_knivesDrawn_50 : decode cX8_knivesDrawn 50 = .ok (.i2l, 1) := by decide +kernel
theorem dX8_knivesDrawn_51 : decode cX8_knivesDrawn 51 = .ok (.lcmp, 1) := by decide +kernel
theorem dX8_knivesDrawn_52 : decode cX8_knivesDrawn 52 = .ok (.ifCond .ge 12, 3) := by decide +kernel
theorem dX8_knivesDrawn_55 : decode cX8_knivesDrawn 55 = .ok (.iload 5, 2) := by decide +kernel
theorem dX8_knivesDrawn_57 : decode cX8_knivesDrawn 57 = .ok (.iconst 1, 1) := by decide +kernel
theorem dX8_knivesDrawn_58 : decode cX8_knivesDrawn 58 = .ok (.iload 6, 2) := by decide +kernel
theorem dX8_knivesDrawn_60 : decode cX8_knivesDrawn 60 = .ok (.ishl, 1) := by decide +kernel
theorem dX8_knivesDrawn_61 : decode cX8_knivesDrawn 61 = .ok (.ior, 1) := by decide +kernel
theorem dX8_knivesDrawn_62 : decode cX8_knivesDrawn 62 = .ok (.istore 5, 2) := by decide +kernel
theorem dX8_knivesDrawn_64 : decode cX8_knivesDrawn 64 = .ok (.iinc 6 1, 3) := by decide +kernel
theorem dX8_knivesDrawn_67 : decode cX8_knivesDrawn 67 = .ok (.goto (-59), 3) := by decide +kernel
theorem dX8_knivesDrawn_70 : decode cX8_knivesDrawn 70 = .ok (.iload 5, 2) := by decide +kernel
theorem dX8_knivesDrawn_72 : decode cX8_knivesDrawn 72 = .ok (.ireturn, 1) := by decide +kernel
theorem dX8_law_0 : decode cX8_law 0 = .ok (.aload_n 0, 1) := by decide +kernel
theorem dX8_law_1 : decode cX8_law 1 = .ok (.getfield 32, 3) := by decide +kernel
theorem dX8_law_4 : decode cX8_law 4 = .ok (.invokevirtual 153, 3) := by decide +kernel
theorem dX8_law_7 : decode cX8_law 7 = .ok (.ifCond .ne 6, 3) := by decide +kernel
theorem dX8_law_10 : decode cX8_law 10 = .ok (.bipush (-2), 2) := by decide +kernel
theorem dX8_law_12 : decode cX8_law 12 = .ok (.ireturn, 1) := by decide +kernel
theorem dX8_law_13 : decode cX8_law 13 = .ok (.iconst 0, 1) := by decide +kernel
theorem dX8_law_14 : decode cX8_law 14 = .ok (.istore_n 1, 1) := by decide +kernel
theorem dX8_law_15 : decode cX8_law 15 = .ok (.iconst (-1), 1) := by decide +kernel
theorem dX8_law_16 : decode cX8_law 16 = .ok (.istore_n 2, 1) := by decide +kernel
theorem dX8_law_17 : decode cX8_law 17 = .ok (.iconst 0, 1) := by decide +kernel
theorem dX8_law_18 : decode cX8_law 18 = .ok (.istore_n 3, 1) := by decide +kernel
theorem dX8_law_19 : decode cX8_law 19 = .ok (.iload_n 3, 1) := by decide +kernel
theorem dX8_law_20 : decode cX8_law 20 = .ok (.iconst 4, 1) := by decide +kernel
theorem dX8_law_21 : decode cX8_law 21 = .ok (.if_icmp .ge 27, 3) := by decide +kernel
theorem dX8_law_24 : decode cX8_law 24 = .ok (.aload_n 0, 1) := by decide +kernel
theorem dX8_law_25 : decode cX8_law 25 = .ok (.iload_n 3, 1) := by decide +kernel
theorem dX8_law_26 : decode cX8_law 26 = .ok (.invokevirtual 326, 3) := by decide +kernel
theorem dX8_law_29 : decode cX8_law 29 = .ok (.istore 4, 2) := by decide +kernel
theorem dX8_law_31 : decode cX8_law 31 = .ok (.iload 4, 2) := by decide +kernel
theorem dX8_law_33 : decode cX8_law 33 = .ok (.iload_n 2, 1) := by decide +kernel
theorem dX8_law_34 : decode cX8_law 34 = .ok (.if_icmp .le 8, 3) := by decide +kernel
theorem dX8_law_37 : decode cX8_law 37 = .ok (.iload 4, 2) := by decide +kernel
theorem dX8_law_39 : decode cX8_law 39 = .ok (.istore_n 2, 1) := by decide +kernel
theorem dX8_law_40 : decode cX8_law 40 = .ok (.iload_n 3, 1) := by decide +kernel
theorem dX8_law_41 : decode cX8_law 41 = .ok (.istore_n 1, 1) := by decide +kernel
theorem dX8_law_42 : decode cX8_law 42 = .ok (.iinc 3 1, 3) := by decide +kernel
theorem dX8_law_45 : decode cX8_law 45 = .ok (.goto (-26), 3) := by decide +kernel
theorem dX8_law_48 : decode cX8_law 48 = .ok (.iload_n 1, 1) := by decide +kernel
theorem dX8_law_49 : decode cX8_law 49 = .ok (.ireturn, 1) := by decide +kernel
theorem dX8_laws_0 : decode cX8_laws 0 = .ok (.aload_n 0, 1) := by decide +kernel
theorem dX8_laws_1 : decode cX8_laws 1 = .ok (.getfield 32, 3) := by decide +kernel
theorem dX8_laws_4 : decode cX8_laws 4 = .ok (.invokevirtual 153, 3) := by decide +kernel
theorem dX8_laws_7 : decode cX8_laws 7 = .ok (.ifCond .eq 11, 3) := by decide +kernel
theorem dX8_laws_10 : decode cX8_laws 10 = .ok (.aload_n 0, 1) := by decide +kernel
theorem dX8_laws_11 : decode cX8_laws 11 = .ok (.iload_n 1, 1) := by decide +kernel
theorem dX8_laws_12 : decode cX8_laws 12 = .ok (.invokevirtual 312, 3) := by decide +kernel
theorem dX8_laws_15 : decode cX8_laws 15 = .ok (.goto 5, 3) := by decide +kernel
theorem dX8_laws_18 : decode cX8_laws 18 = .ok (.bipush (-2), 2) := by decide +kernel
theorem dX8_laws_20 : decode cX8_laws 20 = .ok (.istore_n 2, 1) := by decide +kernel
theorem dX8_laws_21 : decode cX8_laws 21 = .ok (.iload_n 2, 1) := by decide +kernel
theorem dX8_laws_22 : decode cX8_laws 22 = .ok (.ifCond .eq 5, 3) := by decide +kernel
theorem dX8_laws_25 : decode cX8_laws 25 = .ok (.iload_n 2, 1) := by decide +kernel
theorem dX8_laws_26 : decode cX8_laws 26 = .ok (.ireturn, 1) := by decide +kernel
theorem dX8_laws_27 : decode cX8_laws 27 = .ok (.aload_n 0, 1) := by decide +kernel
theorem dX8_laws_28 : decode cX8_laws 28 = .ok (.aload_n 0, 1) := by decide +kernel
theorem dX8_laws_29 : decode cX8_laws 29 = .ok (.getfield 32, 3) := by decide +kernel
theorem dX8_laws_32 : decode cX8_laws 32 = .ok (.invokevirtual 315, 3) := by decide +kernel
theorem dX8_laws_35 : decode cX8_laws 35 = .ok (.invokevirtual 318, 3) := by decide +kernel
theorem dX8_laws_38 : decode cX8_laws 38 = .ok (.iconst 0, 1) := by decide +kernel
theorem dX8_laws_39 : decode cX8_laws 39 = .ok (.istore_n 3, 1) := by decide +kernel
theorem dX8_laws_40 : decode cX8_laws 40 = .ok (.iconst 0, 1) := by decide +kernel
theorem dX8_laws_41 : decode cX8_laws 41 = .ok (.istore 4, 2) := by decide +kernel
theorem dX8_laws_43 : decode cX8_laws 43 = .ok (.iload 4, 2) := by decide +kernel
theorem dX8_laws_45 : decode cX8_laws 45 = .ok (.iconst 4, 1) := by decide +kernel
theorem dX8_laws_46 : decode cX8_laws 46 = .ok (.if_icmp .ge 41, 3) := by decide +kernel
theorem dX8_laws_49 : decode cX8_laws 49 = .ok (.aload_n 0, 1) := by decide +kernel
theorem dX8_laws_50 : decode cX8_laws 50 = .ok (.getfield 59, 3) := by decide +kernel
theorem dX8_laws_53 : decode cX8_laws 53 = .ok (.iload 4, 2) := by decide +kernel
theorem dX8_laws_55 : decode cX8_laws 55 = .ok (.putfield 321, 3) := by decide +kernel
theorem dX8_laws_58 : decode cX8_laws 58 = .ok (.aload_n 0, 1) := by decide +kernel
theorem dX8_laws_59 : decode cX8_laws 59 = .ok (.getfield 83, 3) := by decide +kernel
theorem dX8_laws_62 : decode cX8_laws 62 = .ok (.iload_n 1, 1) := by decide +kernel
theorem dX8_laws_63 : decode cX8_laws 63 = .ok (.iconst (-1), 1) := by decide +kernel
theorem dX8_laws_64 : decode cX8_laws 64 = .ok (.aload_n 0, 1) := by decide +kernel
theorem dX8_laws_65 : decode cX8_laws 65 = .ok (.getfield 59, 3) := by decide +kernel
theorem dX8_laws_68 : decode cX8_laws 68 = .ok (.invokevirtual 322, 3) := by decide +kernel
theorem dX8_laws_71 : decode cX8_laws 71 = .ok (.ifCond .eq 10, 3) := by decide +kernel
theorem dX8_laws_74 : decode cX8_laws 74 = .ok (.iload_n 3, 1) := by decide +kernel
theorem dX8_laws_75 : decode cX8_laws 75 = .ok (.iconst 1, 1) := by decide +kernel
theorem dX8_laws_76 : decode cX8_laws 76 = .ok (.iload 4, 2) := by decide +kernel
theorem dX8_laws_78 : decode cX8_laws 78 = .ok (.ishl, 1) := by decide +kernel
theorem dX8_laws_79 : decode cX8_laws 79 = .ok (.ior, 1) := by decide +kernel
theorem dX8_laws_80 : decode cX8_laws 80 = .ok (.istore_n 3, 1) := by decide +kernel
theorem dX8_laws_81 : decode cX8_laws 81 = .ok (.iinc 4 1, 3) := by decide +kernel
theorem dX8_laws_84 : decode cX8_laws 84 = .ok (.goto (-41), 3) := by decide +kernel
theorem dX8_laws_87 : decode cX8_laws 87 = .ok (.iload_n 3, 1) := by decide +kernel
theorem dX8_laws_88 : decode cX8_laws 88 = .ok (.ireturn, 1) := by decide +kernel
theorem dX8_leaves_0 : decode cX8_leaves 0 = .ok (.aload_n 0, 1) := by decide +kernel
theorem dX8_leaves_1 : decode cX8_leaves 1 = .ok (.iload_n 1, 1) := by decide +kernel
theorem dX8_leaves_2 : decode cX8_leaves 2 = .ok (.iload_n 2, 1) := by decide +kernel
theorem dX8_leaves_3 : decode cX8_leaves 3 = .ok (.invokevirtual 289, 3) := by decide +kernel
theorem dX8_leaves_6 : decode cX8_leaves 6 = .ok (.istore_n 3, 1) := by decide +kernel
theorem dX8_leaves_7 : decode cX8_leaves 7 = .ok (.iload_n 3, 1) := by decide +kernel
theorem dX8_leaves_8 : decode cX8_leaves 8 = .ok (.ifCond .eq 5, 3) := by decide +kernel
theorem dX8_leaves_11 : decode cX8_leaves 11 = .ok (.iload_n 3, 1) := by decide +kernel
theorem dX8_leaves_12 : decode cX8_leaves 12 = .ok (.ireturn, 1) := by decide +kernel
theorem dX8_leaves_13 : decode cX8_leaves 13 = .ok (.aload_n 0, 1) := by decide +kernel
theorem dX8_leaves_14 : decode cX8_leaves 14 = .ok (.getfield 83, 3) := by decide +kernel
theorem dX8_leaves_17 : decode cX8_leaves 17 = .ok (.iload_n 1, 1) := by decide +kernel
theorem dX8_leaves_18 : decode cX8_leaves 18 = .ok (.iload_n 2, 1) := by decide +kernel
theorem dX8_leaves_19 : decode cX8_leaves 19 = .ok (.aload_n 0, 1) := by decide +kernel
theorem dX8_leaves_20 : decode cX8_leaves 20 = .ok (.invokevirtual 189, 3) := by decide +kernel
theorem dX8_leaves_23 : decode cX8_leaves 23 = .ok (.invokevirtual 302, 3) := by decide +kernel
theorem dX8_leaves_26 : decode cX8_leaves 26 = .ok (.aload_n 0, 1) := by decide +kernel
theorem dX8_leaves_27 : decode cX8_leaves 27 = .ok (.getfield 83, 3) := by decide +kernel
theorem dX8_leaves_30 : decode cX8_leaves 30 = .ok (.getfield 309, 3) := by decide +kernel
theorem dX8_leaves_33 : decode cX8_leaves 33 = .ok (.ireturn, 1) := by decide +kernel
theorem dX8_lone_0 : decode cX8_lone 0 = .ok (.aload_n 0, 1) := by decide +kernel
theorem dX8_lone_1 : decode cX8_lone 1 = .ok (.getfield 32, 3) := by decide +kernel
theorem dX8_lone_4 : decode cX8_lone 4 = .ok (.iload_n 1, 1) := by decide +kernel
theorem dX8_lone_5 : decode cX8_lone 5 = .ok (.invokevirtual 196, 3) := by decide +kernel
theorem dX8_lone_8 : decode cX8_lone 8 = .ok (.ifCond .ne 6, 3) := by decide +kernel
theorem dX8_lone_11 : decode cX8_lone 11 = .ok (.bipush (-2), 2) := by decide +kernel
theorem dX8_lone_13 : decode cX8_lone 13 = .ok (.ireturn, 1) := by decide +kernel
theorem dX8_lone_14 : decode cX8_lone 14 = .ok (.aload_n 0, 1) := by decide +kernel
theorem dX8_lone_15 : decode cX8_lone 15 = .ok (.invokevirtual 189, 3) := by decide +kernel
theorem dX8_lone_18 : decode cX8_lone 18 = .ok (.iload_n 1, 1) := by decide +kernel
theorem dX8_lone_19 : decode cX8_lone 19 = .ok (.invokevirtual 199, 3) := by decide +kernel
theorem dX8_lone_22 : decode cX8_lone 22 = .ok (.istore_n 2, 1) := by decide +kernel
theorem dX8_lone_23 : decode cX8_lone 23 = .ok (.iconst 0, 1) := by decide +kernel
theorem dX8_lone_24 : decode cX8_lone 24 = .ok (.istore_n 3, 1) := by decide +kernel
theorem dX8_lone_25 : decode cX8_lone 25 = .ok (.iconst 0, 1) := by decide +kernel
theorem dX8_lone_26 : decode cX8_lone 26 = .ok (.istore 4, 2) := by decide +kernel
theorem dX8_lone_28 : decode cX8_lone 28 = .ok (.iload 4, 2) := by decide +kernel
theorem dX8_lone_30 : decode cX8_lone 30 = .ok (.aload_n 0, 1) := by decide +kernel
theorem dX8_lone_31 : decode cX8_lone 31 = .ok (.getfield 32, 3) := by decide +kernel
theorem dX8_lone_34 : decode cX8_lone 34 = .ok (.getfield 156, 3) := by decide +kernel
theorem dX8_lone_37 : decode cX8_lone 37 = .ok (.if_icmp .ge 51, 3) := by decide +kernel
theorem dX8_lone_40 : decode cX8_lone 40 = .ok (.aload_n 0, 1) := by decide +kernel
theorem dX8_lone_41 : decode cX8_lone 41 = .ok (.getfield 32, 3) := by decide +kernel
theorem dX8_lone_44 : decode cX8_lone 44 = .ok (.iload 4, 2) := by decide +kernel
theorem dX8_lone_46 : decode cX8_lone 46 = .ok (.iconst (-1), 1) := by decide +kernel
theorem dX8_lone_47 : decode cX8_lone 47 = .ok (.invokevirtual 141, 3) := by decide +kernel
theorem dX8_lone_50 : decode cX8_lone 50 = .ok (.istore 5, 2) := by decide +kernel
theorem dX8_lone_52 : decode cX8_lone 52 = .ok (.iload_n 2, 1) := by decide +kernel
theorem dX8_lone_53 : decode cX8_lone 53 = .ok (.iload 4, 2) := by decide +kernel
theorem dX8_lone_55 : decode cX8_lone 55 = .ok (.invokestatic 145, 3) := by decide +kernel
theorem dX8_lone_58 : decode cX8_lone 58 = .ok (.ifCond .ne 24, 3) := by decide +kernel
theorem dX8_lone_61 : decode cX8_lone 61 = .ok (.iload 5, 2) := by decide +kernel
theorem dX8_lone_63 : decode cX8_lone 63 = .ok (.ifCond .eq 19, 3) := by decide +kernel
theorem dX8_lone_66 : decode cX8_lone 66 = .ok (.iload 5, 2) := by decide +kernel
theorem dX8_lone_68 : decode cX8_lone 68 = .ok (.iload_n 2, 1) := by decide +kernel
theorem dX8_lone_69 : decode cX8_lone 69 = .ok (.iconst (-1), 1) := by decide +kernel
theorem dX8_lone_70 : decode cX8_lone 70 = .ok (.ixor, 1) := by decide +kernel
theorem dX8_lone_71 : decode cX8_lone 71 = .ok (.iand, 1) := by decide +kernel
theorem dX8_lone_72 : decode cX8_lone 72 = .ok (.ifCond .ne 10, 3) := by decide +kernel
theorem dX8_lone_75 : decode cX8_lone 75 = .ok (.iload_n 3, 1) := by decide +kernel
theorem dX8_lone_76 : decode cX8_lone 76 = .ok (.iconst 1, 1) := by decide +kernel
theorem dX8_lone_77 : decode cX8_lone 77 = .ok (.iload 4, 2) := by decide +kernel
theorem dX8_lone_79 : decode cX8_lone 79 = .ok (.ishl, 1) := by decide +kernel
theorem dX8_lone_80 : decode cX8_lone 80 = .ok (.ior, 1) := by decide +kernel
theorem dX8_lone_81 : decode cX8_lone 81 = .ok (.istore_n 3, 1) := by decide +kernel
theorem dX8_lone_82 : decode cX8_lone 82 = .ok (.iinc 4 1, 3) := by decide +kernel
theorem dX8_lone_85 : decode cX8_lone 85 = .ok (.goto (-57), 3) := by decide +kernel
theorem dX8_lone_88 : decode cX8_lone 88 = .ok (.iload_n 3, 1) := by decide +kernel
theorem dX8_lone_89 : decode cX8_lone 89 = .ok (.ireturn, 1) := by decide +kernel
theorem dX8_lost_0 : decode cX8_lost 0 = .ok (.aload_n 0, 1) := by decide +kernel
theorem dX8_lost_1 : decode cX8_lost 1 = .ok (.getfield 32, 3) := by decide +kernel
theorem dX8_lost_4 : decode cX8_lost 4 = .ok (.invokevirtual 153, 3) := by decide +kernel
theorem dX8_lost_7 : decode cX8_lost 7 = .ok (.ifCond .ne 6, 3) := by decide +kernel
theorem dX8_lost_10 : decode cX8_lost 10 = .ok (.bipush (-2), 2) := by decide +kernel
theorem dX8_lost_12 : decode cX8_lost 12 = .ok (.ireturn, 1) := by decide +kernel
theorem dX8_lost_13 : decode cX8_lost 13 = .ok (.iconst 0, 1) := by decide +kernel
theorem dX8_lost_14 : decode cX8_lost 14 = .ok (.istore_n 1, 1) := by decide +kernel
theorem dX8_lost_15 : decode cX8_lost 15 = .ok (.iconst 0, 1) := by decide +kernel
theorem dX8_lost_16 : decode cX8_lost 16 = .ok (.istore_n 2, 1) := by decide +kernel
theorem dX8_lost_17 : decode cX8_lost 17 = .ok (.iload_n 2, 1) := by decide +kernel
theorem dX8_lost_18 : decode cX8_lost 18 = .ok (.aload_n 0, 1) := by decide +kernel
theorem dX8_lost_19 : decode cX8_lost 19 = .ok (.getfield 32, 3) := by decide +kernel
theorem dX8_lost_22 : decode cX8_lost 22 = .ok (.getfield 156, 3) := by decide +kernel
theorem dX8_lost_25 : decode cX8_lost 25 = .ok (.if_icmp .ge 41, 3) := by decide +kernel
theorem dX8_lost_28 : decode cX8_lost 28 = .ok (.aload_n 0, 1) := by decide +kernel
theorem dX8_lost_29 : decode cX8_lost 29 = .ok (.invokevirtual 189, 3) := by decide +kernel
theorem dX8_lost_32 : decode cX8_lost 32 = .ok (.iload_n 2, 1) := by decide +kernel
theorem dX8_lost_33 : decode cX8_lost 33 = .ok (.invokevirtual 208, 3) := by decide +kernel
theorem dX8_lost_36 : decode cX8_lost 36 = .ok (.istore_n 3, 1) := by decide +kernel
theorem dX8_lost_37 : decode cX8_lost 37 = .ok (.iload_n 1, 1) := by decide +kernel
theorem dX8_lost_38 : decode cX8_lost 38 = .ok (.iload_n 3, 1) := by decide +kernel
theorem dX8_lost_39 : decode cX8_lost 39 = .ok (.iconst (-1), 1) := by decide +kernel
theorem dX8_lost_40 : decode cX8_lost 40 = .ok (.if_icmp .ne 7, 3) := by decide +kernel
theorem dX8_lost_43 : decode cX8_lost 43 = .ok (.iconst 0, 1) := by decide +kernel
theorem dX8_lost_44 : decode cX8_lost 44 = .ok (.goto 14, 3) := by decide +kernel
theorem dX8_lost_47 : decode cX8_lost 47 = .ok (.aload_n 0, 1) := by decide +kernel
theorem dX8_lost_48 : decode cX8_lost 48 = .ok (.getfield 32, 3) := by decide +kernel
theorem dX8_lost_51 : decode cX8_lost 51 = .ok (.getfield 131, 3) := by decide +kernel
theorem dX8_lost_54 : decode cX8_lost 54 = .ok (.iload_n 2, 1) := by decide +kernel
theorem dX8_lost_55 : decode cX8_lost 55 = .ok (.iaload, 1) := by decide +kernel
theorem dX8_lost_56 : decode cX8_lost 56 = .ok (.iload_n 3, 1) := by decide +kernel
theorem dX8_lost_57 : decode cX8_lost 57 = .ok (.isub, 1) := by decide +kernel
theorem dX8_lost_58 : decode cX8_lost 58 = .ok (.iadd, 1) := by decide +kernel
theorem dX8_lost_59 : decode cX8_lost 59 = .ok (.istore_n 1, 1) := by decide +kernel
theorem dX8_lost_60 : decode cX8_lost 60 = .ok (.iinc 2 1, 3) := by decide +kernel
theorem dX8_lost_63 : decode cX8_lost 63 = .ok (.goto (-46), 3) := by decide +kernel
theorem dX8_lost_66 : decode cX8_lost 66 = .ok (.iload_n 1, 1) := by decide +kernel
theorem dX8_lost_67 : decode cX8_lost 67 = .ok (.ireturn, 1) := by decide +kernel
theorem dX8_low_0 : decode cX8_low 0 = .ok (.aload_n 0, 1) := by decide +kernel
theorem dX8_low_1 : decode cX8_low 1 = .ok (.iload_n 1, 1) := by decide +kernel
theorem dX8_low_2 : decode cX8_low 2 = .ok (.iload_n 2, 1) := by decide +kernel
theorem dX8_low_3 : decode cX8_low 3 = .ok (.invokevirtual 289, 3) := by decide +kernel
theorem dX8_low_6 : decode cX8_low 6 = .ok (.istore_n 3, 1) := by decide +kernel
theorem dX8_low_7 : decode cX8_low 7 = .ok (.iload_n 3, 1) := by decide +kernel
theorem dX8_low_8 : decode cX8_low 8 = .ok (.ifCond .eq 5, 3) := by decide +kernel
theorem dX8_low_11 : decode cX8_low 11 = .ok (.iload_n 3, 1) := by decide +kernel
theorem dX8_low_12 : decode cX8_low 12 = .ok (.ireturn, 1) := by decide +kernel
theorem dX8_low_13 : decode cX8_low 13 = .ok (.aload_n 0, 1) := by decide +kernel
theorem dX8_low_14 : decode cX8_low 14 = .ok (.getfield 83, 3) := by decide +kernel
theorem dX8_low_17 : decode cX8_low 17 = .ok (.iload_n 1, 1) := by decide +kernel
theorem dX8_low_18 : decode cX8_low 18 = .ok (.iload_n 2, 1) := by decide +kernel
theorem dX8_low_19 : decode cX8_low 19 = .ok (.aload_n 0, 1) := by decide +kernel
theorem dX8_low_20 : decode cX8_low 20 = .ok (.invokevirtual 189, 3) := by decide +kernel
theorem dX8_low_23 : decode cX8_low 23 = .ok (.invokevirtual 292, 3) := by decide +kernel
theorem dX8_low_26 : decode cX8_low 26 = .ok (.pop, 1) := by decide +kernel
theorem dX8_low_27 : decode cX8_low 27 = .ok (.aload_n 0, 1) := by decide +kernel
theorem dX8_low_28 : decode cX8_low 28 = .ok (.getfield 83, 3) := by decide +kernel
theorem dX8_low_31 : decode cX8_low 31 = .ok (.invokevirtual 296, 3) := by decide +kernel
theorem dX8_low_34 : decode cX8_low 34 = .ok (.ireturn, 1) := by decide +kernel
theorem dX8_lowestTerms_0 : decode cX8_lowestTerms 0 = .ok (.lconst 1, 1) := by decide +kernel
theorem dX8_lowestTerms_1 : decode cX8_lowestTerms 1 = .ok (.lload_n 0, 1) := by decide +kernel
theorem dX8_lowestTerms_2 : decode cX8_lowestTerms 2 = .ok (.invokestatic 406, 3) := by decide +kernel
theorem dX8_lowestTerms_5 : decode cX8_lowestTerms 5 = .ok (.lload_n 2, 1) := by decide +kernel
theorem dX8_lowestTerms_6 : decode cX8_lowestTerms 6 = .ok (.invokestatic 410, 3) := by decide +kernel
theorem dX8_lowestTerms_9 : decode cX8_lowestTerms 9 = .ok (.invokestatic 414, 3) := by decide +kernel
theorem dX8_lowestTerms_12 : decode cX8_lowestTerms 12 = .ok (.lstore 5, 2) := by decide +kernel
theorem dX8_lowestTerms_14 : decode cX8_lowestTerms 14 = .ok (.iload 4, 2) := by decide +kernel
theorem dX8_lowestTerms_16 : decode cX8_lowestTerms 16 = .ok (.ifCond .ne 7, 3) := by decide +kernel
theorem dX8_lowestTerms_19 : decode cX8_lowestTerms 19 = .ok (.lload_n 0, 1) := by decide +kernel
theorem dX8_lowestTerms_20 : decode cX8_lowestTerms 20 = .ok (.goto 4, 3) := by decide +kernel
theorem dX8_lowestTerms_23 : decode cX8_lowestTerms 23 = .ok (.lload_n 2, 1) := by decide +kernel
theorem dX8_lowestTerms_24 : decode cX8_lowestTerms 24 = .ok (.lload 5, 2) := by decide +kernel
theorem dX8_lowestTerms_26 : decode cX8_lowestTerms 26 = .ok (.ldiv, 1) := by decide +kernel
theorem dX8_lowestTerms_27 : decode cX8_lowestTerms 27 = .ok (.lreturn, 1) := by decide +kernel
theorem dX8_luck_0 : decode cX8_luck 0 = .ok (.aload_n 0, 1) := by decide +kernel
theorem dX8_luck_1 : decode cX8_luck 1 = .ok (.getfield 32, 3) := by decide +kernel
theorem dX8_luck_4 : decode cX8_luck 4 = .ok (.iload_n 3, 1) := by decide +kernel
theorem dX8_luck_5 : decode cX8_luck 5 = .ok (.invokevirtual 127, 3) := by decide +kernel
theorem dX8_luck_8 : decode cX8_luck 8 = .ok (.ifCond .eq 21, 3) := by decide +kernel
theorem dX8_luck_11 : decode cX8_luck 11 = .ok (.iload_n 1, 1) := by decide +kernel
theorem dX8_luck_12 : decode cX8_luck 12 = .ok (.invokestatic 364, 3) := by decide +kernel
theorem dX8_luck_15 : decode cX8_luck 15 = .ok (.ifCond .eq 14, 3) := by decide +kernel
theorem dX8_luck_18 : decode cX8_luck 18 = .ok (.iload_n 2, 1) := by decide +kernel
theorem dX8_luck_19 : decode cX8_luck 19 = .ok (.iconst 1, 1) := by decide +kernel
theorem dX8_luck_20 : decode cX8_luck 20 = .ok (.if_icmp .lt 9, 3) := by decide +kernel
theorem dX8_luck_23 : decode cX8_luck 23 = .ok (.iload_n 2, 1) := by decide +kernel
theorem dX8_luck_24 : decode cX8_luck 24 = .ok (.bipush 20, 2) := by decide +kernel
theorem dX8_luck_26 : decode cX8_luck 26 = .ok (.if_icmp .le 6, 3) := by decide +kernel
theorem dX8_luck_29 : decode cX8_luck 29 = .ok (.bipush (-2), 2) := by decide +kernel
theorem dX8_luck_31 : decode cX8_luck 31 = .ok (.ireturn, 1) := by decide +kernel
theorem dX8_luck_32 : decode cX8_luck 32 = .ok (.iconst 0, 1) := by decide +kernel
theorem dX8_luck_33 : decode cX8_luck 33 = .ok (.istore 4, 2) := by decide +kernel
theorem dX8_luck_35 : decode cX8_luck 35 = .ok (.iconst 0, 1) := by decide +kernel
theorem dX8_luck_36 : decode cX8_luck 36 = .ok (.istore 5, 2) := by decide +kernel
theorem dX8_luck_38 : decode cX8_luck 38 = .ok (.iload 5, 2) := by decide +kernel
theorem dX8_luck_40 : decode cX8_luck 40 = .ok (.iload_n 2, 1) := by decide +kernel
theorem dX8_luck_41 : decode cX8_luck 41 = .ok (.if_icmp .ge 54, 3) := by decide +kernel
theorem dX8_luck_44 : decode cX8_luck 44 = .ok (.aload_n 0, 1) := by decide +kernel
theorem dX8_luck_45 : decode cX8_luck 45 = .ok (.aload_n 0, 1) := by decide +kernel
theorem dX8_luck_46 : decode cX8_luck 46 = .ok (.iload_n 1, 1) := by decide +kernel
theorem dX8_luck_47 : decode cX8_luck 47 = .ok (.i2l, 1) := by decide +kernel
theorem dX8_luck_48 : decode cX8_luck 48 = .ok (.iload 5, 2) := by decide +kernel
theorem dX8_luck_50 : decode cX8_luck 50 = .ok (.i2l, 1) := by decide +kernel
theorem dX8_luck_51 : decode cX8_luck 51 = .ok (.ladd, 1) := by decide +kernel
theorem dX8_luck_52 : decode cX8_luck 52 = .ok (.invokevirtual 367, 3) := by decide +kernel
theorem dX8_luck_55 : decode cX8_luck 55 = .ok (.invokevirtual 318, 3) := by decide +kernel
theorem dX8_luck_58 : decode cX8_luck 58 = .ok (.iload 4, 2) := by decide +kernel
theorem dX8_luck_60 : decode cX8_luck 60 = .ok (.aload_n 0, 1) := by decide +kernel
theorem dX8_luck_61 : decode cX8_luck 61 = .ok (.getfield 59, 3) := by decide +kernel
theorem dX8_luck_64 : decode cX8_luck 64 = .ok (.aload_n 0, 1) := by decide +kernel
theorem dX8_luck_65 : decode cX8_luck 65 = .ok (.getfield 32, 3) := by decide +kernel
theorem dX8_luck_68 : decode cX8_luck 68 = .ok (.getfield 168, 3) := by decide +kernel
theorem dX8_luck_71 : decode cX8_luck 71 = .ok (.invokevirtual 199, 3) := by decide +kernel
theorem dX8_luck_74 : decode cX8_luck 74 = .ok (.iload_n 3, 1) := by decide +kernel
theorem dX8_luck_75 : decode cX8_luck 75 = .ok (.invokestatic 145, 3) := by decide +kernel
theorem dX8_luck_78 : decode cX8_luck 78 = .ok (.ifCond .eq 7, 3) := by decide +kernel
theorem dX8_luck_81 : decode cX8_luck 81 = .ok (.iconst 1, 1) := by decide +kernel
theorem dX8_luck_82 : decode cX8_luck 82 = .ok (.goto 4, 3) := by decide +kernel
theorem dX8_luck_85 : decode cX8_luck 85 = .ok (.iconst 0, 1) := by decide +kernel
theorem dX8_luck_86 : decode cX8_luck 86 = .ok (.iadd, 1) := by decide +kernel
theorem dX8_luck_87 : decode cX8_luck 87 = .ok (.istore 4, 2) := by decide +kernel
theorem dX8_luck_89 : decode cX8_luck 89 = .ok (.iinc 5 1, 3) := by decide +kernel
theorem dX8_luck_92 : decode cX8_luck 92 = .ok (.goto (-54), 3) := by decide +kernel
theorem dX8_luck_95 : decode cX8_luck 95 = .ok (.iload 4, 2) := by decide +kernel
theorem dX8_luck_97 : decode cX8_luck 97 = .ok (.ireturn, 1) := by decide +kernel
theorem dX8_mean_0 : decode cX8_mean 0 = .ok (.aload_n 0, 1) := by decide +kernel
theorem dX8_mean_1 : decode cX8_mean 1 = .ok (.getfield 32, 3) := by decide +kernel
theorem dX8_mean_4 : decode cX8_mean 4 = .ok (.invokevirtual 153, 3) := by decide +kernel
theorem dX8_mean_7 : decode cX8_mean 7 = .ok (.ifCond .eq 10, 3) := by decide +kernel
theorem dX8_mean_10 : decode cX8_mean 10 = .ok (.iload_n 1, 1) := by decide +kernel
theorem dX8_mean_11 : decode cX8_mean 11 = .ok (.invokestatic 263, 3) := by decide +kernel
theorem dX8_mean_14 : decode cX8_mean 14 = .ok (.ifCond .ne 7, 3) := by decide +kernel
theorem dX8_mean_17 : decode cX8_mean 17 = .ok (.ldc2_w 359, 3) := by decide +kernel
theorem dX8_mean_20 : decode cX8_mean 20 = .ok (.lreturn, 1) := by decide +kernel
theorem dX8_mean_21 : decode cX8_mean 21 = .ok (.aload_n 0, 1) := by decide +kernel
theorem dX8_mean_22 : decode cX8_mean 22 = .ok (.invokevirtual 348, 3) := by decide +kernel
theorem dX8_mean_25 : decode cX8_mean 25 = .ok (.aload_n 0, 1) := by decide +kernel
theorem dX8_mean_26 : decode cX8_mean 26 = .ok (.getfield 74, 3) := by decide +kernel
theorem dX8_mean_29 : decode cX8_mean 29 = .ok (.getfield 361, 3) := by decide +kernel
theorem dX8_mean_32 : decode cX8_mean 32 = .ok (.aload_n 0, 1) := by decide +kernel
theorem dX8_mean_33 : decode cX8_mean 33 = .ok (.getfield 74, 3) := by decide +kernel
theorem dX8_mean_36 : decode cX8_mean 36 = .ok (.getfield 355, 3) := by decide +kernel
theorem dX8_mean_39 : decode cX8_mean 39 = .ok (.iload_n 1, 1) := by decide +kernel
theorem dX8_mean_40 : decode cX8_mean 40 = .ok (.invokestatic 270, 3) := by decide +kernel
theorem dX8_mean_43 : decode cX8_mean 43 = .ok (.lreturn, 1) := by decide +kernel
theorem dX8_near_0 : decode cX8_near 0 = .ok (.aload_n 0, 1) := by decide +kernel
theorem dX8_near_1 : decode cX8_near 1 = .ok (.getfield 32, 3) := by decide +kernel
theorem dX8_near_4 : decode cX8_near 4 = .ok (.iload_n 1, 1) := by decide +kernel
theorem dX8_near_5 : decode cX8_near 5 = .ok (.invokevirtual 127, 3) := by decide +kernel
theorem dX8_near_8 : decode cX8_near 8 = .ok (.ifCond .eq 15, 3) := by decide +kernel
theorem dX8_near_11 : decode cX8_near 11 = .ok (.aload_n 0, 1) := by decide +kernel
theorem dX8_near_12 : decode cX8_near 12 = .ok (.getfield 32, 3) := by decide +kernel
theorem dX8_near_15 : decode cX8_near 15 = .ok (.iload_n 1, 1) := by decide +kernel
theorem dX8_near_16 : decode cX8_near 16 = .ok (.iconst (-1), 1) := by decide +kernel
theorem dX8_near_17 : decode cX8_near 17 = .ok (.invokevirtual 141, 3) := by decide +kernel
theorem dX8_near_20 : decode cX8_near 20 = .ok (.goto 5, 3) := by decide +kernel
theorem dX8_near_23 : decode cX8_near 23 = .ok (.bipush (-2), 2) := by decide +kernel
theorem dX8_near_25 : decode cX8_near 25 = .ok (.ireturn, 1) := by decide +kernel
theorem dX8_next_0 : decode cX8_next 0 = .ok (.aload_n 0, 1) := by decide +kernel
theorem dX8_next_1 : decode cX8_next 1 = .ok (.getfield 32, 3) := by decide +kernel
theorem dX8_next_4 : decode cX8_next 4 = .ok (.iload_n 1, 1) := by decide +kernel
theorem dX8_next_5 : decode cX8_next 5 = .ok (.invokevirtual 196, 3) := by decide +kernel
theorem dX8_next_8 : decode cX8_next 8 = .ok (.ifCond .ne 6, 3) := by decide +kernel
theorem dX8_next_11 : decode cX8_next 11 = .ok (.bipush (-2), 2) := by decide +kernel
theorem dX8_next_13 : decode cX8_next 13 = .ok (.ireturn, 1) := by decide +kernel
theorem dX8_next_14 : decode cX8_next 14 = .ok (.iconst (-1), 1) := by decide +kernel
theorem dX8_next_15 : decode cX8_next 15 = .ok (.istore_n 2, 1) := by decide +kernel
theorem dX8_next_16 : decode cX8_next 16 = .ok (.iconst (-1), 1) := by decide +kernel
theorem dX8_next_17 : decode cX8_next 17 = .ok (.istore_n 3, 1) := by decide +kernel
theorem dX8_next_18 : decode cX8_next 18 = .ok (.iconst 0, 1) := by decide +kernel
theorem dX8_next_19 : decode cX8_next 19 = .ok (.istore 4, 2) := by decide +kernel
theorem dX8_next_21 : decode cX8_next 21 = .ok (.iload 4, 2) := by decide +kernel
theorem dX8_next_23 : decode cX8_next 23 = .ok (.aload_n 0, 1) := by decide +kernel
theorem dX8_next_24 : decode cX8_next 24 = .ok (.getfield 32, 3) := by decide +kernel
theorem dX8_next_27 : decode cX8_next 27 = .ok (.getfield 156, 3) := by decide +kernel
theorem dX8_next_30 : decode cX8_next 30 = .ok (.if_icmp .ge 33, 3) := by decide +kernel
theorem dX8_next_33 : decode cX8_next 33 = .ok (.aload_n 0, 1) := by decide +kernel
theorem dX8_next_34 : decode cX8_next 34 = .ok (.invokevirtual 189, 3) := by decide +kernel
theorem dX8_next_37 : decode cX8_next 37 = .ok (.iload 4, 2) := by decide +kernel
theorem dX8_next_39 : decode cX8_next 39 = .ok (.iload_n 1, 1) := by decide +kernel
theorem dX8_next_40 : decode cX8_next 40 = .ok (.invokevirtual 220, 3) := by decide +kernel
theorem dX8_next_43 : decode cX8_next 43 = .ok (.istore 5, 2) := by decide +kernel
theorem dX8_next_45 : decode cX8_next 45 = .ok (.iload 5, 2) := by decide +kernel
theorem dX8_next_47 : decode cX8_next 47 = .ok (.iload_n 3, 1) := by decide +kernel
theorem dX8_next_48 : decode cX8_next 48 = .ok (.if_icmp .le 9, 3) := by decide +kernel
theorem dX8_next_51 : decode cX8_next 51 = .ok (.iload 5, 2) := by decide +kernel
theorem dX8_next_53 : decode cX8_next 53 = .ok (.istore_n 3, 1) := by decide +kernel
theorem dX8_next_54 : decode cX8_next 54 = .ok (.iload 4, 2) := by decide +kernel
theorem dX8_next_56 : decode cX8_next 56 = .ok (.istore_n 2, 1) := by decide +kernel
theorem dX8_next_57 : decode cX8_next 57 = .ok (.iinc 4 1, 3) := by decide +kernel
theorem dX8_next_60 : decode cX8_next 60 = .ok (.goto (-39), 3) := by decide +kernel
theorem dX8_next_63 : decode cX8_next 63 = .ok (.iload_n 2, 1) := by decide +kernel
theorem dX8_next_64 : decode cX8_next 64 = .ok (.ireturn, 1) := by decide +kernel
theorem dX8_open_0 : decode cX8_open 0 = .ok (.aload_n 0, 1) := by decide +kernel
theorem dX8_open_1 : decode cX8_open 1 = .ok (.getfield 32, 3) := by decide +kernel
theorem dX8_open_4 : decode cX8_open 4 = .ok (.iload_n 1, 1) := by decide +kernel
theorem dX8_open_5 : decode cX8_open 5 = .ok (.invokevirtual 196, 3) := by decide +kernel
theorem dX8_open_8 : decode cX8_open 8 = .ok (.ifCond .eq 14, 3) := by decide +kernel
theorem dX8_open_11 : decode cX8_open 11 = .ok (.aload_n 0, 1) := by decide +kernel
theorem dX8_open_12 : decode cX8_open 12 = .ok (.invokevirtual 189, 3) := by decide +kernel
theorem dX8_open_15 : decode cX8_open 15 = .ok (.iload_n 1, 1) := by decide +kernel
theorem dX8_open_16 : decode cX8_open 16 = .ok (.invokevirtual 199, 3) := by decide +kernel
theorem dX8_open_19 : decode cX8_open 19 = .ok (.goto 5, 3) := by decide +kernel
theorem dX8_open_22 : decode cX8_open 22 = .ok (.bipush (-2), 2) := by decide +kernel
theorem dX8_open_24 : decode cX8_open 24 = .ok (.ireturn, 1) := by decide +kernel
theorem dX8_openedIn_0 : decode cX8_openedIn 0 = .ok (.aload_n 0, 1) := by decide +kernel
theorem dX8_openedIn_1 : decode cX8_openedIn 1 = .ok (.invokevirtual 189, 3) := by decide +kernel
theorem dX8_openedIn_4 : decode cX8_openedIn 4 = .ok (.iload_n 1, 1) := by decide +kernel
theorem dX8_openedIn_5 : decode cX8_openedIn 5 = .ok (.iconst 1, 1) := by decide +kernel
theorem dX8_openedIn_6 : decode cX8_openedIn 6 = .ok (.iadd, 1) := by decide +kernel
theorem dX8_openedIn_7 : decode cX8_openedIn 7 = .ok (.invokevirtual 199, 3) := by decide +kernel
theorem dX8_openedIn_10 : decode cX8_openedIn 10 = .ok (.aload_n 0, 1) := by decide +kernel
theorem dX8_openedIn_11 : decode cX8_openedIn 11 = .ok (.invokevirtual 189, 3) := by decide +kernel
theorem dX8_openedIn_14 : decode cX8_openedIn 14 = .ok (.iload_n 1, 1) := by decide +kernel
theorem dX8_openedIn_15 : decode cX8_openedIn 15 = .ok (.invokevirtual 199, 3) := by decide +kernel
theorem dX8_openedIn_18 : decode cX8_openedIn 18 = .ok (.iconst (-1), 1) := by decide +kernel
theorem dX8_openedIn_19 : decode cX8_openedIn 19 = .ok (.ixor, 1) := by decide +kernel
theorem dX8_openedIn_20 : decode cX8_openedIn 20 = .ok (.iand, 1) := by decide +kernel
theorem dX8_openedIn_21 : decode cX8_openedIn 21 = .ok (.invokestatic 252, 3) := by decide +kernel
theorem dX8_openedIn_24 : decode cX8_openedIn 24 = .ok (.ireturn, 1) := by decide +kernel
theorem dX8_openingKnives_0 : decode cX8_openingKnives 0 = .ok (.iconst 0, 1) := by decide +kernel
theorem dX8_openingKnives_1 : decode cX8_openingKnives 1 = .ok (.istore_n 1, 1) := by decide +kernel
theorem dX8_openingKnives_2 : decode cX8_openingKnives 2 = .ok (.iconst 0, 1) := by decide +kernel
theorem dX8_openingKnives_3 : decode cX8_openingKnives 3 = .ok (.istore_n 2, 1) := by decide +kernel
theorem dX8_openingKnives_4 : decode cX8_openingKnives 4 = .ok (.iconst 0, 1) := by decide +kernel
theorem dX8_openingKnives_5 : decode cX8_openingKnives 5 = .ok (.istore_n 3, 1) := by decide +kernel
theorem dX8_openingKnives_6 : decode cX8_openingKnives 6 = .ok (.iload_n 3, 1) := by decide +kernel
theorem dX8_openingKnives_7 : decode cX8_openingKnives 7 = .ok (.aload_n 0, 1) := by decide +kernel
theorem dX8_openingKnives_8 : decode cX8_openingKnives 8 = .ok (.getfield 32, 3) := by decide +kernel
theorem dX8_openingKnives_11 : decode cX8_openingKnives 11 = .ok (.getfield 162, 3) := by decide +kernel
theorem dX8_openingKnives_14 : decode cX8_openingKnives 14 = .ok (.if_icmp .ge 55, 3) := by decide +kernel
theorem dX8_openingKnives_17 : decode cX8_openingKnives 17 = .ok (.aload_n 0, 1) := by decide +kernel
theorem dX8_openingKnives_18 : decode cX8_openingKnives 18 = .ok (.aload_n 0, 1) := by decide +kernel
theorem dX8_openingKnives_19 : decode cX8_openingKnives 19 = .ok (.getfield 32, 3) := by decide +kernel
theorem dX8_openingKnives_22 : decode cX8_openingKnives 22 = .ok (.getfield 165, 3) := by decide +kernel
theorem dX8_openingKnives_25 : decode cX8_openingKnives 25 = .ok (.iload_n 3, 1) := by decide +kernel
theorem dX8_openingKnives_26 : decode cX8_openingKnives 26 = .ok (.iaload, 1) := by decide +kernel
theorem dX8_openingKnives_27 : decode cX8_openingKnives 27 = .ok (.aload_n 0, 1) := by decide +kernel
theorem dX8_openingKnives_28 : decode cX8_openingKnives 28 = .ok (.getfield 32, 3) := by decide +kernel
theorem dX8_openingKnives_31 : decode cX8_openingKnives 31 = .ok (.getfield 237, 3) := by decide +kernel
theorem dX8_openingKnives_34 : decode cX8_openingKnives 34 = .ok (.iload_n 3, 1) := by decide +kernel
theorem dX8_openingKnives_35 : decode cX8_openingKnives 35 = .ok (.iaload, 1) := by decide +kernel
theorem dX8_openingKnives_36 : decode cX8_openingKnives 36 = .ok (.iload_n 2, 1) := by decide +kernel
theorem dX8_openingKnives_37 : decode cX8_openingKnives 37 = .ok (.invokevirtual 416, 3) := by decide +kernel
theorem dX8_openingKnives_40 : decode cX8_openingKnives 40 = .ok (.ifCond .eq 23, 3) := by decide +kernel
theorem dX8_openingKnives_43 : decode cX8_openingKnives 43 = .ok (.iload_n 2, 1) := by decide +kernel
theorem dX8_openingKnives_44 : decode cX8_openingKnives 44 = .ok (.iconst 1, 1) := by decide +kernel
theorem dX8_openingKnives_45 : decode cX8_openingKnives 45 = .ok (.aload_n 0, 1) := by decide +kernel
theorem dX8_openingKnives_46 : decode cX8_openingKnives 46 = .ok (.getfield 32, 3) := by decide +kernel
theorem dX8_openingKnives_49 : decode cX8_openingKnives 49 = .ok (.getfield 165, 3) := by decide +kernel
theorem dX8_openingKnives_52 : decode cX8_openingKnives 52 = .ok (.iload_n 3, 1) := by decide +kernel
theorem dX8_openingKnives_53 : decode cX8_openingKnives 53 = .ok (.iaload, 1) := by decide +kernel
theorem dX8_openingKnives_54 : decode cX8_openingKnives 54 = .ok (.ishl, 1) := by decide +kernel
theorem dX8_openingKnives_55 : decode cX8_openingKnives 55 = .ok (.ior, 1) := by decide +kernel
theorem dX8_openingKnives_56 : decode cX8_openingKnives 56 = .ok (.istore_n 2, 1) := by decide +kernel
theorem dX8_openingKnives_57 : decode cX8_openingKnives 57 = .ok (.iload_n 1, 1) := by decide +kernel
theorem dX8_openingKnives_58 : decode cX8_openingKnives 58 = .ok (.iconst 1, 1) := by decide +kernel
theorem dX8_openingKnives_59 : decode cX8_openingKnives 59 = .ok (.iload_n 3, 1) := by decide +kernel
theorem dX8_openingKnives_60 : decode cX8_openingKnives 60 = .ok (.ishl, 1) := by decide +kernel
theorem dX8_openingKnives_61 : decode cX8_openingKnives 61 = .ok (.ior, 1) := by decide +kernel
theorem dX8_openingKnives_62 : decode cX8_openingKnives 62 = .ok (.istore_n 1, 1) := by decide +kernel
theorem dX8_openingKnives_63 : decode cX8_openingKnives 63 = .ok (.iinc 3 1, 3) := by decide +kernel
theorem dX8_openingKnives_66 : decode cX8_openingKnives 66 = .ok (.goto (-60), 3) := by decide +kernel
theorem dX8_openingKnives_69 : decode cX8_openingKnives 69 = .ok (.aload_n 0, 1) := by decide +kernel
theorem dX8_openingKnives_70 : decode cX8_openingKnives 70 = .ok (.getfield 32, 3) := by decide +kernel
theorem dX8_openingKnives_73 : decode cX8_openingKnives 73 = .ok (.getfield 162, 3) := by decide +kernel
theorem dX8_openingKnives_76 : decode cX8_openingKnives 76 = .ok (.istore_n 3, 1) := by decide +kernel
theorem dX8_openingKnives_77 : decode cX8_openingKnives 77 = .ok (.iconst 0, 1) := by decide +kernel
theorem dX8_openingKnives_78 : decode cX8_openingKnives 78 = .ok (.istore 4, 2) := by decide +kernel
theorem dX8_openingKnives_80 : decode cX8_openingKnives 80 = .ok (.iload 4, 2) := by decide +kernel
theorem dX8_openingKnives_82 : decode cX8_openingKnives 82 = .ok (.aload_n 0, 1) := by decide +kernel
theorem dX8_openingKnives_83 : decode cX8_openingKnives 83 = .ok (.getfield 32, 3) := by decide +kernel
theorem dX8_openingKnives_86 : decode cX8_openingKnives 86 = .ok (.getfield 179, 3) := by decide +kernel
theorem dX8_openingKnives_89 : decode cX8_openingKnives 89 = .ok (.if_icmp .ge 74, 3) := by decide +kernel
theorem dX8_openingKnives_92 : decode cX8_openingKnives 92 = .ok (.aload_n 0, 1) := by decide +kernel
theorem dX8_openingKnives_93 : decode cX8_openingKnives 93 = .ok (.getfield 32, 3) := by decide +kernel
theorem dX8_openingKnives_96 : decode cX8_openingKnives 96 = .ok (.getfield 419, 3) := by decide +kernel
theorem dX8_openingKnives_99 : decode cX8_openingKnives 99 = .ok (.iload 4, 2) := by decide +kernel
theorem dX8_openingKnives_101 : decode cX8_openingKnives 101 = .ok (.iaload, 1) := by decide +kernel
theorem dX8_openingKnives_102 : decode cX8_openingKnives 102 = .ok (.ifCond .ne 55, 3) := by decide +kernel
theorem dX8_openingKnives_105 : decode cX8_openingKnives 105 = .ok (.aload_n 0, 1) := by decide +kernel
theorem dX8_openingKnives_106 : decode cX8_openingKnives 106 = .ok (.aload_n 0, 1) := by decide +kernel
theorem dX8_openingKnives_107 : decode cX8_openingKnives 107 = .ok (.getfield 32, 3) := by decide +kernel
theorem dX8_openingKnives_110 : decode cX8_openingKnives 110 = .ok (.getfield 422, 3) := by decide +kernel
theorem dX8_openingKnives_113 : decode cX8_openingKnives 113 = .ok (.iload 4, 2) := by decide +kernel
theorem dX8_openingKnives_115 : decode cX8_openingKnives 115 = .ok (.iaload, 1) := by decide +kernel
theorem dX8_openingKnives_116 : decode cX8_openingKnives 116 = .ok (.aload_n 0, 1) := by decide +kernel
theorem dX8_openingKnives_117 : decode cX8_openingKnives 117 = .ok (.getfield 32, 3) := by decide +kernel
theorem dX8_openingKnives_120 : decode cX8_openingKnives 120 = .ok (.getfield 425, 3) := by decide +kernel
theorem dX8_openingKnives_123 : decode cX8_openingKnives 123 = .ok (.iload 4, 2) := by decide +kernel
theorem dX8_openingKnives_125 : decode cX8_openingKnives 125 = .ok (.iaload, 1) := by decide +kernel
theorem dX8_openingKnives_126 : decode cX8_openingKnives 126 = .ok (.iload_n 2, 1) := by decide +kernel
theorem dX8_openingKnives_127 : decode cX8_openingKnives 127 = .ok (.invokevirtual 416, 3) := by decide +kernel
theorem dX8_openingKnives_130 : decode cX8_openingKnives 130 = .ok (.ifCond .eq 24, 3) := by decide +kernel
theorem dX8_openingKnives_133 : decode cX8_openingKnives 133 = .ok (.iload_n 2, 1) := by decide +kernel
theorem dX8_openingKnives_134 : decode cX8_openingKnives 134 = .ok (.iconst 1, 1) := by decide +kernel
theorem dX8_openingKnives_135 : decode cX8_openingKnives 135 = .ok (.aload_n 0, 1) := by decide +kernel
theorem dX8_openingKnives_136 : decode cX8_openingKnives 136 = .ok (.getfield 32, 3) := by decide +kernel
theorem dX8_openingKnives_139 : decode cX8_openingKnives 139 = .ok (.getfield 422, 3) := by decide +kernel
theorem dX8_openingKnives_142 : decode cX8_openingKnives 142 = .ok (.iload 4, 2) := by decide +kernel
theorem dX8_openingKnives_144 : decode cX8_openingKnives 144 = .ok (.iaload, 1) := by decide +kernel
theorem dX8_openingKnives_145 : decode cX8_openingKnives 145 = .ok (.ishl, 1) := by decide +kernel
theorem dX8_openingKnives_146 : decode cX8_openingKnives 146 = .ok (.ior, 1) := by decide +kernel
theorem dX8_openingKnives_147 : decode cX8_openingKnives 147 = .ok (.istore_n 2, 1) := by decide +kernel
theorem dX8_openingKnives_148 : decode cX8_openingKnives 148 = .ok (.iload_n 1, 1) := by decide +kernel
theorem dX8_openingKnives_149 : decode cX8_openingKnives 149 = .ok (.iconst 1, 1) := by decide +kernel
theorem dX8_openingKnives_150 : decode cX8_openingKnives 150 = .ok (.iload_n 3, 1) := by decide +kernel
theorem dX8_openingKnives_151 : decode cX8_openingKnives 151 = .ok (.ishl, 1) := by decide +kernel
theorem dX8_openingKnives_152 : decode cX8_openingKnives 152 = .ok (.ior, 1) := by decide +kernel
theorem dX8_openingKnives_153 : decode cX8_openingKnives 153 = .ok (.istore_n 1, 1) := by decide +kernel
theorem dX8_openingKnives_154 : decode cX8_openingKnives 154 = .ok (.iinc 3 1, 3) := by decide +kernel
theorem dX8_openingKnives_157 : decode cX8_openingKnives 157 = .ok (.iinc 4 1, 3) := by decide +kernel
theorem dX8_openingKnives_160 : decode cX8_openingKnives 160 = .ok (.goto (-80), 3) := by decide +kernel
theorem dX8_openingKnives_163 : decode cX8_openingKnives 163 = .ok (.iload_n 1, 1) := by decide +kernel
theorem dX8_openingKnives_164 : decode cX8_openingKnives 164 = .ok (.ireturn, 1) := by decide +kernel
theorem dX8_opens_0 : decode cX8_opens 0 = .ok (.aload_n 0, 1) := by decide +kernel
theorem dX8_opens_1 : decode cX8_opens 1 = .ok (.getfield 32, 3) := by decide +kernel
theorem dX8_opens_4 : decode cX8_opens 4 = .ok (.invokevirtual 153, 3) := by decide +kernel
theorem dX8_opens_7 : decode cX8_opens 7 = .ok (.ifCond .ne 6, 3) := by decide +kernel
theorem dX8_opens_10 : decode cX8_opens 10 = .ok (.bipush (-2), 2) := by decide +kernel
theorem dX8_opens_12 : decode cX8_opens 12 = .ok (.ireturn, 1) := by decide +kernel
theorem dX8_opens_13 : decode cX8_opens 13 = .ok (.aload_n 0, 1) := by decide +kernel
theorem dX8_opens_14 : decode cX8_opens 14 = .ok (.getfield 59, 3) := by decide +kernel
theorem dX8_opens_17 : decode cX8_opens 17 = .ok (.iconst (-1), 1) := by decide +kernel
theorem dX8_opens_18 : decode cX8_opens 18 = .ok (.invokevirtual 257, 3) := by decide +kernel
theorem dX8_opens_21 : decode cX8_opens 21 = .ok (.iconst (-1), 1) := by decide +kernel
theorem dX8_opens_22 : decode cX8_opens 22 = .ok (.istore_n 1, 1) := by decide +kernel
theorem dX8_opens_23 : decode cX8_opens 23 = .ok (.iconst 0, 1) := by decide +kernel
theorem dX8_opens_24 : decode cX8_opens 24 = .ok (.istore_n 2, 1) := by decide +kernel
theorem dX8_opens_25 : decode cX8_opens 25 = .ok (.iconst 0, 1) := by decide +kernel
theorem dX8_opens_26 : decode cX8_opens 26 = .ok (.istore_n 3, 1) := by decide +kernel
theorem dX8_opens_27 : decode cX8_opens 27 = .ok (.iload_n 3, 1) := by decide +kernel
theorem dX8_opens_28 : decode cX8_opens 28 = .ok (.aload_n 0, 1) := by decide +kernel
theorem dX8_opens_29 : decode cX8_opens 29 = .ok (.getfield 32, 3) := by decide +kernel
theorem dX8_opens_32 : decode cX8_opens 32 = .ok (.getfield 156, 3) := by decide +kernel
theorem dX8_opens_35 : decode cX8_opens 35 = .ok (.if_icmp .ge 32, 3) := by decide +kernel
theorem dX8_opens_38 : decode cX8_opens 38 = .ok (.aload_n 0, 1) := by decide +kernel
theorem dX8_opens_39 : decode cX8_opens 39 = .ok (.iload_n 3, 1) := by decide +kernel
theorem dX8_opens_40 : decode cX8_opens 40 = .ok (.invokevirtual 332, 3) := by decide +kernel
theorem dX8_opens_43 : decode cX8_opens 43 = .ok (.istore 4, 2) := by decide +kernel
theorem dX8_opens_45 : decode cX8_opens 45 = .ok (.iload_n 1, 1) := by decide +kernel
theorem dX8_opens_46 : decode cX8_opens 46 = .ok (.iconst (-1), 1) := by decide +kernel
theorem dX8_opens_47 : decode cX8_opens 47 = .ok (.if_icmp .eq 9, 3) := by decide +kernel
theorem dX8_opens_50 : decode cX8_opens 50 = .ok (.iload 4, 2) := by decide +kernel
theorem dX8_opens_52 : decode cX8_opens 52 = .ok (.iload_n 2, 1) := by decide +kernel
theorem dX8_opens_53 : decode cX8_opens 53 = .ok (.if_icmp .le 8, 3) := by decide +kernel
theorem dX8_opens_56 : decode cX8_opens 56 = .ok (.iload 4, 2) := by decide +kernel
theorem dX8_opens_58 : decode cX8_opens 58 = .ok (.istore_n 2, 1) := by decide +kernel
theorem dX8_opens_59 : decode cX8_opens 59 = .ok (.iload_n 3, 1) := by decide +kernel
theorem dX8_opens_60 : decode cX8_opens 60 = .ok (.istore_n 1, 1) := by decide +kernel
theorem dX8_opens_61 : decode cX8_opens 61 = .ok (.iinc 3 1, 3) := by decide +kernel
theorem dX8_opens_64 : decode cX8_opens 64 = .ok (.goto (-37), 3) := by decide +kernel
theorem dX8_opens_67 : decode cX8_opens 67 = .ok (.iload_n 1, 1) := by decide +kernel
theorem dX8_opens_68 : decode cX8_opens 68 = .ok (.ireturn, 1) := by decide +kernel
theorem dX8_opensAnew_0 : decode cX8_opensAnew 0 = .ok (.iload_n 3, 1) := by decide +kernel
theorem dX8_opensAnew_1 : decode cX8_opensAnew 1 = .ok (.iload_n 1, 1) := by decide +kernel
theorem dX8_opensAnew_2 : decode cX8_opensAnew 2 = .ok (.invokestatic 145, 3) := by decide +kernel
theorem dX8_opensAnew_5 : decode cX8_opensAnew 5 = .ok (.ifCond .ne 33, 3) := by decide +kernel
theorem dX8_opensAnew_8 : decode cX8_opensAnew 8 = .ok (.aload_n 0, 1) := by decide +kernel
theorem dX8_opensAnew_9 : decode cX8_opensAnew 9 = .ok (.invokevirtual 189, 3) := by decide +kernel
theorem dX8_opensAnew_12 : decode cX8_opensAnew 12 = .ok (.iload_n 1, 1) := by decide +kernel
theorem dX8_opensAnew_13 : decode cX8_opensAnew 13 = .ok (.invokevirtual 202, 3) := by decide +kernel
theorem dX8_opensAnew_16 : decode cX8_opensAnew 16 = .ok (.iload_n 2, 1) := by decide +kernel
theorem dX8_opensAnew_17 : decode cX8_opensAnew 17 = .ok (.if_icmp .ne 21, 3) := by decide +kernel
theorem dX8_opensAnew_20 : decode cX8_opensAnew 20 = .ok (.aload_n 0, 1) := by decide +kernel
theorem dX8_opensAnew_21 : decode cX8_opensAnew 21 = .ok (.invokevirtual 189, 3) := by decide +kernel
theorem dX8_opensAnew_24 : decode cX8_opensAnew 24 = .ok (.getfield 205, 3) := by decide +kernel
theorem dX8_opensAnew_27 : decode cX8_opensAnew 27 = .ok (.iload_n 1, 1) := by decide +kernel
theorem dX8_opensAnew_28 : decode cX8_opensAnew 28 = .ok (.invokestatic 145, 3) := by decide +kernel
theorem dX8_opensAnew_31 : decode cX8_opensAnew 31 = .ok (.ifCond .ne 7, 3) := by decide +kernel
theorem dX8_opensAnew_34 : decode cX8_opensAnew 34 = .ok (.iconst 1, 1) := by decide +kernel
theorem dX8_opensAnew_35 : decode cX8_opensAnew 35 = .ok (.goto 4, 3) := by decide +kernel
theorem dX8_opensAnew_38 : decode cX8_opensAnew 38 = .ok (.iconst 0, 1) := by decide +kernel
theorem dX8_opensAnew_39 : decode cX8_opensAnew 39 = .ok (.ireturn, 1) := by decide +kernel
theorem dX8_part_0 : decode cX8_part 0 = .ok (.aload_n 0, 1) := by decide +kernel
theorem dX8_part_1 : decode cX8_part 1 = .ok (.getfield 32, 3) := by decide +kernel
theorem dX8_part_4 : decode cX8_part 4 = .ok (.iload_n 1, 1) := by decide +kernel
theorem dX8_part_5 : decode cX8_part 5 = .ok (.invokevirtual 127, 3) := by decide +kernel
theorem dX8_part_8 : decode cX8_part 8 = .ok (.ifCond .ne 6, 3) := by decide +kernel
theorem dX8_part_11 : decode cX8_part 11 = .ok (.bipush (-2), 2) := by decide +kernel
theorem dX8_part_13 : decode cX8_part 13 = .ok (.ireturn, 1) := by decide +kernel
theorem dX8_part_14 : decode cX8_part 14 = .ok (.iload_n 2, 1) := by decide +kernel
theorem dX8_part_15 : decode cX8_part 15 = .ok (.tableswitch 55 0 2 #[25, 35, 45], 25) := by decide +kernel
theorem dX8_part_40 : decode cX8_part 40 = .ok (.aload_n 0, 1) := by decide +kernel
theorem dX8_part_41 : decode cX8_part 41 = .ok (.getfield 32, 3) := by decide +kernel
theorem dX8_part_44 : decode cX8_part 44 = .ok (.getfield 131, 3) := by decide +kernel
theorem dX8_part_47 : decode cX8_part 47 = .ok (.iload_n 1, 1) := by decide +kernel
theorem dX8_part_48 : decode cX8_part 48 = .ok (.iaload, 1) := by decide +kernel
theorem dX8_part_49 : decode cX8_part 49 = .ok (.ireturn, 1) := by decide +kernel
theorem dX8_part_50 : decode cX8_part 50 = .ok (.aload_n 0, 1) := by decide +kernel
theorem dX8_part_51 : decode cX8_part 51 = .ok (.getfield 32, 3) := by decide +kernel
theorem dX8_part_54 : decode cX8_part 54 = .ok (.getfield 135, 3) := by decide +kernel
theorem dX8_part_57 : decode cX8_part 57 = .ok (.iload_n 1, 1) := by decide +kernel
theorem dX8_part_58 : decode cX8_part 58 = .ok (.iaload, 1) := by decide +kernel
theorem dX8_part_59 : decode cX8_part 59 = .ok (.ireturn, 1) := by decide +kernel
theorem dX8_part_60 : decode cX8_part 60 = .ok (.aload_n 0, 1) := by decide +kernel
theorem dX8_part_61 : decode cX8_part 61 = .ok (.getfield 32, 3) := by decide +kernel
theorem dX8_part_64 : decode cX8_part 64 = .ok (.getfield 138, 3) := by decide +kernel
theorem dX8_part_67 : decode cX8_part 67 = .ok (.iload_n 1, 1) := by decide +kernel
theorem dX8_part_68 : decode cX8_part 68 = .ok (.iaload, 1) := by decide +kernel
theorem dX8_part_69 : decode cX8_part 69 = .ok (.ireturn, 1) := by decide +kernel
theorem dX8_part_70 : decode cX8_part 70 = .ok (.bipush (-2), 2) := by decide +kernel
theorem dX8_part_72 : decode cX8_part 72 = .ok (.ireturn, 1) := by decide +kernel
theorem dX8_paste_0 : decode cX8_paste 0 = .ok (.aload_n 0, 1) := by decide +kernel
theorem dX8_paste_1 : decode cX8_paste 1 = .ok (.getfield 46, 3) := by decide +kernel
theorem dX8_paste_4 : decode cX8_paste 4 = .ok (.iload_n 1, 1) := by decide +kernel
theorem dX8_paste_5 : decode cX8_paste 5 = .ok (.invokevirtual 378, 3) := by decide +kernel
theorem dX8_paste_8 : decode cX8_paste 8 = .ok (.ifCond .eq 14, 3) := by decide +kernel
theorem dX8_paste_11 : decode cX8_paste 11 = .ok (.aload_n 0, 1) := by decide +kernel
theorem dX8_paste_12 : decode cX8_paste 12 = .ok (.getfield 46, 3) := by decide +kernel
theorem dX8_paste_15 : decode cX8_paste 15 = .ok (.iload_n 3, 1) := by decide +kernel
theorem dX8_paste_16 : decode cX8_paste 16 = .ok (.invokevirtual 378, 3) := by decide +kernel
theorem dX8_paste_19 : decode cX8_paste 19 = .ok (.ifCond .ne 6, 3) := by decide +kernel
theorem dX8_paste_22 : decode cX8_paste 22 = .ok (.bipush (-2), 2) := by decide +kernel
theorem dX8_paste_24 : decode cX8_paste 24 = .ok (.ireturn, 1) := by decide +kernel
theorem dX8_paste_25 : decode cX8_paste 25 = .ok (.aload_n 0, 1) := by decide +kernel
theorem dX8_paste_26 : decode cX8_paste 26 = .ok (.getfield 46, 3) := by decide +kernel
theorem dX8_paste_29 : decode cX8_paste 29 = .ok (.iload_n 1, 1) := by decide +kernel
theorem dX8_paste_30 : decode cX8_paste 30 = .ok (.invokevirtual 384, 3) := by decide +kernel
theorem dX8_paste_33 : decode cX8_paste 33 = .ok (.ifCond .ne 14, 3) := by decide +kernel
theorem dX8_paste_36 : decode cX8_paste 36 = .ok (.aload_n 0, 1) := by decide +kernel
theorem dX8_paste_37 : decode cX8_paste 37 = .ok (.getfield 46, 3) := by decide +kernel
theorem dX8_paste_40 : decode cX8_paste 40 = .ok (.iload_n 3, 1) := by decide +kernel
theorem dX8_paste_41 : decode cX8_paste 41 = .ok (.invokevirtual 384, 3) := by decide +kernel
theorem dX8_paste_44 : decode cX8_paste 44 = .ok (.ifCond .eq 6, 3) := by decide +kernel
theorem dX8_paste_47 : decode cX8_paste 47 = .ok (.bipush (-6), 2) := by decide +kernel
theorem dX8_paste_49 : decode cX8_paste 49 = .ok (.ireturn, 1) := by decide +kernel
theorem dX8_paste_50 : decode cX8_paste 50 = .ok (.aload_n 0, 1) := by decide +kernel
theorem dX8_paste_51 : decode cX8_paste 51 = .ok (.getfield 46, 3) := by decide +kernel
theorem dX8_paste_54 : decode cX8_paste 54 = .ok (.iload_n 1, 1) := by decide +kernel
theorem dX8_paste_55 : decode cX8_paste 55 = .ok (.iload_n 3, 1) := by decide +kernel
theorem dX8_paste_56 : decode cX8_paste 56 = .ok (.invokevirtual 395, 3) := by decide +kernel
theorem dX8_paste_59 : decode cX8_paste 59 = .ok (.ifCond .ne 6, 3) := by decide +kernel
theorem dX8_paste_62 : decode cX8_paste 62 = .ok (.bipush (-8), 2) := by decide +kernel
theorem dX8_paste_64 : decode cX8_paste 64 = .ok (.ireturn, 1) := by decide +kernel
theorem dX8_paste_65 : decode cX8_paste 65 = .ok (.aload_n 0, 1) := by decide +kernel
theorem dX8_paste_66 : decode cX8_paste 66 = .ok (.getfield 46, 3) := by decide +kernel
theorem dX8_paste_69 : decode cX8_paste 69 = .ok (.iload_n 1, 1) := by decide +kernel
theorem dX8_paste_70 : decode cX8_paste 70 = .ok (.iload_n 2, 1) := by decide +kernel
theorem dX8_paste_71 : decode cX8_paste 71 = .ok (.iload 5, 2) := by decide +kernel
theorem dX8_paste_73 : decode cX8_paste 73 = .ok (.invokevirtual 387, 3) := by decide +kernel
theorem dX8_paste_76 : decode cX8_paste 76 = .ok (.ifCond .eq 18, 3) := by decide +kernel
theorem dX8_paste_79 : decode cX8_paste 79 = .ok (.aload_n 0, 1) := by decide +kernel
theorem dX8_paste_80 : decode cX8_paste 80 = .ok (.getfield 46, 3) := by decide +kernel
theorem dX8_paste_83 : decode cX8_paste 83 = .ok (.iload_n 3, 1) := by decide +kernel
theorem dX8_paste_84 : decode cX8_paste 84 = .ok (.iload 4, 2) := by decide +kernel
theorem dX8_paste_86 : decode cX8_paste 86 = .ok (.iload 5, 2) := by decide +kernel
theorem dX8_paste_88 : decode cX8_paste 88 = .ok (.invokevirtual 387, 3) := by decide +kernel
theorem dX8_paste_91 : decode cX8_paste 91 = .ok (.ifCond .ne 6, 3) := by decide +kernel
theorem dX8_paste_94 : decode cX8_paste 94 = .ok (.bipush (-7), 2) := by decide +kernel
theorem dX8_paste_96 : decode cX8_paste 96 = .ok (.ireturn, 1) := by decide +kernel
theorem dX8_paste_97 : decode cX8_paste 97 = .ok (.aload_n 0, 1) := by decide +kernel
theorem dX8_paste_98 : decode cX8_paste 98 = .ok (.getfield 46, 3) := by decide +kernel
theorem dX8_paste_101 : decode cX8_paste 101 = .ok (.iload_n 1, 1) := by decide +kernel
theorem dX8_paste_102 : decode cX8_paste 102 = .ok (.iload_n 2, 1) := by decide +kernel
theorem dX8_paste_103 : decode cX8_paste 103 = .ok (.iload_n 3, 1) := by decide +kernel
theorem dX8_paste_104 : decode cX8_paste 104 = .ok (.iload 4, 2) := by decide +kernel
theorem dX8_paste_106 : decode cX8_paste 106 = .ok (.iload 5, 2) := by decide +kernel
theorem dX8_paste_108 : decode cX8_paste 108 = .ok (.invokevirtual 398, 3) := by decide +kernel
theorem dX8_paste_111 : decode cX8_paste 111 = .ok (.iconst 0, 1) := by decide +kernel
theorem dX8_paste_112 : decode cX8_paste 112 = .ok (.ireturn, 1) := by decide +kernel
theorem dX8_peak_0 : decode cX8_peak 0 = .ok (.aload_n 0, 1) := by decide +kernel
theorem dX8_peak_1 : decode cX8_peak 1 = .ok (.getfield 32, 3) := by decide +kernel
theorem dX8_peak_4 : decode cX8_peak 4 = .ok (.invokevirtual 153, 3) := by decide +kernel
theorem dX8_peak_7 : decode cX8_peak 7 = .ok (.ifCond .ne 6, 3) := by decide +kernel
theorem dX8_peak_10 : decode cX8_peak 10 = .ok (.bipush (-2), 2) := by decide +kernel
theorem dX8_peak_12 : decode cX8_peak 12 = .ok (.ireturn, 1) := by decide +kernel
theorem dX8_peak_13 : decode cX8_peak 13 = .ok (.iconst 0, 1) := by decide +kernel
theorem dX8_peak_14 : decode cX8_peak 14 = .ok (.istore_n 1, 1) := by decide +kernel
theorem dX8_peak_15 : decode cX8_peak 15 = .ok (.iconst (-1), 1) := by decide +kernel
theorem dX8_peak_16 : decode cX8_peak 16 = .ok (.istore_n 2, 1) := by decide +kernel
theorem dX8_peak_17 : decode cX8_peak 17 = .ok (.iconst 0, 1) := by decide +kernel
theorem dX8_peak_18 : decode cX8_peak 18 = .ok (.istore_n 3, 1) := by decide +kernel
theorem dX8_peak_19 : decode cX8_peak 19 = .ok (.iload_n 3, 1) := by decide +kernel
theorem dX8_peak_20 : decode cX8_peak 20 = .ok (.aload_n 0, 1) := by decide +kernel
theorem dX8_peak_21 : decode cX8_peak 21 = .ok (.getfield 32, 3) := by decide +kernel
theorem dX8_peak_24 : decode cX8_peak 24 = .ok (.getfield 168, 3) := by decide +kernel
theorem dX8_peak_27 : decode cX8_peak 27 = .ok (.if_icmp .ge 30, 3) := by decide +kernel
theorem dX8_peak_30 : decode cX8_peak 30 = .ok (.aload_n 0, 1) := by decide +kernel
theorem dX8_peak_31 : decode cX8_peak 31 = .ok (.invokevirtual 189, 3) := by decide +kernel
theorem dX8_peak_34 : decode cX8_peak 34 = .ok (.iload_n 3, 1) := by decide +kernel
theorem dX8_peak_35 : decode cX8_peak 35 = .ok (.invokevirtual 214, 3) := by decide +kernel
theorem dX8_peak_38 : decode cX8_peak 38 = .ok (.istore 4, 2) := by decide +kernel
theorem dX8_peak_40 : decode cX8_peak 40 = .ok (.iload 4, 2) := by decide +kernel
theorem dX8_peak_42 : decode cX8_peak 42 = .ok (.iload_n 2, 1) := by decide +kernel
theorem dX8_peak_43 : decode cX8_peak 43 = .ok (.if_icmp .le 8, 3) := by decide +kernel
theorem dX8_peak_46 : decode cX8_peak 46 = .ok (.iload 4, 2) := by decide +kernel
theorem dX8_peak_48 : decode cX8_peak 48 = .ok (.istore_n 2, 1) := by decide +kernel
theorem dX8_peak_49 : decode cX8_peak 49 = .ok (.iload_n 3, 1) := by decide +kernel
theorem dX8_peak_50 : decode cX8_peak 50 = .ok (.istore_n 1, 1) := by decide +kernel
theorem dX8_peak_51 : decode cX8_peak 51 = .ok (.iinc 3 1, 3) := by decide +kernel
theorem dX8_peak_54 : decode cX8_peak 54 = .ok (.goto (-35), 3) := by decide +kernel
theorem dX8_peak_57 : decode cX8_peak 57 = .ok (.iload_n 1, 1) := by decide +kernel
theorem dX8_peak_58 : decode cX8_peak 58 = .ok (.ireturn, 1) := by decide +kernel
theorem dX8_pieces_0 : decode cX8_pieces 0 = .ok (.aload_n 0, 1) := by decide +kernel
theorem dX8_pieces_1 : decode cX8_pieces 1 = .ok (.getfield 32, 3) := by decide +kernel
theorem dX8_pieces_4 : decode cX8_pieces 4 = .ok (.invokevirtual 153, 3) := by decide +kernel
theorem dX8_pieces_7 : decode cX8_pieces 7 = .ok (.ifCond .ne 6, 3) := by decide +kernel
theorem dX8_pieces_10 : decode cX8_pieces 10 = .ok (.bipush (-2), 2) := by decide +kernel
theorem dX8_pieces_12 : decode cX8_pieces 12 = .ok (.ireturn, 1) := by decide +kernel
theorem dX8_pieces_13 : decode cX8_pieces 13 = .ok (.iconst 0, 1) := by decide +kernel
theorem dX8_pieces_14 : decode cX8_pieces 14 = .ok (.istore_n 1, 1) := by decide +kernel
theorem dX8_pieces_15 : decode cX8_pieces 15 = .ok (.iconst 0, 1) := by decide +kernel
theorem dX8_pieces_16 : decode cX8_pieces 16 = .ok (.istore_n 2, 1) := by decide +kernel
theorem dX8_pieces_17 : decode cX8_pieces 17 = .ok (.iconst 0, 1) := by decide +kernel
theorem dX8_pieces_18 : decode cX8_pieces 18 = .ok (.istore_n 3, 1) := by decide +kernel
theorem dX8_pieces_19 : decode cX8_pieces 19 = .ok (.iload_n 3, 1) := by decide +kernel
theorem dX8_pieces_20 : decode cX8_pieces 20 = .ok (.aload_n 0, 1) := by decide +kernel
theorem dX8_pieces_21 : decode cX8_pieces 21 = .ok (.getfield 32, 3) := by decide +kernel
theorem dX8_pieces_24 : decode cX8_pieces 24 = .ok (.getfield 156, 3) := by decide +kernel
theorem dX8_pieces_27 : decode cX8_pieces 27 = .ok (.if_icmp .ge 31, 3) := by decide +kernel
theorem dX8_pieces_30 : decode cX8_pieces 30 = .ok (.iload_n 2, 1) := by decide +kernel
theorem dX8_pieces_31 : decode cX8_pieces 31 = .ok (.iload_n 3, 1) := by decide +kernel
theorem dX8_pieces_32 : decode cX8_pieces 32 = .ok (.invokestatic 145, 3) := by decide +kernel
theorem dX8_pieces_35 : decode cX8_pieces 35 = .ok (.ifCond .ne 17, 3) := by decide +kernel
theorem dX8_pieces_38 : decode cX8_pieces 38 = .ok (.iinc 1 1, 3) := by decide +kernel
theorem dX8_pieces_41 : decode cX8_pieces 41 = .ok (.iload_n 2, 1) := by decide +kernel
theorem dX8_pieces_42 : decode cX8_pieces 42 = .ok (.aload_n 0, 1) := by decide +kernel
theorem dX8_pieces_43 : decode cX8_pieces 43 = .ok (.getfield 32, 3) := by decide +kernel
theorem dX8_pieces_46 : decode cX8_pieces 46 = .ok (.iload_n 3, 1) := by decide +kernel
theorem dX8_pieces_47 : decode cX8_pieces 47 = .ok (.invokevirtual 159, 3) := by decide +kernel
theorem dX8_pieces_50 : decode cX8_pieces 50 = .ok (.ior, 1) := by decide +kernel
theorem dX8_pieces_51 : decode cX8_pieces 51 = .ok (.istore_n 2, 1) := by decide +kernel
theorem dX8_pieces_52 : decode cX8_pieces 52 = .ok (.iinc 3 1, 3) := by decide +kernel
theorem dX8_pieces_55 : decode cX8_pieces 55 = .ok (.goto (-36), 3) := by decide +kernel
theorem dX8_pieces_58 : decode cX8_pieces 58 = .ok (.iload_n 1, 1) := by decide +kernel
theorem dX8_pieces_59 : decode cX8_pieces 59 = .ok (.ireturn, 1) := by decide +kernel
theorem dX8_plan_0 : decode cX8_plan 0 = .ok (.aload_n 0, 1) := by decide +kernel
theorem dX8_plan_1 : decode cX8_plan 1 = .ok (.iload_n 1, 1) := by decide +kernel
theorem dX8_plan_2 : decode cX8_plan 2 = .ok (.invokevirtual 274, 3) := by decide +kernel
theorem dX8_plan_5 : decode cX8_plan 5 = .ok (.ifCond .ne 6, 3) := by decide +kernel
theorem dX8_plan_8 : decode cX8_plan 8 = .ok (.bipush (-2), 2) := by decide +kernel
theorem dX8_plan_10 : decode cX8_plan 10 = .ok (.ireturn, 1) := by decide +kernel
theorem dX8_plan_11 : decode cX8_plan 11 = .ok (.aload_n 0, 1) := by decide +kernel
theorem dX8_plan_12 : decode cX8_plan 12 = .ok (.iload_n 1, 1) := by decide +kernel
theorem dX8_plan_13 : decode cX8_plan 13 = .ok (.invokevirtual 277, 3) := by decide +kernel
theorem dX8_plan_16 : decode cX8_plan 16 = .ok (.aload_n 0, 1) := by decide +kernel
theorem dX8_plan_17 : decode cX8_plan 17 = .ok (.getfield 67, 3) := by decide +kernel
theorem dX8_plan_20 : decode cX8_plan 20 = .ok (.getfield 280, 3) := by decide +kernel
theorem dX8_plan_23 : decode cX8_plan 23 = .ok (.ireturn, 1) := by decide +kernel
theorem dX8_planFor_0 : decode cX8_planFor 0 = .ok (.aload_n 0, 1) := by decide +kernel
theorem dX8_planFor_1 : decode cX8_planFor 1 = .ok (.getfield 94, 3) := by decide +kernel
theorem dX8_planFor_4 : decode cX8_planFor 4 = .ok (.iload_n 1, 1) := by decide +kernel
theorem dX8_planFor_5 : decode cX8_planFor 5 = .ok (.if_icmp .eq 16, 3) := by decide +kernel
theorem dX8_planFor_8 : decode cX8_planFor 8 = .ok (.aload_n 0, 1) := by decide +kernel
theorem dX8_planFor_9 : decode cX8_planFor 9 = .ok (.getfield 67, 3) := by decide +kernel
theorem dX8_planFor_12 : decode cX8_planFor 12 = .ok (.iload_n 1, 1) := by decide +kernel
theorem dX8_planFor_13 : decode cX8_planFor 13 = .ok (.invokevirtual 435, 3) := by decide +kernel
theorem dX8_planFor_16 : decode cX8_planFor 16 = .ok (.aload_n 0, 1) := by decide +kernel
theorem dX8_planFor_17 : decode cX8_planFor 17 = .ok (.iload_n 1, 1) := by decide +kernel
theorem dX8_planFor_18 : decode cX8_planFor 18 = .ok (.putfield 94, 3) := by decide +kernel
theorem dX8_planFor_21 : decode cX8_planFor 21 = .ok (.return_, 1) := by decide +kernel
theorem dX8_planned_0 : decode cX8_planned 0 = .ok (.aload_n 0, 1) := by decide +kernel
theorem dX8_planned_1 : decode cX8_planned 1 = .ok (.iload_n 1, 1) := by decide +kernel
theorem dX8_planned_2 : decode cX8_planned 2 = .ok (.invokevirtual 274, 3) := by decide +kernel
theorem dX8_planned_5 : decode cX8_planned 5 = .ok (.ifCond .eq 12, 3) := by decide +kernel
theorem dX8_planned_8 : decode cX8_planned 8 = .ok (.iload_n 2, 1) := by decide +kernel
theorem dX8_planned_9 : decode cX8_planned 9 = .ok (.ifCond .lt 8, 3) := by decide +kernel
theorem dX8_planned_12 : decode cX8_planned 12 = .ok (.iload_n 2, 1) := by decide +kernel
theorem dX8_planned_13 : decode cX8_planned 13 = .ok (.iload_n 1, 1) := by decide +kernel
theorem dX8_planned_14 : decode cX8_planned 14 = .ok (.if_icmp .lt 6, 3) := by decide +kernel
theorem dX8_planned_17 : decode cX8_planned 17 = .ok (.bipush (-2), 2) := by decide +kernel
theorem dX8_planned_19 : decode cX8_planned 19 = .ok (.ireturn, 1) := by decide +kernel
theorem dX8_planned_20 : decode cX8_planned 20 = .ok (.aload_n 0, 1) := by decide +kernel
theorem dX8_planned_21 : decode cX8_planned 21 = .ok (.iload_n 1, 1) := by decide +kernel
theorem dX8_planned_22 : decode cX8_planned 22 = .ok (.invokevirtual 277, 3) := by decide +kernel
theorem dX8_planned_25 : decode cX8_planned 25 = .ok (.aload_n 0, 1) := by decide +kernel
theorem dX8_planned_26 : decode cX8_planned 26 = .ok (.getfield 67, 3) := by decide +kernel
theorem dX8_planned_29 : decode cX8_planned 29 = .ok (.getfield 283, 3) := by decide +kernel
theorem dX8_planned_32 : decode cX8_planned 32 = .ok (.iload_n 2, 1) := by decide +kernel
theorem dX8_planned_33 : decode cX8_planned 33 = .ok (.iaload, 1) := by decide +kernel
theorem dX8_planned_34 : decode cX8_planned 34 = .ok (.ireturn, 1) := by decide +kernel
theorem dX8_plans_0 : decode cX8_plans 0 = .ok (.aload_n 0, 1) := by decide +kernel
theorem dX8_plans_1 : decode cX8_plans 1 = .ok (.iload_n 1, 1) := by decide +kernel
theorem dX8_plans_2 : decode cX8_plans 2 = .ok (.invokevirtual 274, 3) := by decide +kernel
theorem dX8_plans_5 : decode cX8_plans 5 = .ok (.ifCond .ne 6, 3) := by decide +kernel
theorem dX8_plans_8 : decode cX8_plans 8 = .ok (.bipush (-2), 2) := by decide +kernel
theorem dX8_plans_10 : decode cX8_plans 10 = .ok (.ireturn, 1) := by decide +kernel
theorem dX8_plans_11 : decode cX8_plans 11 = .ok (.aload_n 0, 1) := by decide +kernel
theorem dX8_plans_12 : decode cX8_plans 12 = .ok (.iload_n 1, 1) := by decide +kernel
theorem dX8_plans_13 : decode cX8_plans 13 = .ok (.invokevirtual 277, 3) := by decide +kernel
theorem dX8_plans_16 : decode cX8_plans 16 = .ok (.aload_n 0, 1) := by decide +kernel
theorem dX8_plans_17 : decode cX8_plans 17 = .ok (.getfield 67, 3) := by decide +kernel
theorem dX8_plans_20 : decode cX8_plans 20 = .ok (.getfield 286, 3) := by decide +kernel
theorem dX8_plans_23 : decode cX8_plans 23 = .ok (.ireturn, 1) := by decide +kernel
theorem dX8_quiet_0 : decode cX8_quiet 0 = .ok (.aload_n 0, 1) := by decide +kernel
theorem dX8_quiet_1 : decode cX8_quiet 1 = .ok (.getfield 32, 3) := by decide +kernel
theorem dX8_quiet_4 : decode cX8_quiet 4 = .ok (.invokevirtual 153, 3) := by decide +kernel
theorem dX8_quiet_7 : decode cX8_quiet 7 = .ok (.ifCond .ne 6, 3) := by decide +kernel
theorem dX8_quiet_10 : decode cX8_quiet 10 = .ok (.bipush (-2), 2) := by decide +kernel
theorem dX8_quiet_12 : decode cX8_quiet 12 = .ok (.ireturn, 1) := by decide +kernel
theorem dX8_quiet_13 : decode cX8_quiet 13 = .ok (.iconst 0, 1) := by decide +kernel
theorem dX8_quiet_14 : decode cX8_quiet 14 = .ok (.istore_n 1, 1) := by decide +kernel
theorem dX8_quiet_15 : decode cX8_quiet 15 = .ok (.iconst 0, 1) := by decide +kernel
theorem dX8_quiet_16 : decode cX8_quiet 16 = .ok (.istore_n 2, 1) := by decide +kernel
theorem dX8_quiet_17 : decode cX8_quiet 17 = .ok (.iload_n 2, 1) := by decide +kernel
theorem dX8_quiet_18 : decode cX8_quiet 18 = .ok (.aload_n 0, 1) := by decide +kernel
theorem dX8_quiet_19 : decode cX8_quiet 19 = .ok (.getfield 32, 3) := by decide +kernel
theorem dX8_quiet_22 : decode cX8_quiet 22 = .ok (.getfield 168, 3) := by decide +kernel
theorem dX8_quiet_25 : decode cX8_quiet 25 = .ok (.if_icmp .ge 25, 3) := by decide +kernel
theorem dX8_quiet_28 : decode cX8_quiet 28 = .ok (.iload_n 1, 1) := by decide +kernel
theorem dX8_quiet_29 : decode cX8_quiet 29 = .ok (.aload_n 0, 1) := by decide +kernel
theorem dX8_quiet_30 : decode cX8_quiet 30 = .ok (.iload_n 2, 1) := by decide +kernel
theorem dX8_quiet_31 : decode cX8_quiet 31 = .ok (.invokevirtual 246, 3) := by decide +kernel
theorem dX8_quiet_34 : decode cX8_quiet 34 = .ok (.ifCond .ne 7, 3) := by decide +kernel
theorem dX8_quiet_37 : decode cX8_quiet 37 = .ok (.iconst 1, 1) := by decide +kernel
theorem dX8_quiet_38 : decode cX8_quiet 38 = .ok (.goto 4, 3) := by decide +kernel
theorem dX8_quiet_41 : decode cX8_quiet 41 = .ok (.iconst 0, 1) := by decide +kernel
theorem dX8_quiet_42 : decode cX8_quiet 42 = .ok (.iadd, 1) := by decide +kernel
theorem dX8_quiet_43 : decode cX8_quiet 43 = .ok (.istore_n 1, 1) := by decide +kernel
theorem dX8_quiet_44 : decode cX8_quiet 44 = .ok (.iinc 2 1, 3) := by decide +kernel
theorem dX8_quiet_47 : decode cX8_quiet 47 = .ok (.goto (-30), 3) := by decide +kernel
theorem dX8_quiet_50 : decode cX8_quiet 50 = .ok (.iload_n 1, 1) := by decide +kernel
theorem dX8_quiet_51 : decode cX8_quiet 51 = .ok (.ireturn, 1) := by decide +kernel
theorem dX8_rate_0 : decode cX8_rate 0 = .ok (.aload_n 0, 1) := by decide +kernel
theorem dX8_rate_1 : decode cX8_rate 1 = .ok (.getfield 32, 3) := by decide +kernel
theorem dX8_rate_4 : decode cX8_rate 4 = .ok (.iload_n 1, 1) := by decide +kernel
theorem dX8_rate_5 : decode cX8_rate 5 = .ok (.invokevirtual 127, 3) := by decide +kernel
theorem dX8_rate_8 : decode cX8_rate 8 = .ok (.ifCond .eq 13, 3) := by decide +kernel
theorem dX8_rate_11 : decode cX8_rate 11 = .ok (.iload_n 2, 1) := by decide +kernel
theorem dX8_rate_12 : decode cX8_rate 12 = .ok (.ifCond .lt 9, 3) := by decide +kernel
theorem dX8_rate_15 : decode cX8_rate 15 = .ok (.iload_n 2, 1) := by decide +kernel
theorem dX8_rate_16 : decode cX8_rate 16 = .ok (.bipush 60, 2) := by decide +kernel
theorem dX8_rate_18 : decode cX8_rate 18 = .ok (.if_icmp .le 6, 3) := by decide +kernel
theorem dX8_rate_21 : decode cX8_rate 21 = .ok (.bipush (-2), 2) := by decide +kernel
theorem dX8_rate_23 : decode cX8_rate 23 = .ok (.ireturn, 1) := by decide +kernel
theorem dX8_rate_24 : decode cX8_rate 24 = .ok (.aload_n 0, 1) := by decide +kernel
theorem dX8_rate_25 : decode cX8_rate 25 = .ok (.getfield 32, 3) := by decide +kernel
theorem dX8_rate_28 : decode cX8_rate 28 = .ok (.getfield 179, 3) := by decide +kernel
theorem dX8_rate_31 : decode cX8_rate 31 = .ok (.ifCond .le 6, 3) := by decide +kernel
theorem dX8_rate_34 : decode cX8_rate 34 = .ok (.bipush (-5), 2) := by decide +kernel
theorem dX8_rate_36 : decode cX8_rate 36 = .ok (.ireturn, 1) := by decide +kernel
theorem dX8_rate_37 : decode cX8_rate 37 = .ok (.aload_n 0, 1) := by decide +kernel
theorem dX8_rate_38 : decode cX8_rate 38 = .ok (.getfield 32, 3) := by decide +kernel
theorem dX8_rate_41 : decode cX8_rate 41 = .ok (.getfield 131, 3) := by decide +kernel
theorem dX8_rate_44 : decode cX8_rate 44 = .ok (.iload_n 1, 1) := by decide +kernel
theorem dX8_rate_45 : decode cX8_rate 45 = .ok (.iaload, 1) := by decide +kernel
theorem dX8_rate_46 : decode cX8_rate 46 = .ok (.istore_n 3, 1) := by decide +kernel
theorem dX8_rate_47 : decode cX8_rate 47 = .ok (.aload_n 0, 1) := by decide +kernel
theorem dX8_rate_48 : decode cX8_rate 48 = .ok (.getfield 32, 3) := by decide +kernel
theorem dX8_rate_51 : decode cX8_rate 51 = .ok (.getfield 131, 3) := by decide +kernel
theorem dX8_rate_54 : decode cX8_rate 54 = .ok (.iload_n 1, 1) := by decide +kernel
theorem dX8_rate_55 : decode cX8_rate 55 = .ok (.iload_n 2, 1) := by decide +kernel
theorem dX8_rate_56 : decode cX8_rate 56 = .ok (.iastore, 1) := by decide +kernel
theorem dX8_rate_57 : decode cX8_rate 57 = .ok (.aload_n 0, 1) := by decide +kernel
theorem dX8_rate_58 : decode cX8_rate 58 = .ok (.invokevirtual 115, 3) := by decide +kernel
theorem dX8_rate_61 : decode cX8_rate 61 = .ok (.iload_n 3, 1) := by decide +kernel
theorem dX8_rate_62 : decode cX8_rate 62 = .ok (.ireturn, 1) := by decide +kernel
theorem dX8_read_0 : decode cX8_read 0 = .ok (.aload_n 0, 1) := by decide +kernel
theorem dX8_read_1 : decode cX8_read 1 = .ok (.getfield 32, 3) := by decide +kernel
theorem dX8_read_4 : decode cX8_read 4 = .ok (.iload_n 1, 1) := by decide +kernel
theorem dX8_read_5 : decode cX8_read 5 = .ok (.invokevirtual 127, 3) := by decide +kernel
theorem dX8_read_8 : decode cX8_read 8 = .ok (.ifCond .eq 14, 3) := by decide +kernel
theorem dX8_read_11 : decode cX8_read 11 = .ok (.aload_n 0, 1) := by decide +kernel
theorem dX8_read_12 : decode cX8_read 12 = .ok (.invokevirtual 189, 3) := by decide +kernel
theorem dX8_read_15 : decode cX8_read 15 = .ok (.iload_n 1, 1) := by decide +kernel
theorem dX8_read_16 : decode cX8_read 16 = .ok (.invokevirtual 208, 3) := by decide +kernel
theorem dX8_read_19 : decode cX8_read 19 = .ok (.goto 5, 3) := by decide +kernel
theorem dX8_read_22 : decode cX8_read 22 = .ok (.bipush (-2), 2) := by decide +kernel
theorem dX8_read_24 : decode cX8_read 24 = .ok (.ireturn, 1) := by decide +kernel
theorem dX8_readByLaw_0 : decode cX8_readByLaw 0 = .ok (.aload_n 0, 1) := by decide +kernel
theorem dX8_readByLaw_1 : decode cX8_readByLaw 1 = .ok (.aload_n 0, 1) := by decide +kernel
theorem dX8_readByLaw_2 : decode cX8_readByLaw 2 = .ok (.getfield 32, 3) := by decide +kernel
theorem dX8_readByLaw_5 : decode cX8_readByLaw 5 = .ok (.invokevirtual 315, 3) := by decide +kernel
theorem dX8_readByLaw_8 : decode cX8_readByLaw 8 = .ok (.invokevirtual 318, 3) := by decide +kernel
theorem dX8_readByLaw_11 : decode cX8_readByLaw 11 = .ok (.aload_n 0, 1) := by decide +kernel
theorem dX8_readByLaw_12 : decode cX8_readByLaw 12 = .ok (.getfield 59, 3) := by decide +kernel
theorem dX8_readByLaw_15 : decode cX8_readByLaw 15 = .ok (.iload_n 1, 1) := by decide +kernel
theorem dX8_readByLaw_16 : decode cX8_readByLaw 16 = .ok (.putfield 321, 3) := by decide +kernel
theorem dX8_readByLaw_19 : decode cX8_readByLaw 19 = .ok (.aload_n 0, 1) := by decide +kernel
theorem dX8_readByLaw_20 : decode cX8_readByLaw 20 = .ok (.getfield 59, 3) := by decide +kernel
theorem dX8_readByLaw_23 : decode cX8_readByLaw 23 = .ok (.invokevirtual 217, 3) := by decide +kernel
theorem dX8_readByLaw_26 : decode cX8_readByLaw 26 = .ok (.ireturn, 1) := by decide +kernel
theorem dX8_reads_0 : decode cX8_reads 0 = .ok (.aload_n 0, 1) := by decide +kernel
theorem dX8_reads_1 : decode cX8_reads 1 = .ok (.getfield 32, 3) := by decide +kernel
theorem dX8_reads_4 : decode cX8_reads 4 = .ok (.iload_n 1, 1) := by decide +kernel
theorem dX8_reads_5 : decode cX8_reads 5 = .ok (.invokevirtual 211, 3) := by decide +kernel
theorem dX8_reads_8 : decode cX8_reads 8 = .ok (.ifCond .eq 14, 3) := by decide +kernel
theorem dX8_reads_11 : decode cX8_reads 11 = .ok (.aload_n 0, 1) := by decide +kernel
theorem dX8_reads_12 : decode cX8_reads 12 = .ok (.invokevirtual 189, 3) := by decide +kernel
theorem dX8_reads_15 : decode cX8_reads 15 = .ok (.iload_n 1, 1) := by decide +kernel
theorem dX8_reads_16 : decode cX8_reads 16 = .ok (.invokevirtual 214, 3) := by decide +kernel
theorem dX8_reads_19 : decode cX8_reads 19 = .ok (.goto 5, 3) := by decide +kernel
theorem dX8_reads_22 : decode cX8_reads 22 = .ok (.bipush (-2), 2) := by decide +kernel
theorem dX8_reads_24 : decode cX8_reads 24 = .ok (.ireturn, 1) := by decide +kernel
theorem dX8_refuseAct_0 : decode cX8_refuseAct 0 = .ok (.aload_n 0, 1) := by decide +kernel
theorem dX8_refuseAct_1 : decode cX8_refuseAct 1 = .ok (.getfield 32, 3) := by decide +kernel
theorem dX8_refuseAct_4 : decode cX8_refuseAct 4 = .ok (.iload_n 1, 1) := by decide +kernel
theorem dX8_refuseAct_5 : decode cX8_refuseAct 5 = .ok (.invokevirtual 127, 3) := by decide +kernel
theorem dX8_refuseAct_8 : decode cX8_refuseAct 8 = .ok (.ifCond .eq 14, 3) := by decide +kernel
theorem dX8_refuseAct_11 : decode cX8_refuseAct 11 = .ok (.aload_n 0, 1) := by decide +kernel
theorem dX8_refuseAct_12 : decode cX8_refuseAct 12 = .ok (.getfield 32, 3) := by decide +kernel
theorem dX8_refuseAct_15 : decode cX8_refuseAct 15 = .ok (.iload_n 2, 1) := by decide +kernel
theorem dX8_refuseAct_16 : decode cX8_refuseAct 16 = .ok (.invokevirtual 211, 3) := by decide +kernel
theorem dX8_refuseAct_19 : decode cX8_refuseAct 19 = .ok (.ifCond .ne 6, 3) := by decide +kernel
theorem dX8_refuseAct_22 : decode cX8_refuseAct 22 = .ok (.bipush (-2), 2) := by decide +kernel
theorem dX8_refuseAct_24 : decode cX8_refuseAct 24 = .ok (.ireturn, 1) := by decide +kernel
theorem dX8_refuseAct_25 : decode cX8_refuseAct 25 = .ok (.aload_n 0, 1) := by decide +kernel
theorem dX8_refuseAct_26 : decode cX8_refuseAct 26 = .ok (.getfield 32, 3) := by decide +kernel
theorem dX8_refuseAct_29 : decode cX8_refuseAct 29 = .ok (.getfield 179, 3) := by decide +kernel
theorem dX8_refuseAct_32 : decode cX8_refuseAct 32 = .ok (.bipush 20, 2) := by decide +kernel
theorem dX8_refuseAct_34 : decode cX8_refuseAct 34 = .ok (.if_icmp .ge 7, 3) := by decide +kernel
theorem dX8_refuseAct_37 : decode cX8_refuseAct 37 = .ok (.iconst 0, 1) := by decide +kernel
theorem dX8_refuseAct_38 : decode cX8_refuseAct 38 = .ok (.goto 5, 3) := by decide +kernel
theorem dX8_refuseAct_41 : decode cX8_refuseAct 41 = .ok (.bipush (-5), 2) := by decide +kernel
theorem dX8_refuseAct_43 : decode cX8_refuseAct 43 = .ok (.ireturn, 1) := by decide +kernel
theorem dX8_refuseSeen_0 : decode cX8_refuseSeen 0 = .ok (.aload_n 0, 1) := by decide +kernel
theorem dX8_refuseSeen_1 : decode cX8_refuseSeen 1 = .ok (.getfield 46, 3) := by decide +kernel
theorem dX8_refuseSeen_4 : decode cX8_refuseSeen 4 = .ok (.iload_n 1, 1) := by decide +kernel
theorem dX8_refuseSeen_5 : decode cX8_refuseSeen 5 = .ok (.invokevirtual 378, 3) := by decide +kernel
theorem dX8_refuseSeen_8 : decode cX8_refuseSeen 8 = .ok (.ifCond .ne 6, 3) := by decide +kernel
theorem dX8_refuseSeen_11 : decode cX8_refuseSeen 11 = .ok (.bipush (-2), 2) := by decide +kernel
theorem dX8_refuseSeen_13 : decode cX8_refuseSeen 13 = .ok (.ireturn, 1) := by decide +kernel
theorem dX8_refuseSeen_14 : decode cX8_refuseSeen 14 = .ok (.aload_n 0, 1) := by decide +kernel
theorem dX8_refuseSeen_15 : decode cX8_refuseSeen 15 = .ok (.getfield 46, 3) := by decide +kernel
theorem dX8_refuseSeen_18 : decode cX8_refuseSeen 18 = .ok (.iload_n 1, 1) := by decide +kernel
theorem dX8_refuseSeen_19 : decode cX8_refuseSeen 19 = .ok (.invokevirtual 384, 3) := by decide +kernel
theorem dX8_refuseSeen_22 : decode cX8_refuseSeen 22 = .ok (.ifCond .eq 6, 3) := by decide +kernel
theorem dX8_refuseSeen_25 : decode cX8_refuseSeen 25 = .ok (.bipush (-6), 2) := by decide +kernel
theorem dX8_refuseSeen_27 : decode cX8_refuseSeen 27 = .ok (.ireturn, 1) := by decide +kernel
theorem dX8_refuseSeen_28 : decode cX8_refuseSeen 28 = .ok (.aload_n 0, 1) := by decide +kernel
theorem dX8_refuseSeen_29 : decode cX8_refuseSeen 29 = .ok (.getfield 83, 3) := by decide +kernel
theorem dX8_refuseSeen_32 : decode cX8_refuseSeen 32 = .ok (.iload_n 1, 1) := by decide +kernel
theorem dX8_refuseSeen_33 : decode cX8_refuseSeen 33 = .ok (.invokevirtual 438, 3) := by decide +kernel
theorem dX8_refuseSeen_36 : decode cX8_refuseSeen 36 = .ok (.ifCond .eq 7, 3) := by decide +kernel
theorem dX8_refuseSeen_39 : decode cX8_refuseSeen 39 = .ok (.iconst 0, 1) := by decide +kernel
theorem dX8_refuseSeen_40 : decode cX8_refuseSeen 40 = .ok (.goto 5, 3) := by decide +kernel
theorem dX8_refuseSeen_43 : decode cX8_refuseSeen 43 = .ok (.bipush (-2), 2) := by decide +kernel
theorem dX8_refuseSeen_45 : decode cX8_refuseSeen 45 = .ok (.ireturn, 1) := by decide +kernel
theorem dX8_refuseSeenOf_0 : decode cX8_refuseSeenOf 0 = .ok (.aload_n 0, 1) := by decide +kernel
theorem dX8_refuseSeenOf_1 : decode cX8_refuseSeenOf 1 = .ok (.getfield 32, 3) := by decide +kernel
theorem dX8_refuseSeenOf_4 : decode cX8_refuseSeenOf 4 = .ok (.iload_n 2, 1) := by decide +kernel
theorem dX8_refuseSeenOf_5 : decode cX8_refuseSeenOf 5 = .ok (.invokevirtual 127, 3) := by decide +kernel
theorem dX8_refuseSeenOf_8 : decode cX8_refuseSeenOf 8 = .ok (.ifCond .eq 11, 3) := by decide +kernel
theorem dX8_refuseSeenOf_11 : decode cX8_refuseSeenOf 11 = .ok (.aload_n 0, 1) := by decide +kernel
theorem dX8_refuseSeenOf_12 : decode cX8_refuseSeenOf 12 = .ok (.iload_n 1, 1) := by decide +kernel
theorem dX8_refuseSeenOf_13 : decode cX8_refuseSeenOf 13 = .ok (.invokevirtual 312, 3) := by decide +kernel
theorem dX8_refuseSeenOf_16 : decode cX8_refuseSeenOf 16 = .ok (.goto 5, 3) := by decide +kernel
theorem dX8_refuseSeenOf_19 : decode cX8_refuseSeenOf 19 = .ok (.bipush (-2), 2) := by decide +kernel
theorem dX8_refuseSeenOf_21 : decode cX8_refuseSeenOf 21 = .ok (.ireturn, 1) := by decide +kernel
theorem dX8_replies_0 : decode cX8_replies 0 = .ok (.aload_n 0, 1) := by decide +kernel
theorem dX8_replies_1 : decode cX8_replies 1 = .ok (.getfield 32, 3) := by decide +kernel
theorem dX8_replies_4 : decode cX8_replies 4 = .ok (.iload_n 1, 1) := by decide +kernel
theorem dX8_replies_5 : decode cX8_replies 5 = .ok (.invokevirtual 127, 3) := by decide +kernel
theorem dX8_replies_8 : decode cX8_replies 8 = .ok (.ifCond .ne 6, 3) := by decide +kernel
theorem dX8_replies_11 : decode cX8_replies 11 = .ok (.bipush (-2), 2) := by decide +kernel
theorem dX8_replies_13 : decode cX8_replies 13 = .ok (.ireturn, 1) := by decide +kernel
theorem dX8_replies_14 : decode cX8_replies 14 = .ok (.aload_n 0, 1) := by decide +kernel
theorem dX8_replies_15 : decode cX8_replies 15 = .ok (.getfield 59, 3) := by decide +kernel
theorem dX8_replies_18 : decode cX8_replies 18 = .ok (.iconst (-1), 1) := by decide +kernel
theorem dX8_replies_19 : decode cX8_replies 19 = .ok (.invokevirtual 257, 3) := by decide +kernel
theorem dX8_replies_22 : decode cX8_replies 22 = .ok (.aload_n 0, 1) := by decide +kernel
theorem dX8_replies_23 : decode cX8_replies 23 = .ok (.iload_n 1, 1) := by decide +kernel
theorem dX8_replies_24 : decode cX8_replies 24 = .ok (.invokevirtual 335, 3) := by decide +kernel
theorem dX8_replies_27 : decode cX8_replies 27 = .ok (.ireturn, 1) := by decide +kernel
theorem dX8_rests_0 : decode cX8_rests 0 = .ok (.aload_n 0, 1) := by decide +kernel
theorem dX8_rests_1 : decode cX8_rests 1 = .ok (.iload_n 1, 1) := by decide +kernel
theorem dX8_rests_2 : decode cX8_rests 2 = .ok (.iload_n 2, 1) := by decide +kernel
theorem dX8_rests_3 : decode cX8_rests 3 = .ok (.invokevirtual 338, 3) := by decide +kernel
theorem dX8_rests_6 : decode cX8_rests 6 = .ok (.ifCond .ne 6, 3) := by decide +kernel
theorem dX8_rests_9 : decode cX8_rests 9 = .ok (.bipush (-2), 2) := by decide +kernel
theorem dX8_rests_11 : decode cX8_rests 11 = .ok (.ireturn, 1) := by decide +kernel
theorem dX8_rests_12 : decode cX8_rests 12 = .ok (.iconst 0, 1) := by decide +kernel
theorem dX8_rests_13 : decode cX8_rests 13 = .ok (.istore_n 3, 1) := by decide +kernel
theorem dX8_rests_14 : decode cX8_rests 14 = .ok (.iconst 0, 1) := by decide +kernel
theorem dX8_rests_15 : decode cX8_rests 15 = .ok (.istore 4, 2) := by decide +kernel
theorem dX8_rests_17 : decode cX8_rests 17 = .ok (.iload 4, 2) := by decide +kernel
theorem dX8_rests_19 : decode cX8_rests 19 = .ok (.iconst 2, 1) := by decide +kernel
theorem dX8_rests_20 : decode cX8_rests 20 = .ok (.if_icmp .ge 110, 3) := by decide +kernel
theorem dX8_rests_23 : decode cX8_rests 23 = .ok (.iconst 0, 1) := by decide +kernel
theorem dX8_rests_24 : decode cX8_rests 24 = .ok (.istore 5, 2) := by decide +kernel
theorem dX8_rests_26 : decode cX8_rests 26 = .ok (.iload 5, 2) := by decide +kernel
theorem dX8_rests_28 : decode cX8_rests 28 = .ok (.iconst 2, 1) := by decide +kernel
theorem dX8_rests_29 : decode cX8_rests 29 = .ok (.if_icmp .ge 95, 3) := by decide +kernel
theorem dX8_rests_32 : decode cX8_rests 32 = .ok (.aload_n 0, 1) := by decide +kernel
theorem dX8_rests_33 : decode cX8_rests 33 = .ok (.iload_n 1, 1) := by decide +kernel
theorem dX8_rests_34 : decode cX8_rests 34 = .ok (.iload_n 2, 1) := by decide +kernel
theorem dX8_rests_35 : decode cX8_rests 35 = .ok (.iload 4, 2) := by decide +kernel
theorem dX8_rests_37 : decode cX8_rests 37 = .ok (.iload 5, 2) := by decide +kernel
theorem dX8_rests_39 : decode cX8_rests 39 = .ok (.invokevirtual 341, 3) := by decide +kernel
theorem dX8_rests_42 : decode cX8_rests 42 = .ok (.aload_n 0, 1) := by decide +kernel
theorem dX8_rests_43 : decode cX8_rests 43 = .ok (.iload_n 1, 1) := by decide +kernel
theorem dX8_rests_44 : decode cX8_rests 44 = .ok (.iload_n 2, 1) := by decide +kernel
theorem dX8_rests_45 : decode cX8_rests 45 = .ok (.iconst 1, 1) := by decide +kernel
theorem dX8_rests_46 : decode cX8_rests 46 = .ok (.iload 4, 2) := by decide +kernel
theorem dX8_rests_48 : decode cX8_rests 48 = .ok (.isub, 1) := by decide +kernel
theorem dX8_rests_49 : decode cX8_rests 49 = .ok (.iload 5, 2) := by decide +kernel
theorem dX8_rests_51 : decode cX8_rests 51 = .ok (.invokevirtual 341, 3) := by decide +kernel
theorem dX8_rests_54 : decode cX8_rests 54 = .ok (.if_icmp .lt 7, 3) := by decide +kernel
theorem dX8_rests_57 : decode cX8_rests 57 = .ok (.iconst 1, 1) := by decide +kernel
theorem dX8_rests_58 : decode cX8_rests 58 = .ok (.goto 4, 3) := by decide +kernel
theorem dX8_rests_61 : decode cX8_rests 61 = .ok (.iconst 0, 1) := by decide +kernel
theorem dX8_rests_62 : decode cX8_rests 62 = .ok (.istore 6, 2) := by decide +kernel
theorem dX8_rests_64 : decode cX8_rests 64 = .ok (.aload_n 0, 1) := by decide +kernel
theorem dX8_rests_65 : decode cX8_rests 65 = .ok (.iload_n 2, 1) := by decide +kernel
theorem dX8_rests_66 : decode cX8_rests 66 = .ok (.iload_n 1, 1) := by decide +kernel
theorem dX8_rests_67 : decode cX8_rests 67 = .ok (.iload 5, 2) := by decide +kernel
theorem dX8_rests_69 : decode cX8_rests 69 = .ok (.iload 4, 2) := by decide +kernel
theorem dX8_rests_71 : decode cX8_rests 71 = .ok (.invokevirtual 341, 3) := by decide +kernel
theorem dX8_rests_74 : decode cX8_rests 74 = .ok (.aload_n 0, 1) := by decide +kernel
theorem dX8_rests_75 : decode cX8_rests 75 = .ok (.iload_n 2, 1) := by decide +kernel
theorem dX8_rests_76 : decode cX8_rests 76 = .ok (.iload_n 1, 1) := by decide +kernel
theorem dX8_rests_77 : decode cX8_rests 77 = .ok (.iconst 1, 1) := by decide +kernel
theorem dX8_rests_78 : decode cX8_rests 78 = .ok (.iload 5, 2) := by decide +kernel
theorem dX8_rests_80 : decode cX8_rests 80 = .ok (.isub, 1) := by decide +kernel
theorem dX8_rests_81 : decode cX8_rests 81 = .ok (.iload 4, 2) := by decide +kernel
theorem dX8_rests_83 : decode cX8_rests 83 = .ok (.invokevirtual 341, 3) := by decide +kernel
theorem dX8_rests_86 : decode cX8_rests 86 = .ok (.if_icmp .lt 7, 3) := by decide +kernel
theorem dX8_rests_89 : decode cX8_rests 89 = .ok (.iconst 1, 1) := by decide +kernel
theorem dX8_rests_90 : decode cX8_rests 90 = .ok (.goto 4, 3) := by decide +kernel
theorem dX8_rests_93 : decode cX8_rests 93 = .ok (.iconst 0, 1) := by decide +kernel
theorem dX8_rests_94 : decode cX8_rests 94 = .ok (.istore 7, 2) := by decide +kernel
theorem dX8_rests_96 : decode cX8_rests 96 = .ok (.iload 6, 2) := by decide +kernel
theorem dX8_rests_98 : decode cX8_rests 98 = .ok (.ifCond .eq 20, 3) := by decide +kernel
theorem dX8_rests_101 : decode cX8_rests 101 = .ok (.iload 7, 2) := by decide +kernel
theorem dX8_rests_103 : decode cX8_rests 103 = .ok (.ifCond .eq 15, 3) := by decide +kernel
theorem dX8_rests_106 : decode cX8_rests 106 = .ok (.iload_n 3, 1) := by decide +kernel
theorem dX8_rests_107 : decode cX8_rests 107 = .ok (.iconst 1, 1) := by decide +kernel
theorem dX8_rests_108 : decode cX8_rests 108 = .ok (.iload 4, 2) := by decide +kernel
theorem dX8_rests_110 : decode cX8_rests 110 = .ok (.iconst 2, 1) := by decide +kernel
theorem dX8_rests_111 : decode cX8_rests 111 = .ok (.iload 5, 2) := by decide +kernel
theorem dX8_rests_113 : decode cX8_rests 113 = .ok (.imul, 1) := by decide +kernel
theorem dX8_rests_114 : decode cX8_rests 114 = .ok (.iadd, 1) := by decide +kernel
theorem dX8_rests_115 : decode cX8_rests 115 = .ok (.ishl, 1) := by decide +kernel
theorem dX8_rests_116 : decode cX8_rests 116 = .ok (.ior, 1) := by decide +kernel
theorem dX8_rests_117 : decode cX8_rests 117 = .ok (.istore_n 3, 1) := by decide +kernel
theorem dX8_rests_118 : decode cX8_rests 118 = .ok (.iinc 5 1, 3) := by decide +kernel
theorem dX8_rests_121 : decode cX8_rests 121 = .ok (.goto (-95), 3) := by decide +kernel
theorem dX8_rests_124 : decode cX8_rests 124 = .ok (.iinc 4 1, 3) := by decide +kernel
theorem dX8_rests_127 : decode cX8_rests 127 = .ok (.goto (-110), 3) := by decide +kernel
theorem dX8_rests_130 : decode cX8_rests 130 = .ok (.iload_n 3, 1) := by decide +kernel
theorem dX8_rests_131 : decode cX8_rests 131 = .ok (.ireturn, 1) := by decide +kernel
theorem dX8_row_0 : decode cX8_row 0 = .ok (.aload_n 0, 1) := by decide +kernel
theorem dX8_row_1 : decode cX8_row 1 = .ok (.getfield 46, 3) := by decide +kernel
theorem dX8_row_4 : decode cX8_row 4 = .ok (.iload_n 1, 1) := by decide +kernel
theorem dX8_row_5 : decode cX8_row 5 = .ok (.invokevirtual 378, 3) := by decide +kernel
theorem dX8_row_8 : decode cX8_row 8 = .ok (.ifCond .eq 18, 3) := by decide +kernel
theorem dX8_row_11 : decode cX8_row 11 = .ok (.iload_n 2, 1) := by decide +kernel
theorem dX8_row_12 : decode cX8_row 12 = .ok (.ifCond .lt 14, 3) := by decide +kernel
theorem dX8_row_15 : decode cX8_row 15 = .ok (.iload_n 2, 1) := by decide +kernel
theorem dX8_row_16 : decode cX8_row 16 = .ok (.iconst 4, 1) := by decide +kernel
theorem dX8_row_17 : decode cX8_row 17 = .ok (.if_icmp .ge 9, 3) := by decide +kernel
theorem dX8_row_20 : decode cX8_row 20 = .ok (.iload_n 3, 1) := by decide +kernel
theorem dX8_row_21 : decode cX8_row 21 = .ok (.bipush 60, 2) := by decide +kernel
theorem dX8_row_23 : decode cX8_row 23 = .ok (.if_icmp .le 6, 3) := by decide +kernel
theorem dX8_row_26 : decode cX8_row 26 = .ok (.bipush (-2), 2) := by decide +kernel
theorem dX8_row_28 : decode cX8_row 28 = .ok (.ireturn, 1) := by decide +kernel
theorem dX8_row_29 : decode cX8_row 29 = .ok (.iload_n 3, 1) := by decide +kernel
theorem dX8_row_30 : decode cX8_row 30 = .ok (.ifCond .ge 6, 3) := by decide +kernel
theorem dX8_row_33 : decode cX8_row 33 = .ok (.bipush (-3), 2) := by decide +kernel
theorem dX8_row_35 : decode cX8_row 35 = .ok (.ireturn, 1) := by decide +kernel
theorem dX8_row_36 : decode cX8_row 36 = .ok (.aload_n 0, 1) := by decide +kernel
theorem dX8_row_37 : decode cX8_row 37 = .ok (.getfield 46, 3) := by decide +kernel
theorem dX8_row_40 : decode cX8_row 40 = .ok (.iload_n 1, 1) := by decide +kernel
theorem dX8_row_41 : decode cX8_row 41 = .ok (.iload_n 2, 1) := by decide +kernel
theorem dX8_row_42 : decode cX8_row 42 = .ok (.iload_n 3, 1) := by decide +kernel
theorem dX8_row_43 : decode cX8_row 43 = .ok (.invokevirtual 381, 3) := by decide +kernel
theorem dX8_row_46 : decode cX8_row 46 = .ok (.iconst 0, 1) := by decide +kernel
theorem dX8_row_47 : decode cX8_row 47 = .ok (.ireturn, 1) := by decide +kernel
theorem dX8_rush_0 : decode cX8_rush 0 = .ok (.aload_n 0, 1) := by decide +kernel
theorem dX8_rush_1 : decode cX8_rush 1 = .ok (.getfield 32, 3) := by decide +kernel
theorem dX8_rush_4 : decode cX8_rush 4 = .ok (.invokevirtual 153, 3) := by decide +kernel
theorem dX8_rush_7 : decode cX8_rush 7 = .ok (.ifCond .ne 6, 3) := by decide +kernel
theorem dX8_rush_10 : decode cX8_rush 10 = .ok (.bipush (-2), 2) := by decide +kernel
theorem dX8_rush_12 : decode cX8_rush 12 = .ok (.ireturn, 1) := by decide +kernel
theorem dX8_rush_13 : decode cX8_rush 13 = .ok (.iconst 0, 1) := by decide +kernel
theorem dX8_rush_14 : decode cX8_rush 14 = .ok (.istore_n 1, 1) := by decide +kernel
theorem dX8_rush_15 : decode cX8_rush 15 = .ok (.iconst 0, 1) := by decide +kernel
theorem dX8_rush_16 : decode cX8_rush 16 = .ok (.istore_n 2, 1) := by decide +kernel
theorem dX8_rush_17 : decode cX8_rush 17 = .ok (.iload_n 2, 1) := by decide +kernel
theorem dX8_rush_18 : decode cX8_rush 18 = .ok (.aload_n 0, 1) := by decide +kernel
theorem dX8_rush_19 : decode cX8_rush 19 = .ok (.getfield 32, 3) := by decide +kernel
theorem dX8_rush_22 : decode cX8_rush 22 = .ok (.getfield 168, 3) := by decide +kernel
theorem dX8_rush_25 : decode cX8_rush 25 = .ok (.if_icmp .ge 19, 3) := by decide +kernel
theorem dX8_rush_28 : decode cX8_rush 28 = .ok (.iload_n 1, 1) := by decide +kernel
theorem dX8_rush_29 : decode cX8_rush 29 = .ok (.aload_n 0, 1) := by decide +kernel
theorem dX8_rush_30 : decode cX8_rush 30 = .ok (.iload_n 2, 1) := by decide +kernel
theorem dX8_rush_31 : decode cX8_rush 31 = .ok (.invokevirtual 246, 3) := by decide +kernel
theorem dX8_rush_34 : decode cX8_rush 34 = .ok (.invokestatic 223, 3) := by decide +kernel
theorem dX8_rush_37 : decode cX8_rush 37 = .ok (.istore_n 1, 1) := by decide +kernel
theorem dX8_rush_38 : decode cX8_rush 38 = .ok (.iinc 2 1, 3) := by decide +kernel
theorem dX8_rush_41 : decode cX8_rush 41 = .ok (.goto (-24), 3) := by decide +kernel
theorem dX8_rush_44 : decode cX8_rush 44 = .ok (.iload_n 1, 1) := by decide +kernel
theorem dX8_rush_45 : decode cX8_rush 45 = .ok (.ireturn, 1) := by decide +kernel
theorem dX8_setWorth_0 : decode cX8_setWorth 0 = .ok (.aload_n 0, 1) := by decide +kernel
theorem dX8_setWorth_1 : decode cX8_setWorth 1 = .ok (.getfield 59, 3) := by decide +kernel
theorem dX8_setWorth_4 : decode cX8_setWorth 4 = .ok (.iload_n 1, 1) := by decide +kernel
theorem dX8_setWorth_5 : decode cX8_setWorth 5 = .ok (.iconst 0, 1) := by decide +kernel
theorem dX8_setWorth_6 : decode cX8_setWorth 6 = .ok (.invokevirtual 431, 3) := by decide +kernel
theorem dX8_setWorth_9 : decode cX8_setWorth 9 = .ok (.aload_n 0, 1) := by decide +kernel
theorem dX8_setWorth_10 : decode cX8_setWorth 10 = .ok (.getfield 59, 3) := by decide +kernel
theorem dX8_setWorth_13 : decode cX8_setWorth 13 = .ok (.invokevirtual 217, 3) := by decide +kernel
theorem dX8_setWorth_16 : decode cX8_setWorth 16 = .ok (.ireturn, 1) := by decide +kernel
theorem dX8_sewnGets_0 : decode cX8_sewnGets 0 = .ok (.aload_n 0, 1) := by decide +kernel
theorem dX8_sewnGets_1 : decode cX8_sewnGets 1 = .ok (.getfield 59, 3) := by decide +kernel
theorem dX8_sewnGets_4 : decode cX8_sewnGets 4 = .ok (.iconst (-1), 1) := by decide +kernel
theorem dX8_sewnGets_5 : decode cX8_sewnGets 5 = .ok (.invokevirtual 257, 3) := by decide +kernel
theorem dX8_sewnGets_8 : decode cX8_sewnGets 8 = .ok (.aload_n 0, 1) := by decide +kernel
theorem dX8_sewnGets_9 : decode cX8_sewnGets 9 = .ok (.getfield 59, 3) := by decide +kernel
theorem dX8_sewnGets_12 : decode cX8_sewnGets 12 = .ok (.iload_n 3, 1) := by decide +kernel
theorem dX8_sewnGets_13 : decode cX8_sewnGets 13 = .ok (.iload_n 1, 1) := by decide +kernel
theorem dX8_sewnGets_14 : decode cX8_sewnGets 14 = .ok (.ishl, 1) := by decide +kernel
theorem dX8_sewnGets_15 : decode cX8_sewnGets 15 = .ok (.iload 4, 2) := by decide +kernel
theorem dX8_sewnGets_17 : decode cX8_sewnGets 17 = .ok (.iload_n 2, 1) := by decide +kernel
theorem dX8_sewnGets_18 : decode cX8_sewnGets 18 = .ok (.ishl, 1) := by decide +kernel
theorem dX8_sewnGets_19 : decode cX8_sewnGets 19 = .ok (.ior, 1) := by decide +kernel
theorem dX8_sewnGets_20 : decode cX8_sewnGets 20 = .ok (.putfield 441, 3) := by decide +kernel
theorem dX8_sewnGets_23 : decode cX8_sewnGets 23 = .ok (.aload_n 0, 1) := by decide +kernel
theorem dX8_sewnGets_24 : decode cX8_sewnGets 24 = .ok (.getfield 59, 3) := by decide +kernel
theorem dX8_sewnGets_27 : decode cX8_sewnGets 27 = .ok (.aload_n 0, 1) := by decide +kernel
theorem dX8_sewnGets_28 : decode cX8_sewnGets 28 = .ok (.getfield 32, 3) := by decide +kernel
theorem dX8_sewnGets_31 : decode cX8_sewnGets 31 = .ok (.invokevirtual 315, 3) := by decide +kernel
theorem dX8_sewnGets_34 : decode cX8_sewnGets 34 = .ok (.invokevirtual 329, 3) := by decide +kernel
theorem dX8_sewnGets_37 : decode cX8_sewnGets 37 = .ok (.iconst 0, 1) := by decide +kernel
theorem dX8_sewnGets_38 : decode cX8_sewnGets 38 = .ok (.aload_n 0, 1) := by decide +kernel
theorem dX8_sewnGets_39 : decode cX8_sewnGets 39 = .ok (.getfield 59, 3) := by decide +kernel
theorem dX8_sewnGets_42 : decode cX8_sewnGets 42 = .ok (.iload_n 1, 1) := by decide +kernel
theorem dX8_sewnGets_43 : decode cX8_sewnGets 43 = .ok (.invokevirtual 208, 3) := by decide +kernel
theorem dX8_sewnGets_46 : decode cX8_sewnGets 46 = .ok (.invokestatic 223, 3) := by decide +kernel
theorem dX8_sewnGets_49 : decode cX8_sewnGets 49 = .ok (.iconst 4, 1) := by decide +kernel
theorem dX8_sewnGets_50 : decode cX8_sewnGets 50 = .ok (.iload_n 3, 1) := by decide +kernel
theorem dX8_sewnGets_51 : decode cX8_sewnGets 51 = .ok (.imul, 1) := by decide +kernel
theorem dX8_sewnGets_52 : decode cX8_sewnGets 52 = .ok (.iadd, 1) := by decide +kernel
theorem dX8_sewnGets_53 : decode cX8_sewnGets 53 = .ok (.ireturn, 1) := by decide +kernel
theorem dX8_share_0 : decode cX8_share 0 = .ok (.aload_n 0, 1) := by decide +kernel
theorem dX8_share_1 : decode cX8_share 1 = .ok (.getfield 32, 3) := by decide +kernel
theorem dX8_share_4 : decode cX8_share 4 = .ok (.iload_n 1, 1) := by decide +kernel
theorem dX8_share_5 : decode cX8_share 5 = .ok (.invokevirtual 127, 3) := by decide +kernel
theorem dX8_share_8 : decode cX8_share 8 = .ok (.ifCond .eq 10, 3) := by decide +kernel
theorem dX8_share_11 : decode cX8_share 11 = .ok (.iload_n 2, 1) := by decide +kernel
theorem dX8_share_12 : decode cX8_share 12 = .ok (.invokestatic 263, 3) := by decide +kernel
theorem dX8_share_15 : decode cX8_share 15 = .ok (.ifCond .ne 7, 3) := by decide +kernel
theorem dX8_share_18 : decode cX8_share 18 = .ok (.ldc_w 266, 3) := by decide +kernel
theorem dX8_share_21 : decode cX8_share 21 = .ok (.ireturn, 1) := by decide +kernel
theorem dX8_share_22 : decode cX8_share 22 = .ok (.aload_n 0, 1) := by decide +kernel
theorem dX8_share_23 : decode cX8_share 23 = .ok (.getfield 59, 3) := by decide +kernel
theorem dX8_share_26 : decode cX8_share 26 = .ok (.iconst (-1), 1) := by decide +kernel
theorem dX8_share_27 : decode cX8_share 27 = .ok (.invokevirtual 257, 3) := by decide +kernel
theorem dX8_share_30 : decode cX8_share 30 = .ok (.lconst 0, 1) := by decide +kernel
theorem dX8_share_31 : decode cX8_share 31 = .ok (.lstore_n 3, 1) := by decide +kernel
theorem dX8_share_32 : decode cX8_share 32 = .ok (.iconst 0, 1) := by decide +kernel
theorem dX8_share_33 : decode cX8_share 33 = .ok (.istore 5, 2) := by decide +kernel
theorem dX8_share_35 : decode cX8_share 35 = .ok (.iload 5, 2) := by decide +kernel
theorem dX8_share_37 : decode cX8_share 37 = .ok (.aload_n 0, 1) := by decide +kernel
theorem dX8_share_38 : decode cX8_share 38 = .ok (.getfield 32, 3) := by decide +kernel
theorem dX8_share_41 : decode cX8_share 41 = .ok (.invokevirtual 243, 3) := by decide +kernel
theorem dX8_share_44 : decode cX8_share 44 = .ok (.if_icmp .gt 74, 3) := by decide +kernel
theorem dX8_share_47 : decode cX8_share 47 = .ok (.iload 5, 2) := by decide +kernel
theorem dX8_share_49 : decode cX8_share 49 = .ok (.iload_n 1, 1) := by decide +kernel
theorem dX8_share_50 : decode cX8_share 50 = .ok (.invokestatic 145, 3) := by decide +kernel
theorem dX8_share_53 : decode cX8_share 53 = .ok (.ifCond .ne 59, 3) := by decide +kernel
theorem dX8_share_56 : decode cX8_share 56 = .ok (.iload 5, 2) := by decide +kernel
theorem dX8_share_58 : decode cX8_share 58 = .ok (.invokestatic 252, 3) := by decide +kernel
theorem dX8_share_61 : decode cX8_share 61 = .ok (.istore 6, 2) := by decide +kernel
theorem dX8_share_63 : decode cX8_share 63 = .ok (.iload 6, 2) := by decide +kernel
theorem dX8_share_65 : decode cX8_share 65 = .ok (.invokestatic 267, 3) := by decide +kernel
theorem dX8_share_68 : decode cX8_share 68 = .ok (.i2l, 1) := by decide +kernel
theorem dX8_share_69 : decode cX8_share 69 = .ok (.aload_n 0, 1) := by decide +kernel
theorem dX8_share_70 : decode cX8_share 70 = .ok (.getfield 32, 3) := by decide +kernel
theorem dX8_share_73 : decode cX8_share 73 = .ok (.getfield 156, 3) := by decide +kernel
theorem dX8_share_76 : decode cX8_share 76 = .ok (.iconst 1, 1) := by decide +kernel
theorem dX8_share_77 : decode cX8_share 77 = .ok (.isub, 1) := by decide +kernel
theorem dX8_share_78 : decode cX8_share 78 = .ok (.iload 6, 2) := by decide +kernel
theorem dX8_share_80 : decode cX8_share 80 = .ok (.isub, 1) := by decide +kernel
theorem dX8_share_81 : decode cX8_share 81 = .ok (.invokestatic 267, 3) := by decide +kernel
theorem dX8_share_84 : decode cX8_share 84 = .ok (.i2l, 1) := by decide +kernel
theorem dX8_share_85 : decode cX8_share 85 = .ok (.lmul, 1) := by decide +kernel
theorem dX8_share_86 : decode cX8_share 86 = .ok (.lstore 7, 2) := by decide +kernel
theorem dX8_share_88 : decode cX8_share 88 = .ok (.lload_n 3, 1) := by decide +kernel
theorem dX8_share_89 : decode cX8_share 89 = .ok (.lload 7, 2) := by decide +kernel
theorem dX8_share_91 : decode cX8_share 91 = .ok (.aload_n 0, 1) := by decide +kernel
theorem dX8_share_92 : decode cX8_share 92 = .ok (.iload 5, 2) := by decide +kernel
theorem dX8_share_94 : decode cX8_share 94 = .ok (.iconst 1, 1) := by decide +kernel
theorem dX8_share_95 : decode cX8_share 95 = .ok (.iload_n 1, 1) := by decide +kernel
theorem dX8_share_96 : decode cX8_share 96 = .ok (.ishl, 1) := by decide +kernel
theorem dX8_share_97 : decode cX8_share 97 = .ok (.ior, 1) := by decide +kernel
theorem dX8_share_98 : decode cX8_share 98 = .ok (.invokevirtual 260, 3) := by decide +kernel
theorem dX8_share_101 : decode cX8_share 101 = .ok (.aload_n 0, 1) := by decide +kernel
theorem dX8_share_102 : decode cX8_share 102 = .ok (.iload 5, 2) := by decide +kernel
theorem dX8_share_104 : decode cX8_share 104 = .ok (.invokevirtual 260, 3) := by decide +kernel
theorem dX8_share_107 : decode cX8_share 107 = .ok (.isub, 1) := by decide +kernel
theorem dX8_share_108 : decode cX8_share 108 = .ok (.i2l, 1) := by decide +kernel
theorem dX8_share_109 : decode cX8_share 109 = .ok (.lmul, 1) := by decide +kernel
theorem dX8_share_110 : decode cX8_share 110 = .ok (.ladd, 1) := by decide +kernel
theorem dX8_share_111 : decode cX8_share 111 = .ok (.lstore_n 3, 1) := by decide +kernel
theorem dX8_share_112 : decode cX8_share 112 = .ok (.iinc 5 1, 3) := by decide +kernel
theorem dX8_share_115 : decode cX8_share 115 = .ok (.goto (-80), 3) := by decide +kernel
theorem dX8_share_118 : decode cX8_share 118 = .ok (.lload_n 3, 1) := by decide +kernel
theorem dX8_share_119 : decode cX8_share 119 = .ok (.aload_n 0, 1) := by decide +kernel
theorem dX8_share_120 : decode cX8_share 120 = .ok (.getfield 32, 3) := by decide +kernel
theorem dX8_share_123 : decode cX8_share 123 = .ok (.getfield 156, 3) := by decide +kernel
theorem dX8_share_126 : decode cX8_share 126 = .ok (.invokestatic 267, 3) := by decide +kernel
theorem dX8_share_129 : decode cX8_share 129 = .ok (.i2l, 1) := by decide +kernel
theorem dX8_share_130 : decode cX8_share 130 = .ok (.iload_n 2, 1) := by decide +kernel
theorem dX8_share_131 : decode cX8_share 131 = .ok (.invokestatic 270, 3) := by decide +kernel
theorem dX8_share_134 : decode cX8_share 134 = .ok (.l2i, 1) := by decide +kernel
theorem dX8_share_135 : decode cX8_share 135 = .ok (.ireturn, 1) := by decide +kernel
theorem dX8_sharp_0 : decode cX8_sharp 0 = .ok (.aload_n 0, 1) := by decide +kernel
theorem dX8_sharp_1 : decode cX8_sharp 1 = .ok (.getfield 32, 3) := by decide +kernel
theorem dX8_sharp_4 : decode cX8_sharp 4 = .ok (.invokevirtual 153, 3) := by decide +kernel
theorem dX8_sharp_7 : decode cX8_sharp 7 = .ok (.ifCond .eq 10, 3) := by decide +kernel
theorem dX8_sharp_10 : decode cX8_sharp 10 = .ok (.aload_n 0, 1) := by decide +kernel
theorem dX8_sharp_11 : decode cX8_sharp 11 = .ok (.invokevirtual 234, 3) := by decide +kernel
theorem dX8_sharp_14 : decode cX8_sharp 14 = .ok (.goto 5, 3) := by decide +kernel
theorem dX8_sharp_17 : decode cX8_sharp 17 = .ok (.bipush (-2), 2) := by decide +kernel
theorem dX8_sharp_19 : decode cX8_sharp 19 = .ok (.ireturn, 1) := by decide +kernel
theorem dX8_shutAtLast_0 : decode cX8_shutAtLast 0 = .ok (.aload_n 0, 1) := by decide +kernel
theorem dX8_shutAtLast_1 : decode cX8_shutAtLast 1 = .ok (.getfield 32, 3) := by decide +kernel
theorem dX8_shutAtLast_4 : decode cX8_shutAtLast 4 = .ok (.invokevirtual 243, 3) := by decide +kernel
theorem dX8_shutAtLast_7 : decode cX8_shutAtLast 7 = .ok (.aload_n 0, 1) := by decide +kernel
theorem dX8_shutAtLast_8 : decode cX8_shutAtLast 8 = .ok (.invokevirtual 189, 3) := by decide +kernel
theorem dX8_shutAtLast_11 : decode cX8_shutAtLast 11 = .ok (.aload_n 0, 1) := by decide +kernel
theorem dX8_shutAtLast_12 : decode cX8_shutAtLast 12 = .ok (.getfield 32, 3) := by decide +kernel
theorem dX8_shutAtLast_15 : decode cX8_shutAtLast 15 = .ok (.getfield 168, 3) := by decide +kernel
theorem dX8_shutAtLast_18 : decode cX8_shutAtLast 18 = .ok (.invokevirtual 199, 3) := by decide +kernel
theorem dX8_shutAtLast_21 : decode cX8_shutAtLast 21 = .ok (.iconst (-1), 1) := by decide +kernel
theorem dX8_shutAtLast_22 : decode cX8_shutAtLast 22 = .ok (.ixor, 1) := by decide +kernel
theorem dX8_shutAtLast_23 : decode cX8_shutAtLast 23 = .ok (.iand, 1) := by decide +kernel
theorem dX8_shutAtLast_24 : decode cX8_shutAtLast 24 = .ok (.ireturn, 1) := by decide +kernel
theorem dX8_slit_0 : decode cX8_slit 0 = .ok (.aload_n 0, 1) := by decide +kernel
theorem dX8_slit_1 : decode cX8_slit 1 = .ok (.getfield 32, 3) := by decide +kernel
theorem dX8_slit_4 : decode cX8_slit 4 = .ok (.invokevirtual 153, 3) := by decide +kernel
theorem dX8_slit_7 : decode cX8_slit 7 = .ok (.ifCond .ne 6, 3) := by decide +kernel
theorem dX8_slit_10 : decode cX8_slit 10 = .ok (.bipush (-2), 2) := by decide +kernel
theorem dX8_slit_12 : decode cX8_slit 12 = .ok (.ireturn, 1) := by decide +kernel
theorem dX8_slit_13 : decode cX8_slit 13 = .ok (.iconst (-1), 1) := by decide +kernel
theorem dX8_slit_14 : decode cX8_slit 14 = .ok (.istore_n 1, 1) := by decide +kernel
theorem dX8_slit_15 : decode cX8_slit 15 = .ok (.aload_n 0, 1) := by decide +kernel
theorem dX8_slit_16 : decode cX8_slit 16 = .ok (.invokevirtual 189, 3) := by decide +kernel
theorem dX8_slit_19 : decode cX8_slit 19 = .ok (.invokevirtual 217, 3) := by decide +kernel
theorem dX8_slit_22 : decode cX8_slit 22 = .ok (.istore_n 2, 1) := by decide +kernel
theorem dX8_slit_23 : decode cX8_slit 23 = .ok (.iconst 0, 1) := by decide +kernel
theorem dX8_slit_24 : decode cX8_slit 24 = .ok (.istore_n 3, 1) := by decide +kernel
theorem dX8_slit_25 : decode cX8_slit 25 = .ok (.iload_n 3, 1) := by decide +kernel
theorem dX8_slit_26 : decode cX8_slit 26 = .ok (.aload_n 0, 1) := by decide +kernel
theorem dX8_slit_27 : decode cX8_slit 27 = .ok (.getfield 32, 3) := by decide +kernel
theorem dX8_slit_30 : decode cX8_slit 30 = .ok (.getfield 176, 3) := by decide +kernel
theorem dX8_slit_33 : decode cX8_slit 33 = .ok (.if_icmp .ge 51, 3) := by decide +kernel
theorem dX8_slit_36 : decode cX8_slit 36 = .ok (.aload_n 0, 1) := by decide +kernel
theorem dX8_slit_37 : decode cX8_slit 37 = .ok (.getfield 59, 3) := by decide +kernel
theorem dX8_slit_40 : decode cX8_slit 40 = .ok (.iload_n 3, 1) := by decide +kernel
theorem dX8_slit_41 : decode cX8_slit 41 = .ok (.invokevirtual 257, 3) := by decide +kernel
theorem dX8_slit_44 : decode cX8_slit 44 = .ok (.aload_n 0, 1) := by decide +kernel
theorem dX8_slit_45 : decode cX8_slit 45 = .ok (.getfield 59, 3) := by decide +kernel
theorem dX8_slit_48 : decode cX8_slit 48 = .ok (.aload_n 0, 1) := by decide +kernel
theorem dX8_slit_49 : decode cX8_slit 49 = .ok (.getfield 32, 3) := by decide +kernel
theorem dX8_slit_52 : decode cX8_slit 52 = .ok (.invokevirtual 315, 3) := by decide +kernel
theorem dX8_slit_55 : decode cX8_slit 55 = .ok (.invokevirtual 329, 3) := by decide +kernel
theorem dX8_slit_58 : decode cX8_slit 58 = .ok (.aload_n 0, 1) := by decide +kernel
theorem dX8_slit_59 : decode cX8_slit 59 = .ok (.getfield 59, 3) := by decide +kernel
theorem dX8_slit_62 : decode cX8_slit 62 = .ok (.invokevirtual 217, 3) := by decide +kernel
theorem dX8_slit_65 : decode cX8_slit 65 = .ok (.istore 4, 2) := by decide +kernel
theorem dX8_slit_67 : decode cX8_slit 67 = .ok (.iload 4, 2) := by decide +kernel
theorem dX8_slit_69 : decode cX8_slit 69 = .ok (.iload_n 2, 1) := by decide +kernel
theorem dX8_slit_70 : decode cX8_slit 70 = .ok (.if_icmp .le 8, 3) := by decide +kernel
theorem dX8_slit_73 : decode cX8_slit 73 = .ok (.iload 4, 2) := by decide +kernel
theorem dX8_slit_75 : decode cX8_slit 75 = .ok (.istore_n 2, 1) := by decide +kernel
theorem dX8_slit_76 : decode cX8_slit 76 = .ok (.iload_n 3, 1) := by decide +kernel
theorem dX8_slit_77 : decode cX8_slit 77 = .ok (.istore_n 1, 1) := by decide +kernel
theorem dX8_slit_78 : decode cX8_slit 78 = .ok (.iinc 3 1, 3) := by decide +kernel
theorem dX8_slit_81 : decode cX8_slit 81 = .ok (.goto (-56), 3) := by decide +kernel
theorem dX8_slit_84 : decode cX8_slit 84 = .ok (.iload_n 1, 1) := by decide +kernel
theorem dX8_slit_85 : decode cX8_slit 85 = .ok (.ireturn, 1) := by decide +kernel
theorem dX8_stalest_0 : decode cX8_stalest 0 = .ok (.aload_n 0, 1) := by decide +kernel
theorem dX8_stalest_1 : decode cX8_stalest 1 = .ok (.getfield 32, 3) := by decide +kernel
theorem dX8_stalest_4 : decode cX8_stalest 4 = .ok (.iload_n 1, 1) := by decide +kernel
theorem dX8_stalest_5 : decode cX8_stalest 5 = .ok (.invokevirtual 196, 3) := by decide +kernel
theorem dX8_stalest_8 : decode cX8_stalest 8 = .ok (.ifCond .ne 6, 3) := by decide +kernel
theorem dX8_stalest_11 : decode cX8_stalest 11 = .ok (.bipush (-2), 2) := by decide +kernel
theorem dX8_stalest_13 : decode cX8_stalest 13 = .ok (.ireturn, 1) := by decide +kernel
theorem dX8_stalest_14 : decode cX8_stalest 14 = .ok (.aload_n 0, 1) := by decide +kernel
theorem dX8_stalest_15 : decode cX8_stalest 15 = .ok (.invokevirtual 189, 3) := by decide +kernel
theorem dX8_stalest_18 : decode cX8_stalest 18 = .ok (.iload_n 1, 1) := by decide +kernel
theorem dX8_stalest_19 : decode cX8_stalest 19 = .ok (.invokevirtual 199, 3) := by decide +kernel
theorem dX8_stalest_22 : decode cX8_stalest 22 = .ok (.istore_n 2, 1) := by decide +kernel
theorem dX8_stalest_23 : decode cX8_stalest 23 = .ok (.iconst (-1), 1) := by decide +kernel
theorem dX8_stalest_24 : decode cX8_stalest 24 = .ok (.istore_n 3, 1) := by decide +kernel
theorem dX8_stalest_25 : decode cX8_stalest 25 = .ok (.iconst (-1), 1) := by decide +kernel
theorem dX8_stalest_26 : decode cX8_stalest 26 = .ok (.istore 4, 2) := by decide +kernel
theorem dX8_stalest_28 : decode cX8_stalest 28 = .ok (.iconst 0, 1) := by decide +kernel
theorem dX8_stalest_29 : decode cX8_stalest 29 = .ok (.istore 5, 2) := by decide +kernel
theorem dX8_stalest_31 : decode cX8_stalest 31 = .ok (.iload 5, 2) := by decide +kernel
theorem dX8_stalest_33 : decode cX8_stalest 33 = .ok (.aload_n 0, 1) := by decide +kernel
theorem dX8_stalest_34 : decode cX8_stalest 34 = .ok (.getfield 32, 3) := by decide +kernel
theorem dX8_stalest_37 : decode cX8_stalest 37 = .ok (.getfield 156, 3) := by decide +kernel
theorem dX8_stalest_40 : decode cX8_stalest 40 = .ok (.if_icmp .ge 48, 3) := by decide +kernel
theorem dX8_stalest_43 : decode cX8_stalest 43 = .ok (.iload_n 2, 1) := by decide +kernel
theorem dX8_stalest_44 : decode cX8_stalest 44 = .ok (.iload 5, 2) := by decide +kernel
theorem dX8_stalest_46 : decode cX8_stalest 46 = .ok (.invokestatic 145, 3) := by decide +kernel
theorem dX8_stalest_49 : decode cX8_stalest 49 = .ok (.ifCond .eq 7, 3) := by decide +kernel
theorem dX8_stalest_52 : decode cX8_stalest 52 = .ok (.iconst (-1), 1) := by decide +kernel
theorem dX8_stalest_53 : decode cX8_stalest 53 = .ok (.goto 13, 3) := by decide +kernel
theorem dX8_stalest_56 : decode cX8_stalest 56 = .ok (.aload_n 0, 1) := by decide +kernel
theorem dX8_stalest_57 : decode cX8_stalest 57 = .ok (.invokevirtual 189, 3) := by decide +kernel
theorem dX8_stalest_60 : decode cX8_stalest 60 = .ok (.iload 5, 2) := by decide +kernel
theorem dX8_stalest_62 : decode cX8_stalest 62 = .ok (.iload_n 1, 1) := by decide +kernel
theorem dX8_stalest_63 : decode cX8_stalest 63 = .ok (.invokevirtual 193, 3) := by decide +kernel
theorem dX8_stalest_66 : decode cX8_stalest 66 = .ok (.istore 6, 2) := by decide +kernel
theorem dX8_stalest_68 : decode cX8_stalest 68 = .ok (.iload 6, 2) := by decide +kernel
theorem dX8_stalest_70 : decode cX8_stalest 70 = .ok (.iload 4, 2) := by decide +kernel
theorem dX8_stalest_72 : decode cX8_stalest 72 = .ok (.if_icmp .le 10, 3) := by decide +kernel
theorem dX8_stalest_75 : decode cX8_stalest 75 = .ok (.iload 6, 2) := by decide +kernel
theorem dX8_stalest_77 : decode cX8_stalest 77 = .ok (.istore 4, 2) := by decide +kernel
theorem dX8_stalest_79 : decode cX8_stalest 79 = .ok (.iload 5, 2) := by decide +kernel
theorem dX8_stalest_81 : decode cX8_stalest 81 = .ok (.istore_n 3, 1) := by decide +kernel
theorem dX8_stalest_82 : decode cX8_stalest 82 = .ok (.iinc 5 1, 3) := by decide +kernel
theorem dX8_stalest_85 : decode cX8_stalest 85 = .ok (.goto (-54), 3) := by decide +kernel
theorem dX8_stalest_88 : decode cX8_stalest 88 = .ok (.iload_n 3, 1) := by decide +kernel
theorem dX8_stalest_89 : decode cX8_stalest 89 = .ok (.ireturn, 1) := by decide +kernel
theorem dX8_stiff_0 : decode cX8_stiff 0 = .ok (.aload_n 0, 1) := by decide +kernel
theorem dX8_stiff_1 : decode cX8_stiff 1 = .ok (.iload_n 1, 1) := by decide +kernel
theorem dX8_stiff_2 : decode cX8_stiff 2 = .ok (.iload_n 2, 1) := by decide +kernel
theorem dX8_stiff_3 : decode cX8_stiff 3 = .ok (.invokevirtual 186, 3) := by decide +kernel
theorem dX8_stiff_6 : decode cX8_stiff 6 = .ok (.ifCond .eq 15, 3) := by decide +kernel
theorem dX8_stiff_9 : decode cX8_stiff 9 = .ok (.aload_n 0, 1) := by decide +kernel
theorem dX8_stiff_10 : decode cX8_stiff 10 = .ok (.invokevirtual 189, 3) := by decide +kernel
theorem dX8_stiff_13 : decode cX8_stiff 13 = .ok (.iload_n 1, 1) := by decide +kernel
theorem dX8_stiff_14 : decode cX8_stiff 14 = .ok (.iload_n 2, 1) := by decide +kernel
theorem dX8_stiff_15 : decode cX8_stiff 15 = .ok (.invokevirtual 193, 3) := by decide +kernel
theorem dX8_stiff_18 : decode cX8_stiff 18 = .ok (.goto 5, 3) := by decide +kernel
theorem dX8_stiff_21 : decode cX8_stiff 21 = .ok (.bipush (-2), 2) := by decide +kernel
theorem dX8_stiff_23 : decode cX8_stiff 23 = .ok (.ireturn, 1) := by decide +kernel
theorem dX8_stiffs_0 : decode cX8_stiffs 0 = .ok (.aload_n 0, 1) := by decide +kernel
theorem dX8_stiffs_1 : decode cX8_stiffs 1 = .ok (.iload_n 1, 1) := by decide +kernel
theorem dX8_stiffs_2 : decode cX8_stiffs 2 = .ok (.iload_n 2, 1) := by decide +kernel
theorem dX8_stiffs_3 : decode cX8_stiffs 3 = .ok (.invokevirtual 289, 3) := by decide +kernel
theorem dX8_stiffs_6 : decode cX8_stiffs 6 = .ok (.istore_n 3, 1) := by decide +kernel
theorem dX8_stiffs_7 : decode cX8_stiffs 7 = .ok (.iload_n 3, 1) := by decide +kernel
theorem dX8_stiffs_8 : decode cX8_stiffs 8 = .ok (.ifCond .ne 19, 3) := by decide +kernel
theorem dX8_stiffs_11 : decode cX8_stiffs 11 = .ok (.aload_n 0, 1) := by decide +kernel
theorem dX8_stiffs_12 : decode cX8_stiffs 12 = .ok (.getfield 83, 3) := by decide +kernel
theorem dX8_stiffs_15 : decode cX8_stiffs 15 = .ok (.iload_n 1, 1) := by decide +kernel
theorem dX8_stiffs_16 : decode cX8_stiffs 16 = .ok (.iload_n 2, 1) := by decide +kernel
theorem dX8_stiffs_17 : decode cX8_stiffs 17 = .ok (.aload_n 0, 1) := by decide +kernel
theorem dX8_stiffs_18 : decode cX8_stiffs 18 = .ok (.invokevirtual 189, 3) := by decide +kernel
theorem dX8_stiffs_21 : decode cX8_stiffs 21 = .ok (.invokevirtual 292, 3) := by decide +kernel
theorem dX8_stiffs_24 : decode cX8_stiffs 24 = .ok (.goto 4, 3) := by decide +kernel
theorem dX8_stiffs_27 : decode cX8_stiffs 27 = .ok (.iload_n 3, 1) := by decide +kernel
theorem dX8_stiffs_28 : decode cX8_stiffs 28 = .ok (.ireturn, 1) := by decide +kernel
theorem dX8_tale_0 : decode cX8_tale 0 = .ok (.aload_n 0, 1) := by decide +kernel
theorem dX8_tale_1 : decode cX8_tale 1 = .ok (.getfield 28, 3) := by decide +kernel
theorem dX8_tale_4 : decode cX8_tale 4 = .ok (.invokevirtual 109, 3) := by decide +kernel
theorem dX8_tale_7 : decode cX8_tale 7 = .ok (.ifCond .ne 6, 3) := by decide +kernel
theorem dX8_tale_10 : decode cX8_tale 10 = .ok (.bipush (-4), 2) := by decide +kernel
theorem dX8_tale_12 : decode cX8_tale 12 = .ok (.ireturn, 1) := by decide +kernel
theorem dX8_tale_13 : decode cX8_tale 13 = .ok (.aload_n 0, 1) := by decide +kernel
theorem dX8_tale_14 : decode cX8_tale 14 = .ok (.getfield 32, 3) := by decide +kernel
theorem dX8_tale_17 : decode cX8_tale 17 = .ok (.aload_n 0, 1) := by decide +kernel
theorem dX8_tale_18 : decode cX8_tale 18 = .ok (.getfield 19, 3) := by decide +kernel
theorem dX8_tale_21 : decode cX8_tale 21 = .ok (.invokevirtual 112, 3) := by decide +kernel
theorem dX8_tale_24 : decode cX8_tale 24 = .ok (.aload_n 0, 1) := by decide +kernel
theorem dX8_tale_25 : decode cX8_tale 25 = .ok (.getfield 10, 3) := by decide +kernel
theorem dX8_tale_28 : decode cX8_tale 28 = .ok (.iconst 0, 1) := by decide +kernel
theorem dX8_tale_29 : decode cX8_tale 29 = .ok (.putfield 106, 3) := by decide +kernel
theorem dX8_tale_32 : decode cX8_tale 32 = .ok (.aload_n 0, 1) := by decide +kernel
theorem dX8_tale_33 : decode cX8_tale 33 = .ok (.invokevirtual 115, 3) := by decide +kernel
theorem dX8_tale_36 : decode cX8_tale 36 = .ok (.aload_n 0, 1) := by decide +kernel
theorem dX8_tale_37 : decode cX8_tale 37 = .ok (.getfield 32, 3) := by decide +kernel
theorem dX8_tale_40 : decode cX8_tale 40 = .ok (.getfield 118, 3) := by decide +kernel
theorem dX8_tale_43 : decode cX8_tale 43 = .ok (.ireturn, 1) := by decide +kernel
