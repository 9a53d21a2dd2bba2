theorem dX8_uncle_0 : decode cX8_uncle 0 = .ok (.aload_n 0, 1) := by decide +kernel
theorem dX8_uncle_1 : decode cX8_uncle 1 = .ok (.getfield 32, 3) := by decide +kernel
theorem dX8_uncle_4 : decode cX8_uncle 4 = .ok (.getfield 156, 3) := by decide +kernel
theorem dX8_uncle_7 : decode cX8_uncle 7 = .ok (.ifCond .ne 7, 3) := by decide +kernel
theorem dX8_uncle_10 : decode cX8_uncle 10 = .ok (.sipush (-1000), 3) := by decide +kernel
theorem dX8_uncle_13 : decode cX8_uncle 13 = .ok (.ireturn, 1) := by decide +kernel
theorem dX8_uncle_14 : decode cX8_uncle 14 = .ok (.aload_n 0, 1) := by decide +kernel
theorem dX8_uncle_15 : decode cX8_uncle 15 = .ok (.getfield 59, 3) := by decide +kernel
theorem dX8_uncle_18 : decode cX8_uncle 18 = .ok (.iconst (-1), 1) := by decide +kernel
theorem dX8_uncle_19 : decode cX8_uncle 19 = .ok (.invokevirtual 257, 3) := by decide +kernel
theorem dX8_uncle_22 : decode cX8_uncle 22 = .ok (.aload_n 0, 1) := by decide +kernel
theorem dX8_uncle_23 : decode cX8_uncle 23 = .ok (.iconst 0, 1) := by decide +kernel
theorem dX8_uncle_24 : decode cX8_uncle 24 = .ok (.invokevirtual 332, 3) := by decide +kernel
theorem dX8_uncle_27 : decode cX8_uncle 27 = .ok (.istore_n 1, 1) := by decide +kernel
theorem dX8_uncle_28 : decode cX8_uncle 28 = .ok (.iconst 1, 1) := by decide +kernel
theorem dX8_uncle_29 : decode cX8_uncle 29 = .ok (.istore_n 2, 1) := by decide +kernel
theorem dX8_uncle_30 : decode cX8_uncle 30 = .ok (.iload_n 2, 1) := by decide +kernel
theorem dX8_uncle_31 : decode cX8_uncle 31 = .ok (.aload_n 0, 1) := by decide +kernel
theorem dX8_uncle_32 : decode cX8_uncle 32 = .ok (.getfield 32, 3) := by decide +kernel
theorem dX8_uncle_35 : decode cX8_uncle 35 = .ok (.getfield 156, 3) := by decide +kernel
theorem dX8_uncle_38 : decode cX8_uncle 38 = .ok (.if_icmp .ge 19, 3) := by decide +kernel
theorem dX8_uncle_41 : decode cX8_uncle 41 = .ok (.iload_n 1, 1) := by decide +kernel
theorem dX8_uncle_42 : decode cX8_uncle 42 = .ok (.aload_n 0, 1) := by decide +kernel
theorem dX8_uncle_43 : decode cX8_uncle 43 = .ok (.iload_n 2, 1) := by decide +kernel
theorem dX8_uncle_44 : decode cX8_uncle 44 = .ok (.invokevirtual 332, 3) := by decide +kernel
theorem dX8_uncle_47 : decode cX8_uncle 47 = .ok (.invokestatic 223, 3) := by decide +kernel
theorem dX8_uncle_50 : decode cX8_uncle 50 = .ok (.istore_n 1, 1) := by decide +kernel
theorem dX8_uncle_51 : decode cX8_uncle 51 = .ok (.iinc 2 1, 3) := by decide +kernel
theorem dX8_uncle_54 : decode cX8_uncle 54 = .ok (.goto (-24), 3) := by decide +kernel
theorem dX8_uncle_57 : decode cX8_uncle 57 = .ok (.iload_n 1, 1) := by decide +kernel
theorem dX8_uncle_58 : decode cX8_uncle 58 = .ok (.ireturn, 1) := by decide +kernel
theorem dX8_uncleWorth_0 : decode cX8_uncleWorth 0 = .ok (.aload_n 0, 1) := by decide +kernel
theorem dX8_uncleWorth_1 : decode cX8_uncleWorth 1 = .ok (.iload_n 1, 1) := by decide +kernel
theorem dX8_uncleWorth_2 : decode cX8_uncleWorth 2 = .ok (.invokevirtual 335, 3) := by decide +kernel
theorem dX8_uncleWorth_5 : decode cX8_uncleWorth 5 = .ok (.istore_n 2, 1) := by decide +kernel
theorem dX8_uncleWorth_6 : decode cX8_uncleWorth 6 = .ok (.aload_n 0, 1) := by decide +kernel
theorem dX8_uncleWorth_7 : decode cX8_uncleWorth 7 = .ok (.getfield 59, 3) := by decide +kernel
theorem dX8_uncleWorth_10 : decode cX8_uncleWorth 10 = .ok (.iconst 1, 1) := by decide +kernel
theorem dX8_uncleWorth_11 : decode cX8_uncleWorth 11 = .ok (.iload_n 1, 1) := by decide +kernel
theorem dX8_uncleWorth_12 : decode cX8_uncleWorth 12 = .ok (.ishl, 1) := by decide +kernel
theorem dX8_uncleWorth_13 : decode cX8_uncleWorth 13 = .ok (.iload_n 2, 1) := by decide +kernel
theorem dX8_uncleWorth_14 : decode cX8_uncleWorth 14 = .ok (.iconst (-1), 1) := by decide +kernel
theorem dX8_uncleWorth_15 : decode cX8_uncleWorth 15 = .ok (.if_icmp .ne 7, 3) := by decide +kernel
theorem dX8_uncleWorth_18 : decode cX8_uncleWorth 18 = .ok (.iconst 0, 1) := by decide +kernel
theorem dX8_uncleWorth_19 : decode cX8_uncleWorth 19 = .ok (.goto 6, 3) := by decide +kernel
theorem dX8_uncleWorth_22 : decode cX8_uncleWorth 22 = .ok (.iconst 1, 1) := by decide +kernel
theorem dX8_uncleWorth_23 : decode cX8_uncleWorth 23 = .ok (.iload_n 2, 1) := by decide +kernel
theorem dX8_uncleWorth_24 : decode cX8_uncleWorth 24 = .ok (.ishl, 1) := by decide +kernel
theorem dX8_uncleWorth_25 : decode cX8_uncleWorth 25 = .ok (.invokevirtual 431, 3) := by decide +kernel
theorem dX8_uncleWorth_28 : decode cX8_uncleWorth 28 = .ok (.aload_n 0, 1) := by decide +kernel
theorem dX8_uncleWorth_29 : decode cX8_uncleWorth 29 = .ok (.getfield 59, 3) := by decide +kernel
theorem dX8_uncleWorth_32 : decode cX8_uncleWorth 32 = .ok (.iconst 0, 1) := by decide +kernel
theorem dX8_uncleWorth_33 : decode cX8_uncleWorth 33 = .ok (.invokevirtual 214, 3) := by decide +kernel
theorem dX8_uncleWorth_36 : decode cX8_uncleWorth 36 = .ok (.aload_n 0, 1) := by decide +kernel
theorem dX8_uncleWorth_37 : decode cX8_uncleWorth 37 = .ok (.getfield 59, 3) := by decide +kernel
theorem dX8_uncleWorth_40 : decode cX8_uncleWorth 40 = .ok (.iconst 1, 1) := by decide +kernel
theorem dX8_uncleWorth_41 : decode cX8_uncleWorth 41 = .ok (.invokevirtual 214, 3) := by decide +kernel
theorem dX8_uncleWorth_44 : decode cX8_uncleWorth 44 = .ok (.isub, 1) := by decide +kernel
theorem dX8_uncleWorth_45 : decode cX8_uncleWorth 45 = .ok (.ireturn, 1) := by decide +kernel
theorem dX8_uncut_0 : decode cX8_uncut 0 = .ok (.aload_n 0, 1) := by decide +kernel
theorem dX8_uncut_1 : decode cX8_uncut 1 = .ok (.getfield 32, 3) := by decide +kernel
theorem dX8_uncut_4 : decode cX8_uncut 4 = .ok (.invokevirtual 153, 3) := by decide +kernel
theorem dX8_uncut_7 : decode cX8_uncut 7 = .ok (.ifCond .eq 10, 3) := by decide +kernel
theorem dX8_uncut_10 : decode cX8_uncut 10 = .ok (.aload_n 0, 1) := by decide +kernel
theorem dX8_uncut_11 : decode cX8_uncut 11 = .ok (.invokevirtual 240, 3) := by decide +kernel
theorem dX8_uncut_14 : decode cX8_uncut 14 = .ok (.goto 5, 3) := by decide +kernel
theorem dX8_uncut_17 : decode cX8_uncut 17 = .ok (.bipush (-2), 2) := by decide +kernel
theorem dX8_uncut_19 : decode cX8_uncut 19 = .ok (.ireturn, 1) := by decide +kernel
theorem dX8_undo_0 : decode cX8_undo 0 = .ok (.aload_n 0, 1) := by decide +kernel
theorem dX8_undo_1 : decode cX8_undo 1 = .ok (.getfield 32, 3) := by decide +kernel
theorem dX8_undo_4 : decode cX8_undo 4 = .ok (.invokevirtual 153, 3) := by decide +kernel
theorem dX8_undo_7 : decode cX8_undo 7 = .ok (.ifCond .ne 6, 3) := by decide +kernel
theorem dX8_undo_10 : decode cX8_undo 10 = .ok (.bipush (-2), 2) := by decide +kernel
theorem dX8_undo_12 : decode cX8_undo 12 = .ok (.ireturn, 1) := by decide +kernel
theorem dX8_undo_13 : decode cX8_undo 13 = .ok (.aload_n 0, 1) := by decide +kernel
theorem dX8_undo_14 : decode cX8_undo 14 = .ok (.getfield 32, 3) := by decide +kernel
theorem dX8_undo_17 : decode cX8_undo 17 = .ok (.getfield 179, 3) := by decide +kernel
theorem dX8_undo_20 : decode cX8_undo 20 = .ok (.ifCond .ne 6, 3) := by decide +kernel
theorem dX8_undo_23 : decode cX8_undo 23 = .ok (.bipush (-5), 2) := by decide +kernel
theorem dX8_undo_25 : decode cX8_undo 25 = .ok (.ireturn, 1) := by decide +kernel
theorem dX8_undo_26 : decode cX8_undo 26 = .ok (.aload_n 0, 1) := by decide +kernel
theorem dX8_undo_27 : decode cX8_undo 27 = .ok (.getfield 32, 3) := by decide +kernel
theorem dX8_undo_30 : decode cX8_undo 30 = .ok (.dup, 1) := by decide +kernel
theorem dX8_undo_31 : decode cX8_undo 31 = .ok (.getfield 179, 3) := by decide +kernel
theorem dX8_undo_34 : decode cX8_undo 34 = .ok (.iconst 1, 1) := by decide +kernel
theorem dX8_undo_35 : decode cX8_undo 35 = .ok (.isub, 1) := by decide +kernel
theorem dX8_undo_36 : decode cX8_undo 36 = .ok (.putfield 179, 3) := by decide +kernel
theorem dX8_undo_39 : decode cX8_undo 39 = .ok (.aload_n 0, 1) := by decide +kernel
theorem dX8_undo_40 : decode cX8_undo 40 = .ok (.invokevirtual 115, 3) := by decide +kernel
theorem dX8_undo_43 : decode cX8_undo 43 = .ok (.aload_n 0, 1) := by decide +kernel
theorem dX8_undo_44 : decode cX8_undo 44 = .ok (.getfield 32, 3) := by decide +kernel
theorem dX8_undo_47 : decode cX8_undo 47 = .ok (.getfield 179, 3) := by decide +kernel
theorem dX8_undo_50 : decode cX8_undo 50 = .ok (.ireturn, 1) := by decide +kernel
theorem dX8_waits_0 : decode cX8_waits 0 = .ok (.aload_n 0, 1) := by decide +kernel
theorem dX8_waits_1 : decode cX8_waits 1 = .ok (.getfield 32, 3) := by decide +kernel
theorem dX8_waits_4 : decode cX8_waits 4 = .ok (.iload_n 1, 1) := by decide +kernel
theorem dX8_waits_5 : decode cX8_waits 5 = .ok (.invokevirtual 196, 3) := by decide +kernel
theorem dX8_waits_8 : decode cX8_waits 8 = .ok (.ifCond .ne 6, 3) := by decide +kernel
theorem dX8_waits_11 : decode cX8_waits 11 = .ok (.bipush (-2), 2) := by decide +kernel
theorem dX8_waits_13 : decode cX8_waits 13 = .ok (.ireturn, 1) := by decide +kernel
theorem dX8_waits_14 : decode cX8_waits 14 = .ok (.iconst 0, 1) := by decide +kernel
theorem dX8_waits_15 : decode cX8_waits 15 = .ok (.istore_n 2, 1) := by decide +kernel
theorem dX8_waits_16 : decode cX8_waits 16 = .ok (.iconst 0, 1) := by decide +kernel
theorem dX8_waits_17 : decode cX8_waits 17 = .ok (.istore_n 3, 1) := by decide +kernel
theorem dX8_waits_18 : decode cX8_waits 18 = .ok (.iload_n 3, 1) := by decide +kernel
theorem dX8_waits_19 : decode cX8_waits 19 = .ok (.aload_n 0, 1) := by decide +kernel
theorem dX8_waits_20 : decode cX8_waits 20 = .ok (.getfield 32, 3) := by decide +kernel
theorem dX8_waits_23 : decode cX8_waits 23 = .ok (.getfield 156, 3) := by decide +kernel
theorem dX8_waits_26 : decode cX8_waits 26 = .ok (.if_icmp .ge 25, 3) := by decide +kernel
theorem dX8_waits_29 : decode cX8_waits 29 = .ok (.iload_n 2, 1) := by decide +kernel
theorem dX8_waits_30 : decode cX8_waits 30 = .ok (.iconst 0, 1) := by decide +kernel
theorem dX8_waits_31 : decode cX8_waits 31 = .ok (.aload_n 0, 1) := by decide +kernel
theorem dX8_waits_32 : decode cX8_waits 32 = .ok (.invokevirtual 189, 3) := by decide +kernel
theorem dX8_waits_35 : decode cX8_waits 35 = .ok (.iload_n 3, 1) := by decide +kernel
theorem dX8_waits_36 : decode cX8_waits 36 = .ok (.iload_n 1, 1) := by decide +kernel
theorem dX8_waits_37 : decode cX8_waits 37 = .ok (.invokevirtual 220, 3) := by decide +kernel
theorem dX8_waits_40 : decode cX8_waits 40 = .ok (.invokestatic 223, 3) := by decide +kernel
theorem dX8_waits_43 : decode cX8_waits 43 = .ok (.iadd, 1) := by decide +kernel
theorem dX8_waits_44 : decode cX8_waits 44 = .ok (.istore_n 2, 1) := by decide +kernel
theorem dX8_waits_45 : decode cX8_waits 45 = .ok (.iinc 3 1, 3) := by decide +kernel
theorem dX8_waits_48 : decode cX8_waits 48 = .ok (.goto (-30), 3) := by decide +kernel
theorem dX8_waits_51 : decode cX8_waits 51 = .ok (.iload_n 2, 1) := by decide +kernel
theorem dX8_waits_52 : decode cX8_waits 52 = .ok (.ireturn, 1) := by decide +kernel
theorem dX8_weighOdds_0 : decode cX8_weighOdds 0 = .ok (.aload_n 0, 1) := by decide +kernel
theorem dX8_weighOdds_1 : decode cX8_weighOdds 1 = .ok (.getfield 91, 3) := by decide +kernel
theorem dX8_weighOdds_4 : decode cX8_weighOdds 4 = .ok (.ifCond .eq 15, 3) := by decide +kernel
theorem dX8_weighOdds_7 : decode cX8_weighOdds 7 = .ok (.aload_n 0, 1) := by decide +kernel
theorem dX8_weighOdds_8 : decode cX8_weighOdds 8 = .ok (.getfield 74, 3) := by decide +kernel
theorem dX8_weighOdds_11 : decode cX8_weighOdds 11 = .ok (.invokevirtual 444, 3) := by decide +kernel
theorem dX8_weighOdds_14 : decode cX8_weighOdds 14 = .ok (.aload_n 0, 1) := by decide +kernel
theorem dX8_weighOdds_15 : decode cX8_weighOdds 15 = .ok (.iconst 0, 1) := by decide +kernel
theorem dX8_weighOdds_16 : decode cX8_weighOdds 16 = .ok (.putfield 91, 3) := by decide +kernel
theorem dX8_weighOdds_19 : decode cX8_weighOdds 19 = .ok (.return_, 1) := by decide +kernel
theorem dX8_when_0 : decode cX8_when 0 = .ok (.aload_n 0, 1) := by decide +kernel
theorem dX8_when_1 : decode cX8_when 1 = .ok (.getfield 32, 3) := by decide +kernel
theorem dX8_when_4 : decode cX8_when 4 = .ok (.iload_n 1, 1) := by decide +kernel
theorem dX8_when_5 : decode cX8_when 5 = .ok (.invokevirtual 127, 3) := by decide +kernel
theorem dX8_when_8 : decode cX8_when 8 = .ok (.ifCond .eq 14, 3) := by decide +kernel
theorem dX8_when_11 : decode cX8_when 11 = .ok (.aload_n 0, 1) := by decide +kernel
theorem dX8_when_12 : decode cX8_when 12 = .ok (.invokevirtual 189, 3) := by decide +kernel
theorem dX8_when_15 : decode cX8_when 15 = .ok (.iload_n 1, 1) := by decide +kernel
theorem dX8_when_16 : decode cX8_when 16 = .ok (.invokevirtual 202, 3) := by decide +kernel
theorem dX8_when_19 : decode cX8_when 19 = .ok (.goto 5, 3) := by decide +kernel
theorem dX8_when_22 : decode cX8_when 22 = .ok (.bipush (-2), 2) := by decide +kernel
theorem dX8_when_24 : decode cX8_when 24 = .ok (.ireturn, 1) := by decide +kernel
theorem dX8_with_0 : decode cX8_with 0 = .ok (.aload_n 0, 1) := by decide +kernel
theorem dX8_with_1 : decode cX8_with 1 = .ok (.getfield 32, 3) := by decide +kernel
theorem dX8_with_4 : decode cX8_with 4 = .ok (.iload_n 1, 1) := by decide +kernel
theorem dX8_with_5 : decode cX8_with 5 = .ok (.invokevirtual 127, 3) := by decide +kernel
theorem dX8_with_8 : decode cX8_with 8 = .ok (.ifCond .ne 6, 3) := by decide +kernel
theorem dX8_with_11 : decode cX8_with 11 = .ok (.bipush (-2), 2) := by decide +kernel
theorem dX8_with_13 : decode cX8_with 13 = .ok (.ireturn, 1) := by decide +kernel
theorem dX8_with_14 : decode cX8_with 14 = .ok (.aload_n 0, 1) := by decide +kernel
theorem dX8_with_15 : decode cX8_with 15 = .ok (.invokevirtual 189, 3) := by decide +kernel
theorem dX8_with_18 : decode cX8_with 18 = .ok (.astore_n 2, 1) := by decide +kernel
theorem dX8_with_19 : decode cX8_with 19 = .ok (.aload_n 2, 1) := by decide +kernel
theorem dX8_with_20 : decode cX8_with 20 = .ok (.iload_n 1, 1) := by decide +kernel
theorem dX8_with_21 : decode cX8_with 21 = .ok (.invokevirtual 202, 3) := by decide +kernel
theorem dX8_with_24 : decode cX8_with 24 = .ok (.istore_n 3, 1) := by decide +kernel
theorem dX8_with_25 : decode cX8_with 25 = .ok (.iload_n 3, 1) := by decide +kernel
theorem dX8_with_26 : decode cX8_with 26 = .ok (.iconst (-1), 1) := by decide +kernel
theorem dX8_with_27 : decode cX8_with 27 = .ok (.if_icmp .ne 5, 3) := by decide +kernel
theorem dX8_with_30 : decode cX8_with 30 = .ok (.iconst 0, 1) := by decide +kernel
theorem dX8_with_31 : decode cX8_with 31 = .ok (.ireturn, 1) := by decide +kernel
theorem dX8_with_32 : decode cX8_with 32 = .ok (.aload_n 2, 1) := by decide +kernel
theorem dX8_with_33 : decode cX8_with 33 = .ok (.getfield 205, 3) := by decide +kernel
theorem dX8_with_36 : decode cX8_with 36 = .ok (.aload_n 2, 1) := by decide +kernel
theorem dX8_with_37 : decode cX8_with 37 = .ok (.iload_n 3, 1) := by decide +kernel
theorem dX8_with_38 : decode cX8_with 38 = .ok (.iconst 1, 1) := by decide +kernel
theorem dX8_with_39 : decode cX8_with 39 = .ok (.iadd, 1) := by decide +kernel
theorem dX8_with_40 : decode cX8_with 40 = .ok (.invokevirtual 199, 3) := by decide +kernel
theorem dX8_with_43 : decode cX8_with 43 = .ok (.iand, 1) := by decide +kernel
theorem dX8_with_44 : decode cX8_with 44 = .ok (.aload_n 2, 1) := by decide +kernel
theorem dX8_with_45 : decode cX8_with 45 = .ok (.iload_n 3, 1) := by decide +kernel
theorem dX8_with_46 : decode cX8_with 46 = .ok (.invokevirtual 199, 3) := by decide +kernel
theorem dX8_with_49 : decode cX8_with 49 = .ok (.iconst (-1), 1) := by decide +kernel
theorem dX8_with_50 : decode cX8_with 50 = .ok (.ixor, 1) := by decide +kernel
theorem dX8_with_51 : decode cX8_with 51 = .ok (.iand, 1) := by decide +kernel
theorem dX8_with_52 : decode cX8_with 52 = .ok (.ireturn, 1) := by decide +kernel
theorem dX8_worth_0 : decode cX8_worth 0 = .ok (.aload_n 0, 1) := by decide +kernel
theorem dX8_worth_1 : decode cX8_worth 1 = .ok (.getfield 32, 3) := by decide +kernel
theorem dX8_worth_4 : decode cX8_worth 4 = .ok (.invokevirtual 153, 3) := by decide +kernel
theorem dX8_worth_7 : decode cX8_worth 7 = .ok (.ifCond .eq 18, 3) := by decide +kernel
theorem dX8_worth_10 : decode cX8_worth 10 = .ok (.iload_n 1, 1) := by decide +kernel
theorem dX8_worth_11 : decode cX8_worth 11 = .ok (.ifCond .lt 14, 3) := by decide +kernel
theorem dX8_worth_14 : decode cX8_worth 14 = .ok (.iload_n 1, 1) := by decide +kernel
theorem dX8_worth_15 : decode cX8_worth 15 = .ok (.aload_n 0, 1) := by decide +kernel
theorem dX8_worth_16 : decode cX8_worth 16 = .ok (.getfield 32, 3) := by decide +kernel
theorem dX8_worth_19 : decode cX8_worth 19 = .ok (.invokevirtual 243, 3) := by decide +kernel
theorem dX8_worth_22 : decode cX8_worth 22 = .ok (.if_icmp .le 6, 3) := by decide +kernel
theorem dX8_worth_25 : decode cX8_worth 25 = .ok (.bipush (-2), 2) := by decide +kernel
theorem dX8_worth_27 : decode cX8_worth 27 = .ok (.ireturn, 1) := by decide +kernel
theorem dX8_worth_28 : decode cX8_worth 28 = .ok (.aload_n 0, 1) := by decide +kernel
theorem dX8_worth_29 : decode cX8_worth 29 = .ok (.getfield 59, 3) := by decide +kernel
theorem dX8_worth_32 : decode cX8_worth 32 = .ok (.iconst (-1), 1) := by decide +kernel
theorem dX8_worth_33 : decode cX8_worth 33 = .ok (.invokevirtual 257, 3) := by decide +kernel
theorem dX8_worth_36 : decode cX8_worth 36 = .ok (.aload_n 0, 1) := by decide +kernel
theorem dX8_worth_37 : decode cX8_worth 37 = .ok (.iload_n 1, 1) := by decide +kernel
theorem dX8_worth_38 : decode cX8_worth 38 = .ok (.invokevirtual 260, 3) := by decide +kernel
theorem dX8_worth_41 : decode cX8_worth 41 = .ok (.ireturn, 1) := by decide +kernel
theorem dX8_write_0 : decode cX8_write 0 = .ok (.aload_n 0, 1) := by decide +kernel
theorem dX8_write_1 : decode cX8_write 1 = .ok (.getfield 46, 3) := by decide +kernel
theorem dX8_write_4 : decode cX8_write 4 = .ok (.iload_n 1, 1) := by decide +kernel
theorem dX8_write_5 : decode cX8_write 5 = .ok (.invokevirtual 378, 3) := by decide +kernel
theorem dX8_write_8 : decode cX8_write 8 = .ok (.ifCond .ne 6, 3) := by decide +kernel
theorem dX8_write_11 : decode cX8_write 11 = .ok (.bipush (-2), 2) := by decide +kernel
theorem dX8_write_13 : decode cX8_write 13 = .ok (.ireturn, 1) := by decide +kernel
theorem dX8_write_14 : decode cX8_write 14 = .ok (.aload_n 0, 1) := by decide +kernel
theorem dX8_write_15 : decode cX8_write 15 = .ok (.getfield 46, 3) := by decide +kernel
theorem dX8_write_18 : decode cX8_write 18 = .ok (.iload_n 1, 1) := by decide +kernel
theorem dX8_write_19 : decode cX8_write 19 = .ok (.invokevirtual 384, 3) := by decide +kernel
theorem dX8_write_22 : decode cX8_write 22 = .ok (.ifCond .eq 6, 3) := by decide +kernel
theorem dX8_write_25 : decode cX8_write 25 = .ok (.bipush (-6), 2) := by decide +kernel
theorem dX8_write_27 : decode cX8_write 27 = .ok (.ireturn, 1) := by decide +kernel
theorem dX8_write_28 : decode cX8_write 28 = .ok (.aload_n 0, 1) := by decide +kernel
theorem dX8_write_29 : decode cX8_write 29 = .ok (.getfield 46, 3) := by decide +kernel
theorem dX8_write_32 : decode cX8_write 32 = .ok (.iload_n 1, 1) := by decide +kernel
theorem dX8_write_33 : decode cX8_write 33 = .ok (.iload_n 2, 1) := by decide +kernel
theorem dX8_write_34 : decode cX8_write 34 = .ok (.iconst 1, 1) := by decide +kernel
theorem dX8_write_35 : decode cX8_write 35 = .ok (.invokevirtual 387, 3) := by decide +kernel
theorem dX8_write_38 : decode cX8_write 38 = .ok (.ifCond .ne 6, 3) := by decide +kernel
theorem dX8_write_41 : decode cX8_write 41 = .ok (.bipush (-7), 2) := by decide +kernel
theorem dX8_write_43 : decode cX8_write 43 = .ok (.ireturn, 1) := by decide +kernel
theorem dX8_write_44 : decode cX8_write 44 = .ok (.aload_n 0, 1) := by decide +kernel
theorem dX8_write_45 : decode cX8_write 45 = .ok (.getfield 46, 3) := by decide +kernel
theorem dX8_write_48 : decode cX8_write 48 = .ok (.iload_n 1, 1) := by decide +kernel
theorem dX8_write_49 : decode cX8_write 49 = .ok (.iload_n 2, 1) := by decide +kernel
theorem dX8_write_50 : decode cX8_write 50 = .ok (.lload_n 3, 1) := by decide +kernel
theorem dX8_write_51 : decode cX8_write 51 = .ok (.invokevirtual 391, 3) := by decide +kernel
theorem dX8_write_54 : decode cX8_write 54 = .ok (.iconst 0, 1) := by decide +kernel
theorem dX8_write_55 : decode cX8_write 55 = .ok (.ireturn, 1) := by decide +kernel
theorem dX9_ages_0 : decode cX9_ages 0 = .ok (.aload_n 0, 1) := by decide +kernel
theorem dX9_ages_1 : decode cX9_ages 1 = .ok (.iconst 0, 1) := by decide +kernel
theorem dX9_ages_2 : decode cX9_ages 2 = .ok (.putfield 83, 3) := by decide +kernel
theorem dX9_ages_5 : decode cX9_ages 5 = .ok (.aload_n 0, 1) := by decide +kernel
theorem dX9_ages_6 : decode cX9_ages 6 = .ok (.iload_n 1, 1) := by decide +kernel
theorem dX9_ages_7 : decode cX9_ages 7 = .ok (.i2l, 1) := by decide +kernel
theorem dX9_ages_8 : decode cX9_ages 8 = .ok (.invokevirtual 254, 3) := by decide +kernel
theorem dX9_ages_11 : decode cX9_ages 11 = .ok (.ifCond .ne 6, 3) := by decide +kernel
theorem dX9_ages_14 : decode cX9_ages 14 = .ok (.bipush (-100), 2) := by decide +kernel
theorem dX9_ages_16 : decode cX9_ages 16 = .ok (.ireturn, 1) := by decide +kernel
theorem dX9_ages_17 : decode cX9_ages 17 = .ok (.aload_n 0, 1) := by decide +kernel
theorem dX9_ages_18 : decode cX9_ages 18 = .ok (.invokevirtual 330, 3) := by decide +kernel
theorem dX9_ages_21 : decode cX9_ages 21 = .ok (.aload_n 0, 1) := by decide +kernel
theorem dX9_ages_22 : decode cX9_ages 22 = .ok (.iload_n 1, 1) := by decide +kernel
theorem dX9_ages_23 : decode cX9_ages 23 = .ok (.aload_n 0, 1) := by decide +kernel
theorem dX9_ages_24 : decode cX9_ages 24 = .ok (.invokevirtual 251, 3) := by decide +kernel
theorem dX9_ages_27 : decode cX9_ages 27 = .ok (.invokevirtual 301, 3) := by decide +kernel
theorem dX9_ages_30 : decode cX9_ages 30 = .ok (.aload_n 0, 1) := by decide +kernel
theorem dX9_ages_31 : decode cX9_ages 31 = .ok (.iload_n 1, 1) := by decide +kernel
theorem dX9_ages_32 : decode cX9_ages 32 = .ok (.iconst 0, 1) := by decide +kernel
theorem dX9_ages_33 : decode cX9_ages 33 = .ok (.invokevirtual 301, 3) := by decide +kernel
theorem dX9_ages_36 : decode cX9_ages 36 = .ok (.isub, 1) := by decide +kernel
theorem dX9_ages_37 : decode cX9_ages 37 = .ok (.ireturn, 1) := by decide +kernel
theorem dX9_air_0 : decode cX9_air 0 = .ok (.aload_n 0, 1) := by decide +kernel
theorem dX9_air_1 : decode cX9_air 1 = .ok (.iconst 0, 1) := by decide +kernel
theorem dX9_air_2 : decode cX9_air 2 = .ok (.putfield 83, 3) := by decide +kernel
theorem dX9_air_5 : decode cX9_air 5 = .ok (.aload_n 0, 1) := by decide +kernel
theorem dX9_air_6 : decode cX9_air 6 = .ok (.iload_n 1, 1) := by decide +kernel
theorem dX9_air_7 : decode cX9_air 7 = .ok (.i2l, 1) := by decide +kernel
theorem dX9_air_8 : decode cX9_air 8 = .ok (.invokevirtual 254, 3) := by decide +kernel
theorem dX9_air_11 : decode cX9_air 11 = .ok (.ifCond .eq 11, 3) := by decide +kernel
theorem dX9_air_14 : decode cX9_air 14 = .ok (.aload_n 0, 1) := by decide +kernel
theorem dX9_air_15 : decode cX9_air 15 = .ok (.iload_n 2, 1) := by decide +kernel
theorem dX9_air_16 : decode cX9_air 16 = .ok (.invokevirtual 333, 3) := by decide +kernel
theorem dX9_air_19 : decode cX9_air 19 = .ok (.ifCond .ne 6, 3) := by decide +kernel
theorem dX9_air_22 : decode cX9_air 22 = .ok (.bipush (-2), 2) := by decide +kernel
theorem dX9_air_24 : decode cX9_air 24 = .ok (.ireturn, 1) := by decide +kernel
theorem dX9_air_25 : decode cX9_air 25 = .ok (.aload_n 0, 1) := by decide +kernel
theorem dX9_air_26 : decode cX9_air 26 = .ok (.getfield 34, 3) := by decide +kernel
theorem dX9_air_29 : decode cX9_air 29 = .ok (.bipush 6, 2) := by decide +kernel
theorem dX9_air_31 : decode cX9_air 31 = .ok (.iaload, 1) := by decide +kernel
theorem dX9_air_32 : decode cX9_air 32 = .ok (.bipush 20, 2) := by decide +kernel
theorem dX9_air_34 : decode cX9_air 34 = .ok (.if_icmp .ne 6, 3) := by decide +kernel
theorem dX9_air_37 : decode cX9_air 37 = .ok (.bipush (-5), 2) := by decide +kernel
theorem dX9_air_39 : decode cX9_air 39 = .ok (.ireturn, 1) := by decide +kernel
theorem dX9_air_40 : decode cX9_air 40 = .ok (.aload_n 0, 1) := by decide +kernel
theorem dX9_air_41 : decode cX9_air 41 = .ok (.iconst 1, 1) := by decide +kernel
theorem dX9_air_42 : decode cX9_air 42 = .ok (.iload_n 1, 1) := by decide +kernel
theorem dX9_air_43 : decode cX9_air 43 = .ok (.iload_n 2, 1) := by decide +kernel
theorem dX9_air_44 : decode cX9_air 44 = .ok (.invokevirtual 475, 3) := by decide +kernel
theorem dX9_air_47 : decode cX9_air 47 = .ok (.aload_n 0, 1) := by decide +kernel
theorem dX9_air_48 : decode cX9_air 48 = .ok (.invokevirtual 330, 3) := by decide +kernel
theorem dX9_air_51 : decode cX9_air 51 = .ok (.aload_n 0, 1) := by decide +kernel
theorem dX9_air_52 : decode cX9_air 52 = .ok (.iload_n 1, 1) := by decide +kernel
theorem dX9_air_53 : decode cX9_air 53 = .ok (.aload_n 0, 1) := by decide +kernel
theorem dX9_air_54 : decode cX9_air 54 = .ok (.invokevirtual 251, 3) := by decide +kernel
theorem dX9_air_57 : decode cX9_air 57 = .ok (.invokevirtual 301, 3) := by decide +kernel
theorem dX9_air_60 : decode cX9_air 60 = .ok (.ireturn, 1) := by decide +kernel
theorem dX9_airs_0 : decode cX9_airs 0 = .ok (.iconst 0, 1) := by decide +kernel
theorem dX9_airs_1 : decode cX9_airs 1 = .ok (.istore_n 2, 1) := by decide +kernel
theorem dX9_airs_2 : decode cX9_airs 2 = .ok (.iload_n 2, 1) := by decide +kernel
theorem dX9_airs_3 : decode cX9_airs 3 = .ok (.aload_n 0, 1) := by decide +kernel
theorem dX9_airs_4 : decode cX9_airs 4 = .ok (.getfield 34, 3) := by decide +kernel
theorem dX9_airs_7 : decode cX9_airs 7 = .ok (.bipush 6, 2) := by decide +kernel
theorem dX9_airs_9 : decode cX9_airs 9 = .ok (.iaload, 1) := by decide +kernel
theorem dX9_airs_10 : decode cX9_airs 10 = .ok (.if_icmp .ge 92, 3) := by decide +kernel
theorem dX9_airs_13 : decode cX9_airs 13 = .ok (.aload_n 0, 1) := by decide +kernel
theorem dX9_airs_14 : decode cX9_airs 14 = .ok (.getfield 46, 3) := by decide +kernel
theorem dX9_airs_17 : decode cX9_airs 17 = .ok (.iconst 3, 1) := by decide +kernel
theorem dX9_airs_18 : decode cX9_airs 18 = .ok (.iload_n 2, 1) := by decide +kernel
theorem dX9_airs_19 : decode cX9_airs 19 = .ok (.imul, 1) := by decide +kernel
theorem dX9_airs_20 : decode cX9_airs 20 = .ok (.iconst 1, 1) := by decide +kernel
theorem dX9_airs_21 : decode cX9_airs 21 = .ok (.iadd, 1) := by decide +kernel
theorem dX9_airs_22 : decode cX9_airs 22 = .ok (.iaload, 1) := by decide +kernel
theorem dX9_airs_23 : decode cX9_airs 23 = .ok (.istore_n 3, 1) := by decide +kernel
theorem dX9_airs_24 : decode cX9_airs 24 = .ok (.aload_n 0, 1) := by decide +kernel
theorem dX9_airs_25 : decode cX9_airs 25 = .ok (.getfield 46, 3) := by decide +kernel
theorem dX9_airs_28 : decode cX9_airs 28 = .ok (.iconst 3, 1) := by decide +kernel
theorem dX9_airs_29 : decode cX9_airs 29 = .ok (.iload_n 2, 1) := by decide +kernel
theorem dX9_airs_30 : decode cX9_airs 30 = .ok (.imul, 1) := by decide +kernel
theorem dX9_airs_31 : decode cX9_airs 31 = .ok (.iaload, 1) := by decide +kernel
theorem dX9_airs_32 : decode cX9_airs 32 = .ok (.iconst 1, 1) := by decide +kernel
theorem dX9_airs_33 : decode cX9_airs 33 = .ok (.if_icmp .ne 63, 3) := by decide +kernel
theorem dX9_airs_36 : decode cX9_airs 36 = .ok (.aload_n 0, 1) := by decide +kernel
theorem dX9_airs_37 : decode cX9_airs 37 = .ok (.getfield 46, 3) := by decide +kernel
theorem dX9_airs_40 : decode cX9_airs 40 = .ok (.iconst 3, 1) := by decide +kernel
theorem dX9_airs_41 : decode cX9_airs 41 = .ok (.iload_n 2, 1) := by decide +kernel
theorem dX9_airs_42 : decode cX9_airs 42 = .ok (.imul, 1) := by decide +kernel
theorem dX9_airs_43 : decode cX9_airs 43 = .ok (.iconst 2, 1) := by decide +kernel
theorem dX9_airs_44 : decode cX9_airs 44 = .ok (.iadd, 1) := by decide +kernel
theorem dX9_airs_45 : decode cX9_airs 45 = .ok (.iaload, 1) := by decide +kernel
theorem dX9_airs_46 : decode cX9_airs 46 = .ok (.iload_n 1, 1) := by decide +kernel
theorem dX9_airs_47 : decode cX9_airs 47 = .ok (.if_icmp .ne 49, 3) := by decide +kernel
theorem dX9_airs_50 : decode cX9_airs 50 = .ok (.aload_n 0, 1) := by decide +kernel
theorem dX9_airs_51 : decode cX9_airs 51 = .ok (.getfield 276, 3) := by decide +kernel
theorem dX9_airs_54 : decode cX9_airs 54 = .ok (.iload_n 3, 1) := by decide +kernel
theorem dX9_airs_55 : decode cX9_airs 55 = .ok (.invokestatic 282, 3) := by decide +kernel
theorem dX9_airs_58 : decode cX9_airs 58 = .ok (.ifCond .ne 38, 3) := by decide +kernel
theorem dX9_airs_61 : decode cX9_airs 61 = .ok (.aload_n 0, 1) := by decide +kernel
theorem dX9_airs_62 : decode cX9_airs 62 = .ok (.getfield 59, 3) := by decide +kernel
theorem dX9_airs_65 : decode cX9_airs 65 = .ok (.bipush 6, 2) := by decide +kernel
theorem dX9_airs_67 : decode cX9_airs 67 = .ok (.iload_n 1, 1) := by decide +kernel
theorem dX9_airs_68 : decode cX9_airs 68 = .ok (.imul, 1) := by decide +kernel
theorem dX9_airs_69 : decode cX9_airs 69 = .ok (.bipush 6, 2) := by decide +kernel
theorem dX9_airs_71 : decode cX9_airs 71 = .ok (.iadd, 1) := by decide +kernel
theorem dX9_airs_72 : decode cX9_airs 72 = .ok (.iload_n 3, 1) := by decide +kernel
theorem dX9_airs_73 : decode cX9_airs 73 = .ok (.iadd, 1) := by decide +kernel
theorem dX9_airs_74 : decode cX9_airs 74 = .ok (.iconst 0, 1) := by decide +kernel
theorem dX9_airs_75 : decode cX9_airs 75 = .ok (.aload_n 0, 1) := by decide +kernel
theorem dX9_airs_76 : decode cX9_airs 76 = .ok (.getfield 59, 3) := by decide +kernel
theorem dX9_airs_79 : decode cX9_airs 79 = .ok (.bipush 6, 2) := by decide +kernel
theorem dX9_airs_81 : decode cX9_airs 81 = .ok (.iload_n 1, 1) := by decide +kernel
theorem dX9_airs_82 : decode cX9_airs 82 = .ok (.imul, 1) := by decide +kernel
theorem dX9_airs_83 : decode cX9_airs 83 = .ok (.bipush 6, 2) := by decide +kernel
theorem dX9_airs_85 : decode cX9_airs 85 = .ok (.iadd, 1) := by decide +kernel
theorem dX9_airs_86 : decode cX9_airs 86 = .ok (.iload_n 3, 1) := by decide +kernel
theorem dX9_airs_87 : decode cX9_airs 87 = .ok (.iadd, 1) := by decide +kernel
theorem dX9_airs_88 : decode cX9_airs 88 = .ok (.iaload, 1) := by decide +kernel
theorem dX9_airs_89 : decode cX9_airs 89 = .ok (.bipush 10, 2) := by decide +kernel
theorem dX9_airs_91 : decode cX9_airs 91 = .ok (.isub, 1) := by decide +kernel
theorem dX9_airs_92 : decode cX9_airs 92 = .ok (.invokestatic 279, 3) := by decide +kernel
theorem dX9_airs_95 : decode cX9_airs 95 = .ok (.iastore, 1) := by decide +kernel
theorem dX9_airs_96 : decode cX9_airs 96 = .ok (.iinc 2 1, 3) := by decide +kernel
theorem dX9_airs_99 : decode cX9_airs 99 = .ok (.goto (-97), 3) := by decide +kernel
theorem dX9_airs_102 : decode cX9_airs 102 = .ok (.return_, 1) := by decide +kernel
theorem dX9_all_0 : decode cX9_all 0 = .ok (.aload_n 0, 1) := by decide +kernel
theorem dX9_all_1 : decode cX9_all 1 = .ok (.iconst 0, 1) := by decide +kernel
theorem dX9_all_2 : decode cX9_all 2 = .ok (.putfield 83, 3) := by decide +kernel
theorem dX9_all_5 : decode cX9_all 5 = .ok (.aload_n 0, 1) := by decide +kernel
theorem dX9_all_6 : decode cX9_all 6 = .ok (.invokevirtual 248, 3) := by decide +kernel
theorem dX9_all_9 : decode cX9_all 9 = .ok (.ifCond .ne 6, 3) := by decide +kernel
theorem dX9_all_12 : decode cX9_all 12 = .ok (.bipush (-2), 2) := by decide +kernel
theorem dX9_all_14 : decode cX9_all 14 = .ok (.ireturn, 1) := by decide +kernel
theorem dX9_all_15 : decode cX9_all 15 = .ok (.aload_n 0, 1) := by decide +kernel
theorem dX9_all_16 : decode cX9_all 16 = .ok (.invokevirtual 330, 3) := by decide +kernel
theorem dX9_all_19 : decode cX9_all 19 = .ok (.aload_n 0, 1) := by decide +kernel
theorem dX9_all_20 : decode cX9_all 20 = .ok (.invokevirtual 339, 3) := by decide +kernel
theorem dX9_all_23 : decode cX9_all 23 = .ok (.ireturn, 1) := by decide +kernel
theorem dX9_allBy_0 : decode cX9_allBy 0 = .ok (.aload_n 0, 1) := by decide +kernel
theorem dX9_allBy_1 : decode cX9_allBy 1 = .ok (.invokevirtual 319, 3) := by decide +kernel
theorem dX9_allBy_4 : decode cX9_allBy 4 = .ok (.aload_n 0, 1) := by decide +kernel
theorem dX9_allBy_5 : decode cX9_allBy 5 = .ok (.iload_n 1, 1) := by decide +kernel
theorem dX9_allBy_6 : decode cX9_allBy 6 = .ok (.putfield 260, 3) := by decide +kernel
theorem dX9_allBy_9 : decode cX9_allBy 9 = .ok (.aload_n 0, 1) := by decide +kernel
theorem dX9_allBy_10 : decode cX9_allBy 10 = .ok (.invokevirtual 322, 3) := by decide +kernel
theorem dX9_allBy_13 : decode cX9_allBy 13 = .ok (.aload_n 0, 1) := by decide +kernel
theorem dX9_allBy_14 : decode cX9_allBy 14 = .ok (.invokevirtual 339, 3) := by decide +kernel
theorem dX9_allBy_17 : decode cX9_allBy 17 = .ok (.ireturn, 1) := by decide +kernel
theorem dX9_anew_0 : decode cX9_anew 0 = .ok (.aload_n 0, 1) := by decide +kernel
theorem dX9_anew_1 : decode cX9_anew 1 = .ok (.iconst 0, 1) := by decide +kernel
theorem dX9_anew_2 : decode cX9_anew 2 = .ok (.putfield 83, 3) := by decide +kernel
theorem dX9_anew_5 : decode cX9_anew 5 = .ok (.aload_n 0, 1) := by decide +kernel
theorem dX9_anew_6 : decode cX9_anew 6 = .ok (.invokevirtual 248, 3) := by decide +kernel
theorem dX9_anew_9 : decode cX9_anew 9 = .ok (.ifCond .ne 6, 3) := by decide +kernel
theorem dX9_anew_12 : decode cX9_anew 12 = .ok (.bipush (-2), 2) := by decide +kernel
theorem dX9_anew_14 : decode cX9_anew 14 = .ok (.ireturn, 1) := by decide +kernel
theorem dX9_anew_15 : decode cX9_anew 15 = .ok (.aload_n 0, 1) := by decide +kernel
theorem dX9_anew_16 : decode cX9_anew 16 = .ok (.getfield 34, 3) := by decide +kernel
theorem dX9_anew_19 : decode cX9_anew 19 = .ok (.bipush 6, 2) := by decide +kernel
theorem dX9_anew_21 : decode cX9_anew 21 = .ok (.iaload, 1) := by decide +kernel
theorem dX9_anew_22 : decode cX9_anew 22 = .ok (.istore_n 1, 1) := by decide +kernel
theorem dX9_anew_23 : decode cX9_anew 23 = .ok (.aload_n 0, 1) := by decide +kernel
theorem dX9_anew_24 : decode cX9_anew 24 = .ok (.getfield 34, 3) := by decide +kernel
theorem dX9_anew_27 : decode cX9_anew 27 = .ok (.bipush 6, 2) := by decide +kernel
theorem dX9_anew_29 : decode cX9_anew 29 = .ok (.iconst 0, 1) := by decide +kernel
theorem dX9_anew_30 : decode cX9_anew 30 = .ok (.iastore, 1) := by decide +kernel
theorem dX9_anew_31 : decode cX9_anew 31 = .ok (.iload_n 1, 1) := by decide +kernel
theorem dX9_anew_32 : decode cX9_anew 32 = .ok (.ireturn, 1) := by decide +kernel
theorem dX9_areJoined_0 : decode cX9_areJoined 0 = .ok (.iconst 0, 1) := by decide +kernel
theorem dX9_areJoined_1 : decode cX9_areJoined 1 = .ok (.istore_n 3, 1) := by decide +kernel
theorem dX9_areJoined_2 : decode cX9_areJoined 2 = .ok (.iload_n 3, 1) := by decide +kernel
theorem dX9_areJoined_3 : decode cX9_areJoined 3 = .ok (.aload_n 0, 1) := by decide +kernel
theorem dX9_areJoined_4 : decode cX9_areJoined 4 = .ok (.iconst 4, 1) := by decide +kernel
theorem dX9_areJoined_5 : decode cX9_areJoined 5 = .ok (.invokevirtual 165, 3) := by decide +kernel
theorem dX9_areJoined_8 : decode cX9_areJoined 8 = .ok (.if_icmp .ge 63, 3) := by decide +kernel
theorem dX9_areJoined_11 : decode cX9_areJoined 11 = .ok (.aload_n 0, 1) := by decide +kernel
theorem dX9_areJoined_12 : decode cX9_areJoined 12 = .ok (.getfield 40, 3) := by decide +kernel
theorem dX9_areJoined_15 : decode cX9_areJoined 15 = .ok (.iconst 2, 1) := by decide +kernel
theorem dX9_areJoined_16 : decode cX9_areJoined 16 = .ok (.bipush 40, 2) := by decide +kernel
theorem dX9_areJoined_18 : decode cX9_areJoined 18 = .ok (.iload_n 3, 1) := by decide +kernel
theorem dX9_areJoined_19 : decode cX9_areJoined 19 = .ok (.iadd, 1) := by decide +kernel
theorem dX9_areJoined_20 : decode cX9_areJoined 20 = .ok (.imul, 1) := by decide +kernel
theorem dX9_areJoined_21 : decode cX9_areJoined 21 = .ok (.iaload, 1) := by decide +kernel
theorem dX9_areJoined_22 : decode cX9_areJoined 22 = .ok (.istore 4, 2) := by decide +kernel
theorem dX9_areJoined_24 : decode cX9_areJoined 24 = .ok (.aload_n 0, 1) := by decide +kernel
theorem dX9_areJoined_25 : decode cX9_areJoined 25 = .ok (.getfield 40, 3) := by decide +kernel
theorem dX9_areJoined_28 : decode cX9_areJoined 28 = .ok (.iconst 2, 1) := by decide +kernel
theorem dX9_areJoined_29 : decode cX9_areJoined 29 = .ok (.bipush 40, 2) := by decide +kernel
theorem dX9_areJoined_31 : decode cX9_areJoined 31 = .ok (.iload_n 3, 1) := by decide +kernel
theorem dX9_areJoined_32 : decode cX9_areJoined 32 = .ok (.iadd, 1) := by decide +kernel
theorem dX9_areJoined_33 : decode cX9_areJoined 33 = .ok (.imul, 1) := by decide +kernel
theorem dX9_areJoined_34 : decode cX9_areJoined 34 = .ok (.iconst 1, 1) := by decide +kernel
theorem dX9_areJoined_35 : decode cX9_areJoined 35 = .ok (.iadd, 1) := by decide +kernel
theorem dX9_areJoined_36 : decode cX9_areJoined 36 = .ok (.iaload, 1) := by decide +kernel
theorem dX9_areJoined_37 : decode cX9_areJoined 37 = .ok (.istore 5, 2) := by decide +kernel
theorem dX9_areJoined_39 : decode cX9_areJoined 39 = .ok (.iload 4, 2) := by decide +kernel
theorem dX9_areJoined_41 : decode cX9_areJoined 41 = .ok (.iload_n 1, 1) := by decide +kernel
theorem dX9_areJoined_42 : decode cX9_areJoined 42 = .ok (.if_icmp .ne 9, 3) := by decide +kernel
theorem dX9_areJoined_45 : decode cX9_areJoined 45 = .ok (.iload 5, 2) := by decide +kernel
theorem dX9_areJoined_47 : decode cX9_areJoined 47 = .ok (.iload_n 2, 1) := by decide +kernel
theorem dX9_areJoined_48 : decode cX9_areJoined 48 = .ok (.if_icmp .eq 15, 3) := by decide +kernel
theorem dX9_areJoined_51 : decode cX9_areJoined 51 = .ok (.iload 4, 2) := by decide +kernel
theorem dX9_areJoined_53 : decode cX9_areJoined 53 = .ok (.iload_n 2, 1) := by decide +kernel
theorem dX9_areJoined_54 : decode cX9_areJoined 54 = .ok (.if_icmp .ne 11, 3) := by decide +kernel
theorem dX9_areJoined_57 : decode cX9_areJoined 57 = .ok (.iload 5, 2) := by decide +kernel
theorem dX9_areJoined_59 : decode cX9_areJoined 59 = .ok (.iload_n 1, 1) := by decide +kernel
theorem dX9_areJoined_60 : decode cX9_areJoined 60 = .ok (.if_icmp .ne 5, 3) := by decide +kernel
theorem dX9_areJoined_63 : decode cX9_areJoined 63 = .ok (.iconst 1, 1) := by decide +kernel
theorem dX9_areJoined_64 : decode cX9_areJoined 64 = .ok (.ireturn, 1) := by decide +kernel
theorem dX9_areJoined_65 : decode cX9_areJoined 65 = .ok (.iinc 3 1, 3) := by decide +kernel
theorem dX9_areJoined_68 : decode cX9_areJoined 68 = .ok (.goto (-66), 3) := by decide +kernel
theorem dX9_areJoined_71 : decode cX9_areJoined 71 = .ok (.iconst 0, 1) := by decide +kernel
theorem dX9_areJoined_72 : decode cX9_areJoined 72 = .ok (.ireturn, 1) := by decide +kernel
theorem dX9_areTwo_0 : decode cX9_areTwo 0 = .ok (.aload_n 0, 1) := by decide +kernel
theorem dX9_areTwo_1 : decode cX9_areTwo 1 = .ok (.iload_n 1, 1) := by decide +kernel
theorem dX9_areTwo_2 : decode cX9_areTwo 2 = .ok (.i2l, 1) := by decide +kernel
theorem dX9_areTwo_3 : decode cX9_areTwo 3 = .ok (.invokevirtual 254, 3) := by decide +kernel
theorem dX9_areTwo_6 : decode cX9_areTwo 6 = .ok (.ifCond .eq 21, 3) := by decide +kernel
theorem dX9_areTwo_9 : decode cX9_areTwo 9 = .ok (.aload_n 0, 1) := by decide +kernel
theorem dX9_areTwo_10 : decode cX9_areTwo 10 = .ok (.iload_n 2, 1) := by decide +kernel
theorem dX9_areTwo_11 : decode cX9_areTwo 11 = .ok (.i2l, 1) := by decide +kernel
theorem dX9_areTwo_12 : decode cX9_areTwo 12 = .ok (.invokevirtual 254, 3) := by decide +kernel
theorem dX9_areTwo_15 : decode cX9_areTwo 15 = .ok (.ifCond .eq 12, 3) := by decide +kernel
theorem dX9_areTwo_18 : decode cX9_areTwo 18 = .ok (.iload_n 1, 1) := by decide +kernel
theorem dX9_areTwo_19 : decode cX9_areTwo 19 = .ok (.iload_n 2, 1) := by decide +kernel
theorem dX9_areTwo_20 : decode cX9_areTwo 20 = .ok (.if_icmp .eq 7, 3) := by decide +kernel
theorem dX9_areTwo_23 : decode cX9_areTwo 23 = .ok (.iconst 1, 1) := by decide +kernel
theorem dX9_areTwo_24 : decode cX9_areTwo 24 = .ok (.goto 4, 3) := by decide +kernel
theorem dX9_areTwo_27 : decode cX9_areTwo 27 = .ok (.iconst 0, 1) := by decide +kernel
theorem dX9_areTwo_28 : decode cX9_areTwo 28 = .ok (.ireturn, 1) := by decide +kernel
theorem dX9_ask_0 : decode cX9_ask 0 = .ok (.aload_n 0, 1) := by decide +kernel
theorem dX9_ask_1 : decode cX9_ask 1 = .ok (.iconst 0, 1) := by decide +kernel
theorem dX9_ask_2 : decode cX9_ask 2 = .ok (.putfield 83, 3) := by decide +kernel
theorem dX9_ask_5 : decode cX9_ask 5 = .ok (.aload_n 0, 1) := by decide +kernel
theorem dX9_ask_6 : decode cX9_ask 6 = .ok (.iload_n 1, 1) := by decide +kernel
theorem dX9_ask_7 : decode cX9_ask 7 = .ok (.aload_n 0, 1) := by decide +kernel
theorem dX9_ask_8 : decode cX9_ask 8 = .ok (.iload_n 2, 1) := by decide +kernel
theorem dX9_ask_9 : decode cX9_ask 9 = .ok (.i2l, 1) := by decide +kernel
theorem dX9_ask_10 : decode cX9_ask 10 = .ok (.invokevirtual 254, 3) := by decide +kernel
theorem dX9_ask_13 : decode cX9_ask 13 = .ok (.invokevirtual 410, 3) := by decide +kernel
theorem dX9_ask_16 : decode cX9_ask 16 = .ok (.istore_n 3, 1) := by decide +kernel
theorem dX9_ask_17 : decode cX9_ask 17 = .ok (.iload_n 3, 1) := by decide +kernel
theorem dX9_ask_18 : decode cX9_ask 18 = .ok (.ifCond .eq 5, 3) := by decide +kernel
theorem dX9_ask_21 : decode cX9_ask 21 = .ok (.iload_n 3, 1) := by decide +kernel
theorem dX9_ask_22 : decode cX9_ask 22 = .ok (.ireturn, 1) := by decide +kernel
theorem dX9_ask_23 : decode cX9_ask 23 = .ok (.aload_n 0, 1) := by decide +kernel
theorem dX9_ask_24 : decode cX9_ask 24 = .ok (.iload_n 1, 1) := by decide +kernel
theorem dX9_ask_25 : decode cX9_ask 25 = .ok (.iload_n 2, 1) := by decide +kernel
theorem dX9_ask_26 : decode cX9_ask 26 = .ok (.invokevirtual 414, 3) := by decide +kernel
theorem dX9_ask_29 : decode cX9_ask 29 = .ok (.aload_n 0, 1) := by decide +kernel
theorem dX9_ask_30 : decode cX9_ask 30 = .ok (.getfield 404, 3) := by decide +kernel
theorem dX9_ask_33 : decode cX9_ask 33 = .ok (.ireturn, 1) := by decide +kernel
theorem dX9_asks_0 : decode cX9_asks 0 = .ok (.aload_n 0, 1) := by decide +kernel
theorem dX9_asks_1 : decode cX9_asks 1 = .ok (.lload_n 1, 1) := by decide +kernel
theorem dX9_asks_2 : decode cX9_asks 2 = .ok (.invokevirtual 148, 3) := by decide +kernel
theorem dX9_asks_5 : decode cX9_asks 5 = .ok (.ifCond .ne 8, 3) := by decide +kernel
theorem dX9_asks_8 : decode cX9_asks 8 = .ok (.aload_n 0, 1) := by decide +kernel
theorem dX9_asks_9 : decode cX9_asks 9 = .ok (.iconst 1, 1) := by decide +kernel
theorem dX9_asks_10 : decode cX9_asks 10 = .ok (.invokevirtual 151, 3) := by decide +kernel
theorem dX9_asks_13 : decode cX9_asks 13 = .ok (.return_, 1) := by decide +kernel
theorem dX9_back_0 : decode cX9_back 0 = .ok (.aload_n 0, 1) := by decide +kernel
theorem dX9_back_1 : decode cX9_back 1 = .ok (.iconst 0, 1) := by decide +kernel
theorem dX9_back_2 : decode cX9_back 2 = .ok (.putfield 83, 3) := by decide +kernel
theorem dX9_back_5 : decode cX9_back 5 = .ok (.iload_n 1, 1) := by decide +kernel
theorem dX9_back_6 : decode cX9_back 6 = .ok (.i2l, 1) := by decide +kernel
theorem dX9_back_7 : decode cX9_back 7 = .ok (.lconst 0, 1) := by decide +kernel
theorem dX9_back_8 : decode cX9_back 8 = .ok (.ldc2_w 325, 3) := by decide +kernel
theorem dX9_back_11 : decode cX9_back 11 = .ok (.invokestatic 88, 3) := by decide +kernel
theorem dX9_back_14 : decode cX9_back 14 = .ok (.ifCond .ne 6, 3) := by decide +kernel
theorem dX9_back_17 : decode cX9_back 17 = .ok (.bipush (-2), 2) := by decide +kernel
theorem dX9_back_19 : decode cX9_back 19 = .ok (.ireturn, 1) := by decide +kernel
theorem dX9_back_20 : decode cX9_back 20 = .ok (.aload_n 0, 1) := by decide +kernel
theorem dX9_back_21 : decode cX9_back 21 = .ok (.getfield 49, 3) := by decide +kernel
theorem dX9_back_24 : decode cX9_back 24 = .ok (.iload_n 1, 1) := by decide +kernel
theorem dX9_back_25 : decode cX9_back 25 = .ok (.baload, 1) := by decide +kernel
theorem dX9_back_26 : decode cX9_back 26 = .ok (.ifCond .ne 6, 3) := by decide +kernel
theorem dX9_back_29 : decode cX9_back 29 = .ok (.bipush (-6), 2) := by decide +kernel
theorem dX9_back_31 : decode cX9_back 31 = .ok (.ireturn, 1) := by decide +kernel
theorem dX9_back_32 : decode cX9_back 32 = .ok (.aload_n 0, 1) := by decide +kernel
theorem dX9_back_33 : decode cX9_back 33 = .ok (.iconst 1, 1) := by decide +kernel
theorem dX9_back_34 : decode cX9_back 34 = .ok (.iload_n 1, 1) := by decide +kernel
theorem dX9_back_35 : decode cX9_back 35 = .ok (.iadd, 1) := by decide +kernel
theorem dX9_back_36 : decode cX9_back 36 = .ok (.iconst 0, 1) := by decide +kernel
theorem dX9_back_37 : decode cX9_back 37 = .ok (.invokevirtual 238, 3) := by decide +kernel
theorem dX9_back_40 : decode cX9_back 40 = .ok (.iconst 0, 1) := by decide +kernel
theorem dX9_back_41 : decode cX9_back 41 = .ok (.ireturn, 1) := by decide +kernel
theorem dX9_begins_0 : decode cX9_begins 0 = .ok (.aload_n 0, 1) := by decide +kernel
theorem dX9_begins_1 : decode cX9_begins 1 = .ok (.iconst 0, 1) := by decide +kernel
theorem dX9_begins_2 : decode cX9_begins 2 = .ok (.putfield 135, 3) := by decide +kernel
theorem dX9_begins_5 : decode cX9_begins 5 = .ok (.aload_n 0, 1) := by decide +kernel
theorem dX9_begins_6 : decode cX9_begins 6 = .ok (.iconst (-1), 1) := by decide +kernel
theorem dX9_begins_7 : decode cX9_begins 7 = .ok (.putfield 138, 3) := by decide +kernel
theorem dX9_begins_10 : decode cX9_begins 10 = .ok (.aload_n 0, 1) := by decide +kernel
theorem dX9_begins_11 : decode cX9_begins 11 = .ok (.iconst 0, 1) := by decide +kernel
theorem dX9_begins_12 : decode cX9_begins 12 = .ok (.putfield 107, 3) := by decide +kernel
theorem dX9_begins_15 : decode cX9_begins 15 = .ok (.aload_n 0, 1) := by decide +kernel
theorem dX9_begins_16 : decode cX9_begins 16 = .ok (.invokevirtual 145, 3) := by decide +kernel
theorem dX9_begins_19 : decode cX9_begins 19 = .ok (.return_, 1) := by decide +kernel
theorem dX9_best_0 : decode cX9_best 0 = .ok (.aload_n 0, 1) := by decide +kernel
theorem dX9_best_1 : decode cX9_best 1 = .ok (.iconst 0, 1) := by decide +kernel
theorem dX9_best_2 : decode cX9_best 2 = .ok (.putfield 83, 3) := by decide +kernel
theorem dX9_best_5 : decode cX9_best 5 = .ok (.aload_n 0, 1) := by decide +kernel
theorem dX9_best_6 : decode cX9_best 6 = .ok (.iload_n 1, 1) := by decide +kernel
theorem dX9_best_7 : decode cX9_best 7 = .ok (.i2l, 1) := by decide +kernel
theorem dX9_best_8 : decode cX9_best 8 = .ok (.invokevirtual 254, 3) := by decide +kernel
theorem dX9_best_11 : decode cX9_best 11 = .ok (.ifCond .ne 6, 3) := by decide +kernel
theorem dX9_best_14 : decode cX9_best 14 = .ok (.bipush (-2), 2) := by decide +kernel
theorem dX9_best_16 : decode cX9_best 16 = .ok (.ireturn, 1) := by decide +kernel
theorem dX9_best_17 : decode cX9_best 17 = .ok (.aload_n 0, 1) := by decide +kernel
theorem dX9_best_18 : decode cX9_best 18 = .ok (.invokevirtual 330, 3) := by decide +kernel
theorem dX9_best_21 : decode cX9_best 21 = .ok (.iconst 0, 1) := by decide +kernel
theorem dX9_best_22 : decode cX9_best 22 = .ok (.istore_n 2, 1) := by decide +kernel
theorem dX9_best_23 : decode cX9_best 23 = .ok (.iconst 0, 1) := by decide +kernel
theorem dX9_best_24 : decode cX9_best 24 = .ok (.istore_n 3, 1) := by decide +kernel
theorem dX9_best_25 : decode cX9_best 25 = .ok (.iload_n 3, 1) := by decide +kernel
theorem dX9_best_26 : decode cX9_best 26 = .ok (.aload_n 0, 1) := by decide +kernel
theorem dX9_best_27 : decode cX9_best 27 = .ok (.invokevirtual 251, 3) := by decide +kernel
theorem dX9_best_30 : decode cX9_best 30 = .ok (.if_icmp .gt 20, 3) := by decide +kernel
theorem dX9_best_33 : decode cX9_best 33 = .ok (.iload_n 2, 1) := by decide +kernel
theorem dX9_best_34 : decode cX9_best 34 = .ok (.aload_n 0, 1) := by decide +kernel
theorem dX9_best_35 : decode cX9_best 35 = .ok (.iload_n 1, 1) := by decide +kernel
theorem dX9_best_36 : decode cX9_best 36 = .ok (.iload_n 3, 1) := by decide +kernel
theorem dX9_best_37 : decode cX9_best 37 = .ok (.invokevirtual 342, 3) := by decide +kernel
theorem dX9_best_40 : decode cX9_best 40 = .ok (.invokestatic 279, 3) := by decide +kernel
theorem dX9_best_43 : decode cX9_best 43 = .ok (.istore_n 2, 1) := by decide +kernel
theorem dX9_best_44 : decode cX9_best 44 = .ok (.iinc 3 1, 3) := by decide +kernel
theorem dX9_best_47 : decode cX9_best 47 = .ok (.goto (-22), 3) := by decide +kernel
theorem dX9_best_50 : decode cX9_best 50 = .ok (.iload_n 2, 1) := by decide +kernel
theorem dX9_best_51 : decode cX9_best 51 = .ok (.ireturn, 1) := by decide +kernel
theorem dX9_blunt_0 : decode cX9_blunt 0 = .ok (.aload_n 0, 1) := by decide +kernel
theorem dX9_blunt_1 : decode cX9_blunt 1 = .ok (.iconst 0, 1) := by decide +kernel
theorem dX9_blunt_2 : decode cX9_blunt 2 = .ok (.putfield 83, 3) := by decide +kernel
theorem dX9_blunt_5 : decode cX9_blunt 5 = .ok (.aload_n 0, 1) := by decide +kernel
theorem dX9_blunt_6 : decode cX9_blunt 6 = .ok (.invokevirtual 248, 3) := by decide +kernel
theorem dX9_blunt_9 : decode cX9_blunt 9 = .ok (.ifCond .ne 6, 3) := by decide +kernel
theorem dX9_blunt_12 : decode cX9_blunt 12 = .ok (.bipush (-2), 2) := by decide +kernel
theorem dX9_blunt_14 : decode cX9_blunt 14 = .ok (.ireturn, 1) := by decide +kernel
theorem dX9_blunt_15 : decode cX9_blunt 15 = .ok (.aload_n 0, 1) := by decide +kernel
theorem dX9_blunt_16 : decode cX9_blunt 16 = .ok (.invokevirtual 330, 3) := by decide +kernel
theorem dX9_blunt_19 : decode cX9_blunt 19 = .ok (.iconst (-1), 1) := by decide +kernel
theorem dX9_blunt_20 : decode cX9_blunt 20 = .ok (.istore_n 1, 1) := by decide +kernel
theorem dX9_blunt_21 : decode cX9_blunt 21 = .ok (.aload_n 0, 1) := by decide +kernel
theorem dX9_blunt_22 : decode cX9_blunt 22 = .ok (.invokevirtual 339, 3) := by decide +kernel
theorem dX9_blunt_25 : decode cX9_blunt 25 = .ok (.istore_n 2, 1) := by decide +kernel
theorem dX9_blunt_26 : decode cX9_blunt 26 = .ok (.iconst 0, 1) := by decide +kernel
theorem dX9_blunt_27 : decode cX9_blunt 27 = .ok (.istore_n 3, 1) := by decide +kernel
theorem dX9_blunt_28 : decode cX9_blunt 28 = .ok (.iload_n 3, 1) := by decide +kernel
theorem dX9_blunt_29 : decode cX9_blunt 29 = .ok (.aload_n 0, 1) := by decide +kernel
theorem dX9_blunt_30 : decode cX9_blunt 30 = .ok (.getfield 34, 3) := by decide +kernel
theorem dX9_blunt_33 : decode cX9_blunt 33 = .ok (.iconst 5, 1) := by decide +kernel
theorem dX9_blunt_34 : decode cX9_blunt 34 = .ok (.iaload, 1) := by decide +kernel
theorem dX9_blunt_35 : decode cX9_blunt 35 = .ok (.if_icmp .ge 42, 3) := by decide +kernel
theorem dX9_blunt_38 : decode cX9_blunt 38 = .ok (.aload_n 0, 1) := by decide +kernel
theorem dX9_blunt_39 : decode cX9_blunt 39 = .ok (.invokevirtual 319, 3) := by decide +kernel
theorem dX9_blunt_42 : decode cX9_blunt 42 = .ok (.aload_n 0, 1) := by decide +kernel
theorem dX9_blunt_43 : decode cX9_blunt 43 = .ok (.iconst 1, 1) := by decide +kernel
theorem dX9_blunt_44 : decode cX9_blunt 44 = .ok (.iload_n 3, 1) := by decide +kernel
theorem dX9_blunt_45 : decode cX9_blunt 45 = .ok (.ishl, 1) := by decide +kernel
theorem dX9_blunt_46 : decode cX9_blunt 46 = .ok (.putfield 269, 3) := by decide +kernel
theorem dX9_blunt_49 : decode cX9_blunt 49 = .ok (.aload_n 0, 1) := by decide +kernel
theorem dX9_blunt_50 : decode cX9_blunt 50 = .ok (.invokevirtual 322, 3) := by decide +kernel
theorem dX9_blunt_53 : decode cX9_blunt 53 = .ok (.aload_n 0, 1) := by decide +kernel
theorem dX9_blunt_54 : decode cX9_blunt 54 = .ok (.invokevirtual 339, 3) := by decide +kernel
theorem dX9_blunt_57 : decode cX9_blunt 57 = .ok (.iload_n 2, 1) := by decide +kernel
theorem dX9_blunt_58 : decode cX9_blunt 58 = .ok (.if_icmp .gt 6, 3) := by decide +kernel
theorem dX9_blunt_61 : decode cX9_blunt 61 = .ok (.goto 10, 3) := by decide +kernel
theorem dX9_blunt_64 : decode cX9_blunt 64 = .ok (.iload_n 3, 1) := by decide +kernel
theorem dX9_blunt_65 : decode cX9_blunt 65 = .ok (.istore_n 1, 1) := by decide +kernel
theorem dX9_blunt_66 : decode cX9_blunt 66 = .ok (.aload_n 0, 1) := by decide +kernel
theorem dX9_blunt_67 : decode cX9_blunt 67 = .ok (.invokevirtual 339, 3) := by decide +kernel
theorem dX9_blunt_70 : decode cX9_blunt 70 = .ok (.istore_n 2, 1) := by decide +kernel
theorem dX9_blunt_71 : decode cX9_blunt 71 = .ok (.iinc 3 1, 3) := by decide +kernel
theorem dX9_blunt_74 : decode cX9_blunt 74 = .ok (.goto (-46), 3) := by decide +kernel
theorem dX9_blunt_77 : decode cX9_blunt 77 = .ok (.iload_n 1, 1) := by decide +kernel
theorem dX9_blunt_78 : decode cX9_blunt 78 = .ok (.ireturn, 1) := by decide +kernel
theorem dX9_by_0 : decode cX9_by 0 = .ok (.aload_n 0, 1) := by decide +kernel
theorem dX9_by_1 : decode cX9_by 1 = .ok (.iconst 0, 1) := by decide +kernel
theorem dX9_by_2 : decode cX9_by 2 = .ok (.putfield 83, 3) := by decide +kernel
theorem dX9_by_5 : decode cX9_by 5 = .ok (.aload_n 0, 1) := by decide +kernel
theorem dX9_by_6 : decode cX9_by 6 = .ok (.invokevirtual 248, 3) := by decide +kernel
theorem dX9_by_9 : decode cX9_by 9 = .ok (.ifCond .eq 23, 3) := by decide +kernel
theorem dX9_by_12 : decode cX9_by 12 = .ok (.iload_n 1, 1) := by decide +kernel
theorem dX9_by_13 : decode cX9_by 13 = .ok (.i2l, 1) := by decide +kernel
theorem dX9_by_14 : decode cX9_by 14 = .ok (.lconst 0, 1) := by decide +kernel
theorem dX9_by_15 : decode cX9_by 15 = .ok (.ldc2_w 86, 3) := by decide +kernel
theorem dX9_by_18 : decode cX9_by 18 = .ok (.invokestatic 88, 3) := by decide +kernel
theorem dX9_by_21 : decode cX9_by 21 = .ok (.ifCond .eq 11, 3) := by decide +kernel
theorem dX9_by_24 : decode cX9_by 24 = .ok (.aload_n 0, 1) := by decide +kernel
theorem dX9_by_25 : decode cX9_by 25 = .ok (.iload_n 1, 1) := by decide +kernel
theorem dX9_by_26 : decode cX9_by 26 = .ok (.invokevirtual 417, 3) := by decide +kernel
theorem dX9_by_29 : decode cX9_by 29 = .ok (.goto 5, 3) := by decide +kernel
theorem dX9_by_32 : decode cX9_by 32 = .ok (.bipush (-2), 2) := by decide +kernel
theorem dX9_by_34 : decode cX9_by 34 = .ok (.ireturn, 1) := by decide +kernel
theorem dX9_chance_0 : decode cX9_chance 0 = .ok (.aload_n 0, 1) := by decide +kernel
theorem dX9_chance_1 : decode cX9_chance 1 = .ok (.iconst 0, 1) := by decide +kernel
theorem dX9_chance_2 : decode cX9_chance 2 = .ok (.putfield 83, 3) := by decide +kernel
theorem dX9_chance_5 : decode cX9_chance 5 = .ok (.aload_n 0, 1) := by decide +kernel
theorem dX9_chance_6 : decode cX9_chance 6 = .ok (.iload_n 1, 1) := by decide +kernel
theorem dX9_chance_7 : decode cX9_chance 7 = .ok (.i2l, 1) := by decide +kernel
theorem dX9_chance_8 : decode cX9_chance 8 = .ok (.invokevirtual 254, 3) := by decide +kernel
theorem dX9_chance_11 : decode cX9_chance 11 = .ok (.ifCond .eq 35, 3) := by decide +kernel
theorem dX9_chance_14 : decode cX9_chance 14 = .ok (.iload_n 2, 1) := by decide +kernel
theorem dX9_chance_15 : decode cX9_chance 15 = .ok (.invokestatic 364, 3) := by decide +kernel
theorem dX9_chance_18 : decode cX9_chance 18 = .ok (.ifCond .eq 28, 3) := by decide +kernel
theorem dX9_chance_21 : decode cX9_chance 21 = .ok (.aload_n 0, 1) := by decide +kernel
theorem dX9_chance_22 : decode cX9_chance 22 = .ok (.iload_n 1, 1) := by decide +kernel
theorem dX9_chance_23 : decode cX9_chance 23 = .ok (.invokevirtual 450, 3) := by decide +kernel
theorem dX9_chance_26 : decode cX9_chance 26 = .ok (.ldc2_w 448, 3) := by decide +kernel
theorem dX9_chance_29 : decode cX9_chance 29 = .ok (.aload_n 0, 1) := by decide +kernel
theorem dX9_chance_30 : decode cX9_chance 30 = .ok (.getfield 34, 3) := by decide +kernel
theorem dX9_chance_33 : decode cX9_chance 33 = .ok (.iconst 5, 1) := by decide +kernel
theorem dX9_chance_34 : decode cX9_chance 34 = .ok (.iaload, 1) := by decide +kernel
theorem dX9_chance_35 : decode cX9_chance 35 = .ok (.invokestatic 445, 3) := by decide +kernel
theorem dX9_chance_38 : decode cX9_chance 38 = .ok (.iload_n 2, 1) := by decide +kernel
theorem dX9_chance_39 : decode cX9_chance 39 = .ok (.invokestatic 368, 3) := by decide +kernel
theorem dX9_chance_42 : decode cX9_chance 42 = .ok (.l2i, 1) := by decide +kernel
theorem dX9_chance_43 : decode cX9_chance 43 = .ok (.goto 5, 3) := by decide +kernel
theorem dX9_chance_46 : decode cX9_chance 46 = .ok (.bipush (-2), 2) := by decide +kernel
theorem dX9_chance_48 : decode cX9_chance 48 = .ok (.ireturn, 1) := by decide +kernel
theorem dX9_charms_0 : decode cX9_charms 0 = .ok (.aload_n 0, 1) := by decide +kernel
theorem dX9_charms_1 : decode cX9_charms 1 = .ok (.iconst 0, 1) := by decide +kernel
theorem dX9_charms_2 : decode cX9_charms 2 = .ok (.putfield 83, 3) := by decide +kernel
theorem dX9_charms_5 : decode cX9_charms 5 = .ok (.aload_n 0, 1) := by decide +kernel
theorem dX9_charms_6 : decode cX9_charms 6 = .ok (.invokevirtual 248, 3) := by decide +kernel
theorem dX9_charms_9 : decode cX9_charms 9 = .ok (.ifCond .ne 6, 3) := by decide +kernel
theorem dX9_charms_12 : decode cX9_charms 12 = .ok (.bipush (-2), 2) := by decide +kernel
theorem dX9_charms_14 : decode cX9_charms 14 = .ok (.ireturn, 1) := by decide +kernel
theorem dX9_charms_15 : decode cX9_charms 15 = .ok (.aload_n 0, 1) := by decide +kernel
theorem dX9_charms_16 : decode cX9_charms 16 = .ok (.invokevirtual 330, 3) := by decide +kernel
theorem dX9_charms_19 : decode cX9_charms 19 = .ok (.iconst 0, 1) := by decide +kernel
theorem dX9_charms_20 : decode cX9_charms 20 = .ok (.istore_n 1, 1) := by decide +kernel
theorem dX9_charms_21 : decode cX9_charms 21 = .ok (.iconst 0, 1) := by decide +kernel
theorem dX9_charms_22 : decode cX9_charms 22 = .ok (.istore_n 2, 1) := by decide +kernel
theorem dX9_charms_23 : decode cX9_charms 23 = .ok (.iload_n 2, 1) := by decide +kernel
theorem dX9_charms_24 : decode cX9_charms 24 = .ok (.aload_n 0, 1) := by decide +kernel
theorem dX9_charms_25 : decode cX9_charms 25 = .ok (.invokevirtual 245, 3) := by decide +kernel
theorem dX9_charms_28 : decode cX9_charms 28 = .ok (.if_icmp .ge 40, 3) := by decide +kernel
theorem dX9_charms_31 : decode cX9_charms 31 = .ok (.iload_n 1, 1) := by decide +kernel
theorem dX9_charms_32 : decode cX9_charms 32 = .ok (.aload_n 0, 1) := by decide +kernel
theorem dX9_charms_33 : decode cX9_charms 33 = .ok (.getfield 62, 3) := by decide +kernel
theorem dX9_charms_36 : decode cX9_charms 36 = .ok (.aload_n 0, 1) := by decide +kernel
theorem dX9_charms_37 : decode cX9_charms 37 = .ok (.invokevirtual 251, 3) := by decide +kernel
theorem dX9_charms_40 : decode cX9_charms 40 = .ok (.iaload, 1) := by decide +kernel
theorem dX9_charms_41 : decode cX9_charms 41 = .ok (.iload_n 2, 1) := by decide +kernel
theorem dX9_charms_42 : decode cX9_charms 42 = .ok (.invokestatic 282, 3) := by decide +kernel
theorem dX9_charms_45 : decode cX9_charms 45 = .ok (.ifCond .eq 7, 3) := by decide +kernel
theorem dX9_charms_48 : decode cX9_charms 48 = .ok (.iconst 0, 1) := by decide +kernel
theorem dX9_charms_49 : decode cX9_charms 49 = .ok (.goto 11, 3) := by decide +kernel
theorem dX9_charms_52 : decode cX9_charms 52 = .ok (.aload_n 0, 1) := by decide +kernel
theorem dX9_charms_53 : decode cX9_charms 53 = .ok (.getfield 37, 3) := by decide +kernel
theorem dX9_charms_56 : decode cX9_charms 56 = .ok (.iconst 3, 1) := by decide +kernel
theorem dX9_charms_57 : decode cX9_charms 57 = .ok (.iload_n 2, 1) := by decide +kernel
theorem dX9_charms_58 : decode cX9_charms 58 = .ok (.imul, 1) := by decide +kernel
theorem dX9_charms_59 : decode cX9_charms 59 = .ok (.iaload, 1) := by decide +kernel
theorem dX9_charms_60 : decode cX9_charms 60 = .ok (.iadd, 1) := by decide +kernel
theorem dX9_charms_61 : decode cX9_charms 61 = .ok (.istore_n 1, 1) := by decide +kernel
theorem dX9_charms_62 : decode cX9_charms 62 = .ok (.iinc 2 1, 3) := by decide +kernel
theorem dX9_charms_65 : decode cX9_charms 65 = .ok (.goto (-42), 3) := by decide +kernel
theorem dX9_charms_68 : decode cX9_charms 68 = .ok (.iload_n 1, 1) := by decide +kernel
theorem dX9_charms_69 : decode cX9_charms 69 = .ok (.ireturn, 1) := by decide +kernel
theorem dX9_clears_0 : decode cX9_clears 0 = .ok (.aload_n 0, 1) := by decide +kernel
theorem dX9_clears_1 : decode cX9_clears 1 = .ok (.getfield 31, 3) := by decide +kernel
theorem dX9_clears_4 : decode cX9_clears 4 = .ok (.iconst 4, 1) := by decide +kernel
theorem dX9_clears_5 : decode cX9_clears 5 = .ok (.iconst 0, 1) := by decide +kernel
theorem dX9_clears_6 : decode cX9_clears 6 = .ok (.iastore, 1) := by decide +kernel
theorem dX9_clears_7 : decode cX9_clears 7 = .ok (.iconst 0, 1) := by decide +kernel
theorem dX9_clears_8 : decode cX9_clears 8 = .ok (.istore_n 1, 1) := by decide +kernel
theorem dX9_clears_9 : decode cX9_clears 9 = .ok (.iload_n 1, 1) := by decide +kernel
theorem dX9_clears_10 : decode cX9_clears 10 = .ok (.bipush 7, 2) := by decide +kernel
theorem dX9_clears_12 : decode cX9_clears 12 = .ok (.if_icmp .ge 15, 3) := by decide +kernel
theorem dX9_clears_15 : decode cX9_clears 15 = .ok (.aload_n 0, 1) := by decide +kernel
theorem dX9_clears_16 : decode cX9_clears 16 = .ok (.iload_n 1, 1) := by decide +kernel
theorem dX9_clears_17 : decode cX9_clears 17 = .ok (.iconst 0, 1) := by decide +kernel
theorem dX9_clears_18 : decode cX9_clears 18 = .ok (.invokevirtual 178, 3) := by decide +kernel
theorem dX9_clears_21 : decode cX9_clears 21 = .ok (.iinc 1 1, 3) := by decide +kernel
theorem dX9_clears_24 : decode cX9_clears 24 = .ok (.goto (-15), 3) := by decide +kernel
theorem dX9_clears_27 : decode cX9_clears 27 = .ok (.return_, 1) := by decide +kernel
theorem dX9_common_0 : decode cX9_common 0 = .ok (.lload_n 2, 1) := by decide +kernel
theorem dX9_common_1 : decode cX9_common 1 = .ok (.lconst 0, 1) := by decide +kernel
theorem dX9_common_2 : decode cX9_common 2 = .ok (.lcmp, 1) := by decide +kernel
theorem dX9_common_3 : decode cX9_common 3 = .ok (.ifCond .ne 18, 3) := by decide +kernel
theorem dX9_common_6 : decode cX9_common 6 = .ok (.lload_n 0, 1) := by decide +kernel
theorem dX9_common_7 : decode cX9_common 7 = .ok (.lconst 0, 1) := by decide +kernel
theorem dX9_common_8 : decode cX9_common 8 = .ok (.lcmp, 1) := by decide +kernel
theorem dX9_common_9 : decode cX9_common 9 = .ok (.ifCond .ge 8, 3) := by decide +kernel
theorem dX9_common_12 : decode cX9_common 12 = .ok (.lload_n 0, 1) := by decide +kernel
theorem dX9_common_13 : decode cX9_common 13 = .ok (.lneg, 1) := by decide +kernel
theorem dX9_common_14 : decode cX9_common 14 = .ok (.goto 14, 3) := by decide +kernel
theorem dX9_common_17 : decode cX9_common 17 = .ok (.lload_n 0, 1) := by decide +kernel
theorem dX9_common_18 : decode cX9_common 18 = .ok (.goto 10, 3) := by decide +kernel
theorem dX9_common_21 : decode cX9_common 21 = .ok (.lload_n 2, 1) := by decide +kernel
theorem dX9_common_22 : decode cX9_common 22 = .ok (.lload_n 0, 1) := by decide +kernel
theorem dX9_common_23 : decode cX9_common 23 = .ok (.lload_n 2, 1) := by decide +kernel
theorem dX9_common_24 : decode cX9_common 24 = .ok (.lrem, 1) := by decide +kernel
theorem dX9_common_25 : decode cX9_common 25 = .ok (.invokestatic 360, 3) := by decide +kernel
theorem dX9_common_28 : decode cX9_common 28 = .ok (.lreturn, 1) := by decide +kernel
theorem dX9_copyRow_0 : decode cX9_copyRow 0 = .ok (.iconst 0, 1) := by decide +kernel
theorem dX9_copyRow_1 : decode cX9_copyRow 1 = .ok (.istore 4, 2) := by decide +kernel
theorem dX9_copyRow_3 : decode cX9_copyRow 3 = .ok (.iload 4, 2) := by decide +kernel
theorem dX9_copyRow_5 : decode cX9_copyRow 5 = .ok (.iload_n 1, 1) := by decide +kernel
theorem dX9_copyRow_6 : decode cX9_copyRow 6 = .ok (.if_icmp .ge 25, 3) := by decide +kernel
theorem dX9_copyRow_9 : decode cX9_copyRow 9 = .ok (.aload_n 0, 1) := by decide +kernel
theorem dX9_copyRow_10 : decode cX9_copyRow 10 = .ok (.iload_n 1, 1) := by decide +kernel
theorem dX9_copyRow_11 : decode cX9_copyRow 11 = .ok (.iload_n 3, 1) := by decide +kernel
theorem dX9_copyRow_12 : decode cX9_copyRow 12 = .ok (.imul, 1) := by decide +kernel
theorem dX9_copyRow_13 : decode cX9_copyRow 13 = .ok (.iload 4, 2) := by decide +kernel
theorem dX9_copyRow_15 : decode cX9_copyRow 15 = .ok (.iadd, 1) := by decide +kernel
theorem dX9_copyRow_16 : decode cX9_copyRow 16 = .ok (.aload_n 0, 1) := by decide +kernel
theorem dX9_copyRow_17 : decode cX9_copyRow 17 = .ok (.iload_n 1, 1) := by decide +kernel
theorem dX9_copyRow_18 : decode cX9_copyRow 18 = .ok (.iload_n 2, 1) := by decide +kernel
theorem dX9_copyRow_19 : decode cX9_copyRow 19 = .ok (.imul, 1) := by decide +kernel
theorem dX9_copyRow_20 : decode cX9_copyRow 20 = .ok (.iload 4, 2) := by decide +kernel
theorem dX9_copyRow_22 : decode cX9_copyRow 22 = .ok (.iadd, 1) := by decide +kernel
theorem dX9_copyRow_23 : decode cX9_copyRow 23 = .ok (.iaload, 1) := by decide +kernel
theorem dX9_copyRow_24 : decode cX9_copyRow 24 = .ok (.iastore, 1) := by decide +kernel
theorem dX9_copyRow_25 : decode cX9_copyRow 25 = .ok (.iinc 4 1, 3) := by decide +kernel
theorem dX9_copyRow_28 : decode cX9_copyRow 28 = .ok (.goto (-25), 3) := by decide +kernel
theorem dX9_copyRow_31 : decode cX9_copyRow 31 = .ok (.return_, 1) := by decide +kernel
theorem dX9_copyTale_0 : decode cX9_copyTale 0 = .ok (.aload_n 0, 1) := by decide +kernel
theorem dX9_copyTale_1 : decode cX9_copyTale 1 = .ok (.getfield 31, 3) := by decide +kernel
theorem dX9_copyTale_4 : decode cX9_copyTale 4 = .ok (.iconst 1, 1) := by decide +kernel
theorem dX9_copyTale_5 : decode cX9_copyTale 5 = .ok (.iload_n 1, 1) := by decide +kernel
theorem dX9_copyTale_6 : decode cX9_copyTale 6 = .ok (.iload_n 2, 1) := by decide +kernel
theorem dX9_copyTale_7 : decode cX9_copyTale 7 = .ok (.invokestatic 241, 3) := by decide +kernel
theorem dX9_copyTale_10 : decode cX9_copyTale 10 = .ok (.aload_n 0, 1) := by decide +kernel
theorem dX9_copyTale_11 : decode cX9_copyTale 11 = .ok (.getfield 34, 3) := by decide +kernel
theorem dX9_copyTale_14 : decode cX9_copyTale 14 = .ok (.bipush 7, 2) := by decide +kernel
theorem dX9_copyTale_16 : decode cX9_copyTale 16 = .ok (.iload_n 1, 1) := by decide +kernel
theorem dX9_copyTale_17 : decode cX9_copyTale 17 = .ok (.iload_n 2, 1) := by decide +kernel
theorem dX9_copyTale_18 : decode cX9_copyTale 18 = .ok (.invokestatic 241, 3) := by decide +kernel
theorem dX9_copyTale_21 : decode cX9_copyTale 21 = .ok (.aload_n 0, 1) := by decide +kernel
theorem dX9_copyTale_22 : decode cX9_copyTale 22 = .ok (.getfield 37, 3) := by decide +kernel
theorem dX9_copyTale_25 : decode cX9_copyTale 25 = .ok (.bipush 18, 2) := by decide +kernel
theorem dX9_copyTale_27 : decode cX9_copyTale 27 = .ok (.iload_n 1, 1) := by decide +kernel
theorem dX9_copyTale_28 : decode cX9_copyTale 28 = .ok (.iload_n 2, 1) := by decide +kernel
theorem dX9_copyTale_29 : decode cX9_copyTale 29 = .ok (.invokestatic 241, 3) := by decide +kernel
theorem dX9_copyTale_32 : decode cX9_copyTale 32 = .ok (.aload_n 0, 1) := by decide +kernel
theorem dX9_copyTale_33 : decode cX9_copyTale 33 = .ok (.getfield 40, 3) := by decide +kernel
theorem dX9_copyTale_36 : decode cX9_copyTale 36 = .ok (.bipush 20, 2) := by decide +kernel
theorem dX9_copyTale_38 : decode cX9_copyTale 38 = .ok (.iload_n 1, 1) := by decide +kernel
theorem dX9_copyTale_39 : decode cX9_copyTale 39 = .ok (.iload_n 2, 1) := by decide +kernel
theorem dX9_copyTale_40 : decode cX9_copyTale 40 = .ok (.invokestatic 241, 3) := by decide +kernel
theorem dX9_copyTale_43 : decode cX9_copyTale 43 = .ok (.aload_n 0, 1) := by decide +kernel
theorem dX9_copyTale_44 : decode cX9_copyTale 44 = .ok (.getfield 43, 3) := by decide +kernel
theorem dX9_copyTale_47 : decode cX9_copyTale 47 = .ok (.bipush 16, 2) := by decide +kernel
theorem dX9_copyTale_49 : decode cX9_copyTale 49 = .ok (.iload_n 1, 1) := by decide +kernel
theorem dX9_copyTale_50 : decode cX9_copyTale 50 = .ok (.iload_n 2, 1) := by decide +kernel
theorem dX9_copyTale_51 : decode cX9_copyTale 51 = .ok (.invokestatic 241, 3) := by decide +kernel
theorem dX9_copyTale_54 : decode cX9_copyTale 54 = .ok (.aload_n 0, 1) := by decide +kernel
theorem dX9_copyTale_55 : decode cX9_copyTale 55 = .ok (.getfield 46, 3) := by decide +kernel
theorem dX9_copyTale_58 : decode cX9_copyTale 58 = .ok (.bipush 60, 2) := by decide +kernel
theorem dX9_copyTale_60 : decode cX9_copyTale 60 = .ok (.iload_n 1, 1) := by decide +kernel
theorem dX9_copyTale_61 : decode cX9_copyTale 61 = .ok (.iload_n 2, 1) := by decide +kernel
theorem dX9_copyTale_62 : decode cX9_copyTale 62 = .ok (.invokestatic 241, 3) := by decide +kernel
theorem dX9_copyTale_65 : decode cX9_copyTale 65 = .ok (.return_, 1) := by decide +kernel
theorem dX9_count_0 : decode cX9_count 0 = .ok (.aload_n 0, 1) := by decide +kernel
theorem dX9_count_1 : decode cX9_count 1 = .ok (.iconst 0, 1) := by decide +kernel
theorem dX9_count_2 : decode cX9_count 2 = .ok (.putfield 83, 3) := by decide +kernel
theorem dX9_count_5 : decode cX9_count 5 = .ok (.iload_n 1, 1) := by decide +kernel
theorem dX9_count_6 : decode cX9_count 6 = .ok (.i2l, 1) := by decide +kernel
theorem dX9_count_7 : decode cX9_count 7 = .ok (.lconst 0, 1) := by decide +kernel
theorem dX9_count_8 : decode cX9_count 8 = .ok (.ldc2_w 480, 3) := by decide +kernel
theorem dX9_count_11 : decode cX9_count 11 = .ok (.invokestatic 88, 3) := by decide +kernel
theorem dX9_count_14 : decode cX9_count 14 = .ok (.ifCond .eq 10, 3) := by decide +kernel
theorem dX9_count_17 : decode cX9_count 17 = .ok (.aload_n 0, 1) := by decide +kernel
theorem dX9_count_18 : decode cX9_count 18 = .ok (.getfield 34, 3) := by decide +kernel
theorem dX9_count_21 : decode cX9_count 21 = .ok (.iload_n 1, 1) := by decide +kernel
theorem dX9_count_22 : decode cX9_count 22 = .ok (.iaload, 1) := by decide +kernel
theorem dX9_count_23 : decode cX9_count 23 = .ok (.ireturn, 1) := by decide +kernel
theorem dX9_count_24 : decode cX9_count 24 = .ok (.iconst 0, 1) := by decide +kernel
theorem dX9_count_25 : decode cX9_count 25 = .ok (.istore_n 2, 1) := by decide +kernel
theorem dX9_count_26 : decode cX9_count 26 = .ok (.iload_n 1, 1) := by decide +kernel
theorem dX9_count_27 : decode cX9_count 27 = .ok (.tableswitch 70 7 9 #[25, 32, 37], 25) := by decide +kernel
theorem dX9_count_52 : decode cX9_count 52 = .ok (.aload_n 0, 1) := by decide +kernel
theorem dX9_count_53 : decode cX9_count 53 = .ok (.getfield 31, 3) := by decide +kernel
theorem dX9_count_56 : decode cX9_count 56 = .ok (.iconst 0, 1) := by decide +kernel
theorem dX9_count_57 : decode cX9_count 57 = .ok (.iaload, 1) := by decide +kernel
theorem dX9_count_58 : decode cX9_count 58 = .ok (.ireturn, 1) := by decide +kernel
theorem dX9_count_59 : decode cX9_count 59 = .ok (.aload_n 0, 1) := by decide +kernel
theorem dX9_count_60 : decode cX9_count 60 = .ok (.getfield 100, 3) := by decide +kernel
theorem dX9_count_63 : decode cX9_count 63 = .ok (.ireturn, 1) := by decide +kernel
theorem dX9_count_64 : decode cX9_count 64 = .ok (.iconst 0, 1) := by decide +kernel
theorem dX9_count_65 : decode cX9_count 65 = .ok (.istore_n 3, 1) := by decide +kernel
theorem dX9_count_66 : decode cX9_count 66 = .ok (.iload_n 3, 1) := by decide +kernel
theorem dX9_count_67 : decode cX9_count 67 = .ok (.iconst 4, 1) := by decide +kernel
theorem dX9_count_68 : decode cX9_count 68 = .ok (.if_icmp .ge 27, 3) := by decide +kernel
theorem dX9_count_71 : decode cX9_count 71 = .ok (.iload_n 2, 1) := by decide +kernel
theorem dX9_count_72 : decode cX9_count 72 = .ok (.aload_n 0, 1) := by decide +kernel
theorem dX9_count_73 : decode cX9_count 73 = .ok (.getfield 7, 3) := by decide +kernel
theorem dX9_count_76 : decode cX9_count 76 = .ok (.iload_n 3, 1) := by decide +kernel
theorem dX9_count_77 : decode cX9_count 77 = .ok (.iaload, 1) := by decide +kernel
theorem dX9_count_78 : decode cX9_count 78 = .ok (.iconst (-1), 1) := by decide +kernel
theorem dX9_count_79 : decode cX9_count 79 = .ok (.if_icmp .ne 7, 3) := by decide +kernel
theorem dX9_count_82 : decode cX9_count 82 = .ok (.iconst 0, 1) := by decide +kernel
theorem dX9_count_83 : decode cX9_count 83 = .ok (.goto 4, 3) := by decide +kernel
theorem dX9_count_86 : decode cX9_count 86 = .ok (.iconst 1, 1) := by decide +kernel
theorem dX9_count_87 : decode cX9_count 87 = .ok (.iadd, 1) := by decide +kernel
theorem dX9_count_88 : decode cX9_count 88 = .ok (.istore_n 2, 1) := by decide +kernel
theorem dX9_count_89 : decode cX9_count 89 = .ok (.iinc 3 1, 3) := by decide +kernel
theorem dX9_count_92 : decode cX9_count 92 = .ok (.goto (-26), 3) := by decide +kernel
theorem dX9_count_95 : decode cX9_count 95 = .ok (.iload_n 2, 1) := by decide +kernel
theorem dX9_count_96 : decode cX9_count 96 = .ok (.ireturn, 1) := by decide +kernel
theorem dX9_count_97 : decode cX9_count 97 = .ok (.iconst (-1), 1) := by decide +kernel
theorem dX9_count_98 : decode cX9_count 98 = .ok (.ireturn, 1) := by decide +kernel
theorem dX9_cut_0 : decode cX9_cut 0 = .ok (.iload_n 2, 1) := by decide +kernel
theorem dX9_cut_1 : decode cX9_cut 1 = .ok (.ifCond .ne 10, 3) := by decide +kernel
theorem dX9_cut_4 : decode cX9_cut 4 = .ok (.lload_n 0, 1) := by decide +kernel
theorem dX9_cut_5 : decode cX9_cut 5 = .ok (.l2i, 1) := by decide +kernel
theorem dX9_cut_6 : decode cX9_cut 6 = .ok (.i2b, 1) := by decide +kernel
theorem dX9_cut_7 : decode cX9_cut 7 = .ok (.i2l, 1) := by decide +kernel
theorem dX9_cut_8 : decode cX9_cut 8 = .ok (.goto 27, 3) := by decide +kernel
theorem dX9_cut_11 : decode cX9_cut 11 = .ok (.iload_n 2, 1) := by decide +kernel
theorem dX9_cut_12 : decode cX9_cut 12 = .ok (.iconst 1, 1) := by decide +kernel
theorem dX9_cut_13 : decode cX9_cut 13 = .ok (.if_icmp .ne 10, 3) := by decide +kernel
theorem dX9_cut_16 : decode cX9_cut 16 = .ok (.lload_n 0, 1) := by decide +kernel
theorem dX9_cut_17 : decode cX9_cut 17 = .ok (.l2i, 1) := by decide +kernel
theorem dX9_cut_18 : decode cX9_cut 18 = .ok (.i2s, 1) := by decide +kernel
theorem dX9_cut_19 : decode cX9_cut 19 = .ok (.i2l, 1) := by decide +kernel
theorem dX9_cut_20 : decode cX9_cut 20 = .ok (.goto 15, 3) := by decide +kernel
theorem dX9_cut_23 : decode cX9_cut 23 = .ok (.iload_n 2, 1) := by decide +kernel
theorem dX9_cut_24 : decode cX9_cut 24 = .ok (.iconst 2, 1) := by decide +kernel
theorem dX9_cut_25 : decode cX9_cut 25 = .ok (.if_icmp .ne 9, 3) := by decide +kernel
theorem dX9_cut_28 : decode cX9_cut 28 = .ok (.lload_n 0, 1) := by decide +kernel
theorem dX9_cut_29 : decode cX9_cut 29 = .ok (.l2i, 1) := by decide +kernel
theorem dX9_cut_30 : decode cX9_cut 30 = .ok (.i2l, 1) := by decide +kernel
theorem dX9_cut_31 : decode cX9_cut 31 = .ok (.goto 4, 3) := by decide +kernel
theorem dX9_cut_34 : decode cX9_cut 34 = .ok (.lload_n 0, 1) := by decide +kernel
theorem dX9_cut_35 : decode cX9_cut 35 = .ok (.lreturn, 1) := by decide +kernel
theorem dX9_cut__0 : decode cX9_cut_ 0 = .ok (.aload_n 0, 1) := by decide +kernel
theorem dX9_cut__1 : decode cX9_cut_ 1 = .ok (.iconst 0, 1) := by decide +kernel
theorem dX9_cut__2 : decode cX9_cut_ 2 = .ok (.putfield 83, 3) := by decide +kernel
theorem dX9_cut__5 : decode cX9_cut_ 5 = .ok (.aload_n 0, 1) := by decide +kernel
theorem dX9_cut__6 : decode cX9_cut_ 6 = .ok (.iload_n 1, 1) := by decide +kernel
theorem dX9_cut__7 : decode cX9_cut_ 7 = .ok (.i2l, 1) := by decide +kernel
theorem dX9_cut__8 : decode cX9_cut_ 8 = .ok (.invokevirtual 257, 3) := by decide +kernel
theorem dX9_cut__11 : decode cX9_cut_ 11 = .ok (.ifCond .ne 6, 3) := by decide +kernel
theorem dX9_cut__14 : decode cX9_cut_ 14 = .ok (.bipush (-2), 2) := by decide +kernel
theorem dX9_cut__16 : decode cX9_cut_ 16 = .ok (.ireturn, 1) := by decide +kernel
theorem dX9_cut__17 : decode cX9_cut_ 17 = .ok (.aload_n 0, 1) := by decide +kernel
theorem dX9_cut__18 : decode cX9_cut_ 18 = .ok (.invokevirtual 330, 3) := by decide +kernel
theorem dX9_cut__21 : decode cX9_cut_ 21 = .ok (.iconst 0, 1) := by decide +kernel
theorem dX9_cut__22 : decode cX9_cut_ 22 = .ok (.istore_n 2, 1) := by decide +kernel
theorem dX9_cut__23 : decode cX9_cut_ 23 = .ok (.iconst 0, 1) := by decide +kernel
theorem dX9_cut__24 : decode cX9_cut_ 24 = .ok (.istore_n 3, 1) := by decide +kernel
theorem dX9_cut__25 : decode cX9_cut_ 25 = .ok (.iload_n 3, 1) := by decide +kernel
theorem dX9_cut__26 : decode cX9_cut_ 26 = .ok (.aload_n 0, 1) := by decide +kernel
theorem dX9_cut__27 : decode cX9_cut_ 27 = .ok (.getfield 34, 3) := by decide +kernel
theorem dX9_cut__30 : decode cX9_cut_ 30 = .ok (.iconst 4, 1) := by decide +kernel
theorem dX9_cut__31 : decode cX9_cut_ 31 = .ok (.iaload, 1) := by decide +kernel
theorem dX9_cut__32 : decode cX9_cut_ 32 = .ok (.if_icmp .ge 61, 3) := by decide +kernel
theorem dX9_cut__35 : decode cX9_cut_ 35 = .ok (.iload_n 2, 1) := by decide +kernel
theorem dX9_cut__36 : decode cX9_cut_ 36 = .ok (.aload_n 0, 1) := by decide +kernel
theorem dX9_cut__37 : decode cX9_cut_ 37 = .ok (.getfield 62, 3) := by decide +kernel
theorem dX9_cut__40 : decode cX9_cut_ 40 = .ok (.iload_n 1, 1) := by decide +kernel
theorem dX9_cut__41 : decode cX9_cut_ 41 = .ok (.iaload, 1) := by decide +kernel
theorem dX9_cut__42 : decode cX9_cut_ 42 = .ok (.aload_n 0, 1) := by decide +kernel
theorem dX9_cut__43 : decode cX9_cut_ 43 = .ok (.getfield 40, 3) := by decide +kernel
theorem dX9_cut__46 : decode cX9_cut_ 46 = .ok (.iconst 2, 1) := by decide +kernel
theorem dX9_cut__47 : decode cX9_cut_ 47 = .ok (.iload_n 3, 1) := by decide +kernel
theorem dX9_cut__48 : decode cX9_cut_ 48 = .ok (.imul, 1) := by decide +kernel
theorem dX9_cut__49 : decode cX9_cut_ 49 = .ok (.iaload, 1) := by decide +kernel
theorem dX9_cut__50 : decode cX9_cut_ 50 = .ok (.invokestatic 282, 3) := by decide +kernel
theorem dX9_cut__53 : decode cX9_cut_ 53 = .ok (.ifCond .ne 25, 3) := by decide +kernel
theorem dX9_cut__56 : decode cX9_cut_ 56 = .ok (.aload_n 0, 1) := by decide +kernel
theorem dX9_cut__57 : decode cX9_cut_ 57 = .ok (.getfield 62, 3) := by decide +kernel
theorem dX9_cut__60 : decode cX9_cut_ 60 = .ok (.iload_n 1, 1) := by decide +kernel
theorem dX9_cut__61 : decode cX9_cut_ 61 = .ok (.iaload, 1) := by decide +kernel
theorem dX9_cut__62 : decode cX9_cut_ 62 = .ok (.aload_n 0, 1) := by decide +kernel
theorem dX9_cut__63 : decode cX9_cut_ 63 = .ok (.getfield 40, 3) := by decide +kernel
theorem dX9_cut__66 : decode cX9_cut_ 66 = .ok (.iconst 2, 1) := by decide +kernel
theorem dX9_cut__67 : decode cX9_cut_ 67 = .ok (.iload_n 3, 1) := by decide +kernel
theorem dX9_cut__68 : decode cX9_cut_ 68 = .ok (.imul, 1) := by decide +kernel
theorem dX9_cut__69 : decode cX9_cut_ 69 = .ok (.iconst 1, 1) := by decide +kernel
theorem dX9_cut__70 : decode cX9_cut_ 70 = .ok (.iadd, 1) := by decide +kernel
theorem dX9_cut__71 : decode cX9_cut_ 71 = .ok (.iaload, 1) := by decide +kernel
theorem dX9_cut__72 : decode cX9_cut_ 72 = .ok (.invokestatic 282, 3) := by decide +kernel
theorem dX9_cut__75 : decode cX9_cut_ 75 = .ok (.ifCond .eq 9, 3) := by decide +kernel
theorem dX9_cut__78 : decode cX9_cut_ 78 = .ok (.iconst 1, 1) := by decide +kernel
theorem dX9_cut__79 : decode cX9_cut_ 79 = .ok (.iload_n 3, 1) := by decide +kernel
theorem dX9_cut__80 : decode cX9_cut_ 80 = .ok (.ishl, 1) := by decide +kernel
theorem dX9_cut__81 : decode cX9_cut_ 81 = .ok (.goto 4, 3) := by decide +kernel
theorem dX9_cut__84 : decode cX9_cut_ 84 = .ok (.iconst 0, 1) := by decide +kernel
theorem dX9_cut__85 : decode cX9_cut_ 85 = .ok (.ior, 1) := by decide +kernel
theorem dX9_cut__86 : decode cX9_cut_ 86 = .ok (.istore_n 2, 1) := by decide +kernel
theorem dX9_cut__87 : decode cX9_cut_ 87 = .ok (.iinc 3 1, 3) := by decide +kernel
theorem dX9_cut__90 : decode cX9_cut_ 90 = .ok (.goto (-65), 3) := by decide +kernel
theorem dX9_cut__93 : decode cX9_cut_ 93 = .ok (.iload_n 2, 1) := by decide +kernel
theorem dX9_cut__94 : decode cX9_cut_ 94 = .ok (.ireturn, 1) := by decide +kernel
theorem dX9_cuts_0 : decode cX9_cuts 0 = .ok (.aload_n 0, 1) := by decide +kernel
theorem dX9_cuts_1 : decode cX9_cuts 1 = .ok (.getfield 276, 3) := by decide +kernel
theorem dX9_cuts_4 : decode cX9_cuts 4 = .ok (.iload_n 1, 1) := by decide +kernel
theorem dX9_cuts_5 : decode cX9_cuts 5 = .ok (.invokestatic 282, 3) := by decide +kernel
theorem dX9_cuts_8 : decode cX9_cuts 8 = .ok (.ifCond .eq 4, 3) := by decide +kernel
theorem dX9_cuts_11 : decode cX9_cuts 11 = .ok (.return_, 1) := by decide +kernel
theorem dX9_cuts_12 : decode cX9_cuts 12 = .ok (.iload_n 3, 1) := by decide +kernel
theorem dX9_cuts_13 : decode cX9_cuts 13 = .ok (.iconst (-1), 1) := by decide +kernel
theorem dX9_cuts_14 : decode cX9_cuts 14 = .ok (.if_icmp .eq 15, 3) := by decide +kernel
theorem dX9_cuts_17 : decode cX9_cuts 17 = .ok (.aload_n 0, 1) := by decide +kernel
theorem dX9_cuts_18 : decode cX9_cuts 18 = .ok (.dup, 1) := by decide +kernel
theorem dX9_cuts_19 : decode cX9_cuts 19 = .ok (.getfield 285, 3) := by decide +kernel
theorem dX9_cuts_22 : decode cX9_cuts 22 = .ok (.iconst 1, 1) := by decide +kernel
theorem dX9_cuts_23 : decode cX9_cuts 23 = .ok (.iload_n 3, 1) := by decide +kernel
theorem dX9_cuts_24 : decode cX9_cuts 24 = .ok (.ishl, 1) := by decide +kernel
theorem dX9_cuts_25 : decode cX9_cuts 25 = .ok (.ior, 1) := by decide +kernel
theorem dX9_cuts_26 : decode cX9_cuts 26 = .ok (.putfield 285, 3) := by decide +kernel
theorem dX9_cuts_29 : decode cX9_cuts 29 = .ok (.aload_n 0, 1) := by decide +kernel
theorem dX9_cuts_30 : decode cX9_cuts 30 = .ok (.iload_n 1, 1) := by decide +kernel
theorem dX9_cuts_31 : decode cX9_cuts 31 = .ok (.iload_n 2, 1) := by decide +kernel
theorem dX9_cuts_32 : decode cX9_cuts 32 = .ok (.iconst 1, 1) := by decide +kernel
theorem dX9_cuts_33 : decode cX9_cuts 33 = .ok (.invokevirtual 288, 3) := by decide +kernel
theorem dX9_cuts_36 : decode cX9_cuts 36 = .ok (.return_, 1) := by decide +kernel
theorem dX9_dies_0 : decode cX9_dies 0 = .ok (.aload_n 0, 1) := by decide +kernel
theorem dX9_dies_1 : decode cX9_dies 1 = .ok (.iconst 0, 1) := by decide +kernel
theorem dX9_dies_2 : decode cX9_dies 2 = .ok (.putfield 83, 3) := by decide +kernel
theorem dX9_dies_5 : decode cX9_dies 5 = .ok (.aload_n 0, 1) := by decide +kernel
theorem dX9_dies_6 : decode cX9_dies 6 = .ok (.iload_n 1, 1) := by decide +kernel
theorem dX9_dies_7 : decode cX9_dies 7 = .ok (.i2l, 1) := by decide +kernel
theorem dX9_dies_8 : decode cX9_dies 8 = .ok (.invokevirtual 254, 3) := by decide +kernel
theorem dX9_dies_11 : decode cX9_dies 11 = .ok (.ifCond .ne 6, 3) := by decide +kernel
theorem dX9_dies_14 : decode cX9_dies 14 = .ok (.bipush (-2), 2) := by decide +kernel
theorem dX9_dies_16 : decode cX9_dies 16 = .ok (.ireturn, 1) := by decide +kernel
theorem dX9_dies_17 : decode cX9_dies 17 = .ok (.aload_n 0, 1) := by decide +kernel
theorem dX9_dies_18 : decode cX9_dies 18 = .ok (.invokevirtual 330, 3) := by decide +kernel
theorem dX9_dies_21 : decode cX9_dies 21 = .ok (.iconst 0, 1) := by decide +kernel
theorem dX9_dies_22 : decode cX9_dies 22 = .ok (.istore_n 2, 1) := by decide +kernel
theorem dX9_dies_23 : decode cX9_dies 23 = .ok (.iload_n 2, 1) := by decide +kernel
theorem dX9_dies_24 : decode cX9_dies 24 = .ok (.aload_n 0, 1) := by decide +kernel
theorem dX9_dies_25 : decode cX9_dies 25 = .ok (.invokevirtual 251, 3) := by decide +kernel
theorem dX9_dies_28 : decode cX9_dies 28 = .ok (.if_icmp .gt 20, 3) := by decide +kernel
theorem dX9_dies_31 : decode cX9_dies 31 = .ok (.aload_n 0, 1) := by decide +kernel
theorem dX9_dies_32 : decode cX9_dies 32 = .ok (.iload_n 1, 1) := by decide +kernel
theorem dX9_dies_33 : decode cX9_dies 33 = .ok (.iload_n 2, 1) := by decide +kernel
theorem dX9_dies_34 : decode cX9_dies 34 = .ok (.invokevirtual 342, 3) := by decide +kernel
theorem dX9_dies_37 : decode cX9_dies 37 = .ok (.ifCond .ne 5, 3) := by decide +kernel
theorem dX9_dies_40 : decode cX9_dies 40 = .ok (.iload_n 2, 1) := by decide +kernel
theorem dX9_dies_41 : decode cX9_dies 41 = .ok (.ireturn, 1) := by decide +kernel
theorem dX9_dies_42 : decode cX9_dies 42 = .ok (.iinc 2 1, 3) := by decide +kernel
theorem dX9_dies_45 : decode cX9_dies 45 = .ok (.goto (-22), 3) := by decide +kernel
theorem dX9_dies_48 : decode cX9_dies 48 = .ok (.iconst (-1), 1) := by decide +kernel
theorem dX9_dies_49 : decode cX9_dies 49 = .ok (.ireturn, 1) := by decide +kernel
theorem dX9_does_0 : decode cX9_does 0 = .ok (.iconst 3, 1) := by decide +kernel
theorem dX9_does_1 : decode cX9_does 1 = .ok (.aload_n 0, 1) := by decide +kernel
theorem dX9_does_2 : decode cX9_does 2 = .ok (.getfield 34, 3) := by decide +kernel
theorem dX9_does_5 : decode cX9_does 5 = .ok (.bipush 6, 2) := by decide +kernel
theorem dX9_does_7 : decode cX9_does 7 = .ok (.iaload, 1) := by decide +kernel
theorem dX9_does_8 : decode cX9_does 8 = .ok (.imul, 1) := by decide +kernel
theorem dX9_does_9 : decode cX9_does 9 = .ok (.istore 4, 2) := by decide +kernel
theorem dX9_does_11 : decode cX9_does 11 = .ok (.aload_n 0, 1) := by decide +kernel
theorem dX9_does_12 : decode cX9_does 12 = .ok (.getfield 46, 3) := by decide +kernel
theorem dX9_does_15 : decode cX9_does 15 = .ok (.iload 4, 2) := by decide +kernel
theorem dX9_does_17 : decode cX9_does 17 = .ok (.iload_n 1, 1) := by decide +kernel
theorem dX9_does_18 : decode cX9_does 18 = .ok (.iastore, 1) := by decide +kernel
theorem dX9_does_19 : decode cX9_does 19 = .ok (.aload_n 0, 1) := by decide +kernel
theorem dX9_does_20 : decode cX9_does 20 = .ok (.getfield 46, 3) := by decide +kernel
theorem dX9_does_23 : decode cX9_does 23 = .ok (.iload 4, 2) := by decide +kernel
theorem dX9_does_25 : decode cX9_does 25 = .ok (.iconst 1, 1) := by decide +kernel
theorem dX9_does_26 : decode cX9_does 26 = .ok (.iadd, 1) := by decide +kernel
theorem dX9_does_27 : decode cX9_does 27 = .ok (.iload_n 2, 1) := by decide +kernel
theorem dX9_does_28 : decode cX9_does 28 = .ok (.iastore, 1) := by decide +kernel
theorem dX9_does_29 : decode cX9_does 29 = .ok (.aload_n 0, 1) := by decide +kernel
theorem dX9_does_30 : decode cX9_does 30 = .ok (.getfield 46, 3) := by decide +kernel
theorem dX9_does_33 : decode cX9_does 33 = .ok (.iload 4, 2) := by decide +kernel
theorem dX9_does_35 : decode cX9_does 35 = .ok (.iconst 2, 1) := by decide +kernel
theorem dX9_does_36 : decode cX9_does 36 = .ok (.iadd, 1) := by decide +kernel
theorem dX9_does_37 : decode cX9_does 37 = .ok (.iload_n 3, 1) := by decide +kernel
theorem dX9_does_38 : decode cX9_does 38 = .ok (.iastore, 1) := by decide +kernel
theorem dX9_does_39 : decode cX9_does 39 = .ok (.aload_n 0, 1) := by decide +kernel
theorem dX9_does_40 : decode cX9_does 40 = .ok (.getfield 34, 3) := by decide +kernel
theorem dX9_does_43 : decode cX9_does 43 = .ok (.bipush 6, 2) := by decide +kernel
theorem dX9_does_45 : decode cX9_does 45 = .ok (.dup2, 1) := by decide +kernel
theorem dX9_does_46 : decode cX9_does 46 = .ok (.iaload, 1) := by decide +kernel
theorem dX9_does_47 : decode cX9_does 47 = .ok (.iconst 1, 1) := by decide +kernel
theorem dX9_does_48 : decode cX9_does 48 = .ok (.iadd, 1) := by decide +kernel
theorem dX9_does_49 : decode cX9_does 49 = .ok (.iastore, 1) := by decide +kernel
theorem dX9_does_50 : decode cX9_does 50 = .ok (.return_, 1) := by decide +kernel
theorem dX9_done_0 : decode cX9_done 0 = .ok (.aload_n 0, 1) := by decide +kernel
theorem dX9_done_1 : decode cX9_done 1 = .ok (.iconst 0, 1) := by decide +kernel
theorem dX9_done_2 : decode cX9_done 2 = .ok (.putfield 83, 3) := by decide +kernel
theorem dX9_done_5 : decode cX9_done 5 = .ok (.aload_n 0, 1) := by decide +kernel
theorem dX9_done_6 : decode cX9_done 6 = .ok (.invokevirtual 248, 3) := by decide +kernel
theorem dX9_done_9 : decode cX9_done 9 = .ok (.ifCond .ne 6, 3) := by decide +kernel
theorem dX9_done_12 : decode cX9_done 12 = .ok (.bipush (-2), 2) := by decide +kernel
theorem dX9_done_14 : decode cX9_done 14 = .ok (.ireturn, 1) := by decide +kernel
theorem dX9_done_15 : decode cX9_done 15 = .ok (.aload_n 0, 1) := by decide +kernel
theorem dX9_done_16 : decode cX9_done 16 = .ok (.invokevirtual 330, 3) := by decide +kernel
theorem dX9_done_19 : decode cX9_done 19 = .ok (.iconst 0, 1) := by decide +kernel
theorem dX9_done_20 : decode cX9_done 20 = .ok (.istore_n 1, 1) := by decide +kernel
theorem dX9_done_21 : decode cX9_done 21 = .ok (.iload_n 1, 1) := by decide +kernel
theorem dX9_done_22 : decode cX9_done 22 = .ok (.aload_n 0, 1) := by decide +kernel
theorem dX9_done_23 : decode cX9_done 23 = .ok (.invokevirtual 251, 3) := by decide +kernel
theorem dX9_done_26 : decode cX9_done 26 = .ok (.if_icmp .gt 31, 3) := by decide +kernel
theorem dX9_done_29 : decode cX9_done 29 = .ok (.aload_n 0, 1) := by decide +kernel
theorem dX9_done_30 : decode cX9_done 30 = .ok (.invokevirtual 245, 3) := by decide +kernel
theorem dX9_done_33 : decode cX9_done 33 = .ok (.ifCond .le 18, 3) := by decide +kernel
theorem dX9_done_36 : decode cX9_done 36 = .ok (.aload_n 0, 1) := by decide +kernel
theorem dX9_done_37 : decode cX9_done 37 = .ok (.getfield 62, 3) := by decide +kernel
theorem dX9_done_40 : decode cX9_done 40 = .ok (.iload_n 1, 1) := by decide +kernel
theorem dX9_done_41 : decode cX9_done 41 = .ok (.iaload, 1) := by decide +kernel
theorem dX9_done_42 : decode cX9_done 42 = .ok (.aload_n 0, 1) := by decide +kernel
theorem dX9_done_43 : decode cX9_done 43 = .ok (.invokevirtual 345, 3) := by decide +kernel
theorem dX9_done_46 : decode cX9_done 46 = .ok (.if_icmp .ne 5, 3) := by decide +kernel
theorem dX9_done_49 : decode cX9_done 49 = .ok (.iload_n 1, 1) := by decide +kernel
theorem dX9_done_50 : decode cX9_done 50 = .ok (.ireturn, 1) := by decide +kernel
theorem dX9_done_51 : decode cX9_done 51 = .ok (.iinc 1 1, 3) := by decide +kernel
theorem dX9_done_54 : decode cX9_done 54 = .ok (.goto (-33), 3) := by decide +kernel
theorem dX9_done_57 : decode cX9_done 57 = .ok (.iconst (-1), 1) := by decide +kernel
theorem dX9_done_58 : decode cX9_done 58 = .ok (.ireturn, 1) := by decide +kernel
theorem dX9_drawn_0 : decode cX9_drawn 0 = .ok (.aload_n 0, 1) := by decide +kernel
theorem dX9_drawn_1 : decode cX9_drawn 1 = .ok (.iconst 0, 1) := by decide +kernel
theorem dX9_drawn_2 : decode cX9_drawn 2 = .ok (.putfield 83, 3) := by decide +kernel
theorem dX9_drawn_5 : decode cX9_drawn 5 = .ok (.aload_n 0, 1) := by decide +kernel
theorem dX9_drawn_6 : decode cX9_drawn 6 = .ok (.invokevirtual 248, 3) := by decide +kernel
theorem dX9_drawn_9 : decode cX9_drawn 9 = .ok (.ifCond .eq 17, 3) := by decide +kernel
theorem dX9_drawn_12 : decode cX9_drawn 12 = .ok (.iload_n 1, 1) := by decide +kernel
theorem dX9_drawn_13 : decode cX9_drawn 13 = .ok (.invokestatic 466, 3) := by decide +kernel
theorem dX9_drawn_16 : decode cX9_drawn 16 = .ok (.ifCond .eq 10, 3) := by decide +kernel
theorem dX9_drawn_19 : decode cX9_drawn 19 = .ok (.iload_n 2, 1) := by decide +kernel
theorem dX9_drawn_20 : decode cX9_drawn 20 = .ok (.invokestatic 364, 3) := by decide +kernel
theorem dX9_drawn_23 : decode cX9_drawn 23 = .ok (.ifCond .ne 6, 3) := by decide +kernel
theorem dX9_drawn_26 : decode cX9_drawn 26 = .ok (.bipush (-2), 2) := by decide +kernel
theorem dX9_drawn_28 : decode cX9_drawn 28 = .ok (.ireturn, 1) := by decide +kernel
theorem dX9_drawn_29 : decode cX9_drawn 29 = .ok (.aload_n 0, 1) := by decide +kernel
theorem dX9_drawn_30 : decode cX9_drawn 30 = .ok (.iload_n 1, 1) := by decide +kernel
theorem dX9_drawn_31 : decode cX9_drawn 31 = .ok (.i2l, 1) := by decide +kernel
theorem dX9_drawn_32 : decode cX9_drawn 32 = .ok (.invokevirtual 469, 3) := by decide +kernel
theorem dX9_drawn_35 : decode cX9_drawn 35 = .ok (.istore_n 3, 1) := by decide +kernel
theorem dX9_drawn_36 : decode cX9_drawn 36 = .ok (.iload_n 2, 1) := by decide +kernel
theorem dX9_drawn_37 : decode cX9_drawn 37 = .ok (.ifCond .ne 7, 3) := by decide +kernel
theorem dX9_drawn_40 : decode cX9_drawn 40 = .ok (.iload_n 3, 1) := by decide +kernel
theorem dX9_drawn_41 : decode cX9_drawn 41 = .ok (.goto 12, 3) := by decide +kernel
theorem dX9_drawn_44 : decode cX9_drawn 44 = .ok (.aload_n 0, 1) := by decide +kernel
theorem dX9_drawn_45 : decode cX9_drawn 45 = .ok (.getfield 62, 3) := by decide +kernel
theorem dX9_drawn_48 : decode cX9_drawn 48 = .ok (.aload_n 0, 1) := by decide +kernel
theorem dX9_drawn_49 : decode cX9_drawn 49 = .ok (.invokevirtual 251, 3) := by decide +kernel
theorem dX9_drawn_52 : decode cX9_drawn 52 = .ok (.iaload, 1) := by decide +kernel
theorem dX9_drawn_53 : decode cX9_drawn 53 = .ok (.ireturn, 1) := by decide +kernel
theorem dX9_draws_0 : decode cX9_draws 0 = .ok (.aload_n 0, 1) := by decide +kernel
theorem dX9_draws_1 : decode cX9_draws 1 = .ok (.invokevirtual 319, 3) := by decide +kernel
theorem dX9_draws_4 : decode cX9_draws 4 = .ok (.lload_n 1, 1) := by decide +kernel
theorem dX9_draws_5 : decode cX9_draws 5 = .ok (.lstore_n 3, 1) := by decide +kernel
theorem dX9_draws_6 : decode cX9_draws 6 = .ok (.iconst 0, 1) := by decide +kernel
theorem dX9_draws_7 : decode cX9_draws 7 = .ok (.istore 5, 2) := by decide +kernel
theorem dX9_draws_9 : decode cX9_draws 9 = .ok (.iconst 0, 1) := by decide +kernel
theorem dX9_draws_10 : decode cX9_draws 10 = .ok (.istore 6, 2) := by decide +kernel
theorem dX9_draws_12 : decode cX9_draws 12 = .ok (.iload 6, 2) := by decide +kernel
theorem dX9_draws_14 : decode cX9_draws 14 = .ok (.aload_n 0, 1) := by decide +kernel
theorem dX9_draws_15 : decode cX9_draws 15 = .ok (.getfield 34, 3) := by decide +kernel
theorem dX9_draws_18 : decode cX9_draws 18 = .ok (.iconst 5, 1) := by decide +kernel
theorem dX9_draws_19 : decode cX9_draws 19 = .ok (.iaload, 1) := by decide +kernel
theorem dX9_draws_20 : decode cX9_draws 20 = .ok (.if_icmp .ge 56, 3) := by decide +kernel
theorem dX9_draws_23 : decode cX9_draws 23 = .ok (.ldc2_w 456, 3) := by decide +kernel
theorem dX9_draws_26 : decode cX9_draws 26 = .ok (.lload_n 3, 1) := by decide +kernel
theorem dX9_draws_27 : decode cX9_draws 27 = .ok (.lmul, 1) := by decide +kernel
theorem dX9_draws_28 : decode cX9_draws 28 = .ok (.ldc2_w 458, 3) := by decide +kernel
theorem dX9_draws_31 : decode cX9_draws 31 = .ok (.ladd, 1) := by decide +kernel
theorem dX9_draws_32 : decode cX9_draws 32 = .ok (.ldc2_w 460, 3) := by decide +kernel
theorem dX9_draws_35 : decode cX9_draws 35 = .ok (.lrem, 1) := by decide +kernel
theorem dX9_draws_36 : decode cX9_draws 36 = .ok (.lstore_n 3, 1) := by decide +kernel
theorem dX9_draws_37 : decode cX9_draws 37 = .ok (.iload 5, 2) := by decide +kernel
theorem dX9_draws_39 : decode cX9_draws 39 = .ok (.lload_n 3, 1) := by decide +kernel
theorem dX9_draws_40 : decode cX9_draws 40 = .ok (.ldc2_w 462, 3) := by decide +kernel
theorem dX9_draws_43 : decode cX9_draws 43 = .ok (.ldiv, 1) := by decide +kernel
theorem dX9_draws_44 : decode cX9_draws 44 = .ok (.ldc2_w 448, 3) := by decide +kernel
theorem dX9_draws_47 : decode cX9_draws 47 = .ok (.lrem, 1) := by decide +kernel
theorem dX9_draws_48 : decode cX9_draws 48 = .ok (.aload_n 0, 1) := by decide +kernel
theorem dX9_draws_49 : decode cX9_draws 49 = .ok (.getfield 34, 3) := by decide +kernel
theorem dX9_draws_52 : decode cX9_draws 52 = .ok (.iconst 2, 1) := by decide +kernel
theorem dX9_draws_53 : decode cX9_draws 53 = .ok (.iaload, 1) := by decide +kernel
theorem dX9_draws_54 : decode cX9_draws 54 = .ok (.i2l, 1) := by decide +kernel
theorem dX9_draws_55 : decode cX9_draws 55 = .ok (.lcmp, 1) := by decide +kernel
theorem dX9_draws_56 : decode cX9_draws 56 = .ok (.ifCond .ge 10, 3) := by decide +kernel
theorem dX9_draws_59 : decode cX9_draws 59 = .ok (.iconst 1, 1) := by decide +kernel
theorem dX9_draws_60 : decode cX9_draws 60 = .ok (.iload 6, 2) := by decide +kernel
theorem dX9_draws_62 : decode cX9_draws 62 = .ok (.ishl, 1) := by decide +kernel
theorem dX9_draws_63 : decode cX9_draws 63 = .ok (.goto 4, 3) := by decide +kernel
theorem dX9_draws_66 : decode cX9_draws 66 = .ok (.iconst 0, 1) := by decide +kernel
theorem dX9_draws_67 : decode cX9_draws 67 = .ok (.ior, 1) := by decide +kernel
theorem dX9_draws_68 : decode cX9_draws 68 = .ok (.istore 5, 2) := by decide +kernel
theorem dX9_draws_70 : decode cX9_draws 70 = .ok (.iinc 6 1, 3) := by decide +kernel
theorem dX9_draws_73 : decode cX9_draws 73 = .ok (.goto (-61), 3) := by decide +kernel
theorem dX9_draws_76 : decode cX9_draws 76 = .ok (.aload_n 0, 1) := by decide +kernel
theorem dX9_draws_77 : decode cX9_draws 77 = .ok (.iload 5, 2) := by decide +kernel
theorem dX9_draws_79 : decode cX9_draws 79 = .ok (.iconst (-1), 1) := by decide +kernel
theorem dX9_draws_80 : decode cX9_draws 80 = .ok (.ixor, 1) := by decide +kernel
theorem dX9_draws_81 : decode cX9_draws 81 = .ok (.putfield 269, 3) := by decide +kernel
theorem dX9_draws_84 : decode cX9_draws 84 = .ok (.aload_n 0, 1) := by decide +kernel
theorem dX9_draws_85 : decode cX9_draws 85 = .ok (.invokevirtual 322, 3) := by decide +kernel
theorem dX9_draws_88 : decode cX9_draws 88 = .ok (.iload 5, 2) := by decide +kernel
theorem dX9_draws_90 : decode cX9_draws 90 = .ok (.ireturn, 1) := by decide +kernel
theorem dX9_dull_0 : decode cX9_dull 0 = .ok (.aload_n 0, 1) := by decide +kernel
theorem dX9_dull_1 : decode cX9_dull 1 = .ok (.iconst 0, 1) := by decide +kernel
theorem dX9_dull_2 : decode cX9_dull 2 = .ok (.putfield 83, 3) := by decide +kernel
theorem dX9_dull_5 : decode cX9_dull 5 = .ok (.aload_n 0, 1) := by decide +kernel
theorem dX9_dull_6 : decode cX9_dull 6 = .ok (.iload_n 1, 1) := by decide +kernel
theorem dX9_dull_7 : decode cX9_dull 7 = .ok (.i2l, 1) := by decide +kernel
theorem dX9_dull_8 : decode cX9_dull 8 = .ok (.invokevirtual 257, 3) := by decide +kernel
theorem dX9_dull_11 : decode cX9_dull 11 = .ok (.ifCond .ne 6, 3) := by decide +kernel
theorem dX9_dull_14 : decode cX9_dull 14 = .ok (.bipush (-2), 2) := by decide +kernel
theorem dX9_dull_16 : decode cX9_dull 16 = .ok (.ireturn, 1) := by decide +kernel
theorem dX9_dull_17 : decode cX9_dull 17 = .ok (.aload_n 0, 1) := by decide +kernel
theorem dX9_dull_18 : decode cX9_dull 18 = .ok (.invokevirtual 330, 3) := by decide +kernel
theorem dX9_dull_21 : decode cX9_dull 21 = .ok (.iconst 0, 1) := by decide +kernel
theorem dX9_dull_22 : decode cX9_dull 22 = .ok (.istore_n 2, 1) := by decide +kernel
theorem dX9_dull_23 : decode cX9_dull 23 = .ok (.iconst 0, 1) := by decide +kernel
theorem dX9_dull_24 : decode cX9_dull 24 = .ok (.istore_n 3, 1) := by decide +kernel
theorem dX9_dull_25 : decode cX9_dull 25 = .ok (.iload_n 3, 1) := by decide +kernel
theorem dX9_dull_26 : decode cX9_dull 26 = .ok (.aload_n 0, 1) := by decide +kernel
theorem dX9_dull_27 : decode cX9_dull 27 = .ok (.invokevirtual 245, 3) := by decide +kernel
theorem dX9_dull_30 : decode cX9_dull 30 = .ok (.if_icmp .ge 28, 3) := by decide +kernel
theorem dX9_dull_33 : decode cX9_dull 33 = .ok (.iload_n 2, 1) := by decide +kernel
theorem dX9_dull_34 : decode cX9_dull 34 = .ok (.aload_n 0, 1) := by decide +kernel
theorem dX9_dull_35 : decode cX9_dull 35 = .ok (.iload_n 3, 1) := by decide +kernel
theorem dX9_dull_36 : decode cX9_dull 36 = .ok (.iload_n 1, 1) := by decide +kernel
theorem dX9_dull_37 : decode cX9_dull 37 = .ok (.invokevirtual 342, 3) := by decide +kernel
theorem dX9_dull_40 : decode cX9_dull 40 = .ok (.ifCond .ne 9, 3) := by decide +kernel
theorem dX9_dull_43 : decode cX9_dull 43 = .ok (.iconst 1, 1) := by decide +kernel
theorem dX9_dull_44 : decode cX9_dull 44 = .ok (.iload_n 3, 1) := by decide +kernel
theorem dX9_dull_45 : decode cX9_dull 45 = .ok (.ishl, 1) := by decide +kernel
theorem dX9_dull_46 : decode cX9_dull 46 = .ok (.goto 4, 3) := by decide +kernel
theorem dX9_dull_49 : decode cX9_dull 49 = .ok (.iconst 0, 1) := by decide +kernel
theorem dX9_dull_50 : decode cX9_dull 50 = .ok (.ior, 1) := by decide +kernel
theorem dX9_dull_51 : decode cX9_dull 51 = .ok (.istore_n 2, 1) := by decide +kernel
theorem dX9_dull_52 : decode cX9_dull 52 = .ok (.iinc 3 1, 3) := by decide +kernel
theorem dX9_dull_55 : decode cX9_dull 55 = .ok (.goto (-30), 3) := by decide +kernel
theorem dX9_dull_58 : decode cX9_dull 58 = .ok (.iload_n 2, 1) := by decide +kernel
theorem dX9_dull_59 : decode cX9_dull 59 = .ok (.ireturn, 1) := by decide +kernel
theorem dX9_end_0 : decode cX9_end 0 = .ok (.aload_n 0, 1) := by decide +kernel
theorem dX9_end_1 : decode cX9_end 1 = .ok (.iconst 0, 1) := by decide +kernel
theorem dX9_end_2 : decode cX9_end 2 = .ok (.putfield 83, 3) := by decide +kernel
theorem dX9_end_5 : decode cX9_end 5 = .ok (.iload_n 1, 1) := by decide +kernel
theorem dX9_end_6 : decode cX9_end 6 = .ok (.i2l, 1) := by decide +kernel
theorem dX9_end_7 : decode cX9_end 7 = .ok (.lconst 0, 1) := by decide +kernel
theorem dX9_end_8 : decode cX9_end 8 = .ok (.aload_n 0, 1) := by decide +kernel
theorem dX9_end_9 : decode cX9_end 9 = .ok (.getfield 100, 3) := by decide +kernel
theorem dX9_end_12 : decode cX9_end 12 = .ok (.i2l, 1) := by decide +kernel
theorem dX9_end_13 : decode cX9_end 13 = .ok (.invokestatic 88, 3) := by decide +kernel
theorem dX9_end_16 : decode cX9_end 16 = .ok (.ifCond .ne 5, 3) := by decide +kernel
theorem dX9_end_19 : decode cX9_end 19 = .ok (.iconst (-1), 1) := by decide +kernel
theorem dX9_end_20 : decode cX9_end 20 = .ok (.ireturn, 1) := by decide +kernel
theorem dX9_end_21 : decode cX9_end 21 = .ok (.aload_n 0, 1) := by decide +kernel
theorem dX9_end_22 : decode cX9_end 22 = .ok (.iload_n 1, 1) := by decide +kernel
theorem dX9_end_23 : decode cX9_end 23 = .ok (.putfield 100, 3) := by decide +kernel
theorem dX9_end_26 : decode cX9_end 26 = .ok (.iload_n 1, 1) := by decide +kernel
theorem dX9_end_27 : decode cX9_end 27 = .ok (.ireturn, 1) := by decide +kernel
theorem dX9_ends_0 : decode cX9_ends 0 = .ok (.aload_n 0, 1) := by decide +kernel
theorem dX9_ends_1 : decode cX9_ends 1 = .ok (.getfield 124, 3) := by decide +kernel
theorem dX9_ends_4 : decode cX9_ends 4 = .ok (.iconst 3, 1) := by decide +kernel
theorem dX9_ends_5 : decode cX9_ends 5 = .ok (.if_icmp .eq 8, 3) := by decide +kernel
theorem dX9_ends_8 : decode cX9_ends 8 = .ok (.aload_n 0, 1) := by decide +kernel
theorem dX9_ends_9 : decode cX9_ends 9 = .ok (.iconst 1, 1) := by decide +kernel
theorem dX9_ends_10 : decode cX9_ends 10 = .ok (.invokevirtual 151, 3) := by decide +kernel
theorem dX9_ends_13 : decode cX9_ends 13 = .ok (.aload_n 0, 1) := by decide +kernel
theorem dX9_ends_14 : decode cX9_ends 14 = .ok (.getfield 135, 3) := by decide +kernel
theorem dX9_ends_17 : decode cX9_ends 17 = .ok (.ifCond .ne 7, 3) := by decide +kernel
theorem dX9_ends_20 : decode cX9_ends 20 = .ok (.aload_n 0, 1) := by decide +kernel
theorem dX9_ends_21 : decode cX9_ends 21 = .ok (.invokevirtual 145, 3) := by decide +kernel
theorem dX9_ends_24 : decode cX9_ends 24 = .ok (.return_, 1) := by decide +kernel
theorem dX9_every_0 : decode cX9_every 0 = .ok (.iconst 1, 1) := by decide +kernel
theorem dX9_every_1 : decode cX9_every 1 = .ok (.aload_n 0, 1) := by decide +kernel
theorem dX9_every_2 : decode cX9_every 2 = .ok (.invokevirtual 245, 3) := by decide +kernel
theorem dX9_every_5 : decode cX9_every 5 = .ok (.ishl, 1) := by decide +kernel
theorem dX9_every_6 : decode cX9_every 6 = .ok (.iconst 1, 1) := by decide +kernel
theorem dX9_every_7 : decode cX9_every 7 = .ok (.isub, 1) := by decide +kernel
theorem dX9_every_8 : decode cX9_every 8 = .ok (.ireturn, 1) := by decide +kernel
theorem dX9_fails_0 : decode cX9_fails 0 = .ok (.aload_n 0, 1) := by decide +kernel
theorem dX9_fails_1 : decode cX9_fails 1 = .ok (.getfield 135, 3) := by decide +kernel
theorem dX9_fails_4 : decode cX9_fails 4 = .ok (.ifCond .eq 4, 3) := by decide +kernel
theorem dX9_fails_7 : decode cX9_fails 7 = .ok (.return_, 1) := by decide +kernel
theorem dX9_fails_8 : decode cX9_fails 8 = .ok (.aload_n 0, 1) := by decide +kernel
theorem dX9_fails_9 : decode cX9_fails 9 = .ok (.iload_n 1, 1) := by decide +kernel
theorem dX9_fails_10 : decode cX9_fails 10 = .ok (.putfield 135, 3) := by decide +kernel
theorem dX9_fails_13 : decode cX9_fails 13 = .ok (.aload_n 0, 1) := by decide +kernel
theorem dX9_fails_14 : decode cX9_fails 14 = .ok (.aload_n 0, 1) := by decide +kernel
theorem dX9_fails_15 : decode cX9_fails 15 = .ok (.getfield 114, 3) := by decide +kernel
theorem dX9_fails_18 : decode cX9_fails 18 = .ok (.putfield 138, 3) := by decide +kernel
theorem dX9_fails_21 : decode cX9_fails 21 = .ok (.return_, 1) := by decide +kernel
theorem dX9_far_0 : decode cX9_far 0 = .ok (.aload_n 0, 1) := by decide +kernel
theorem dX9_far_1 : decode cX9_far 1 = .ok (.iconst 0, 1) := by decide +kernel
theorem dX9_far_2 : decode cX9_far 2 = .ok (.putfield 83, 3) := by decide +kernel
theorem dX9_far_5 : decode cX9_far 5 = .ok (.aload_n 0, 1) := by decide +kernel
theorem dX9_far_6 : decode cX9_far 6 = .ok (.iload_n 1, 1) := by decide +kernel
theorem dX9_far_7 : decode cX9_far 7 = .ok (.i2l, 1) := by decide +kernel
theorem dX9_far_8 : decode cX9_far 8 = .ok (.invokevirtual 254, 3) := by decide +kernel
theorem dX9_far_11 : decode cX9_far 11 = .ok (.ifCond .eq 12, 3) := by decide +kernel
theorem dX9_far_14 : decode cX9_far 14 = .ok (.aload_n 0, 1) := by decide +kernel
theorem dX9_far_15 : decode cX9_far 15 = .ok (.iload_n 2, 1) := by decide +kernel
theorem dX9_far_16 : decode cX9_far 16 = .ok (.i2l, 1) := by decide +kernel
theorem dX9_far_17 : decode cX9_far 17 = .ok (.invokevirtual 254, 3) := by decide +kernel
theorem dX9_far_20 : decode cX9_far 20 = .ok (.ifCond .ne 6, 3) := by decide +kernel
theorem dX9_far_23 : decode cX9_far 23 = .ok (.bipush (-2), 2) := by decide +kernel
theorem dX9_far_25 : decode cX9_far 25 = .ok (.ireturn, 1) := by decide +kernel
theorem dX9_far_26 : decode cX9_far 26 = .ok (.aload_n 0, 1) := by decide +kernel
theorem dX9_far_27 : decode cX9_far 27 = .ok (.invokevirtual 319, 3) := by decide +kernel
theorem dX9_far_30 : decode cX9_far 30 = .ok (.iconst 1, 1) := by decide +kernel
theorem dX9_far_31 : decode cX9_far 31 = .ok (.iload_n 1, 1) := by decide +kernel
theorem dX9_far_32 : decode cX9_far 32 = .ok (.ishl, 1) := by decide +kernel
theorem dX9_far_33 : decode cX9_far 33 = .ok (.istore_n 3, 1) := by decide +kernel
theorem dX9_far_34 : decode cX9_far 34 = .ok (.iconst 0, 1) := by decide +kernel
theorem dX9_far_35 : decode cX9_far 35 = .ok (.istore 4, 2) := by decide +kernel
theorem dX9_far_37 : decode cX9_far 37 = .ok (.iload 4, 2) := by decide +kernel
theorem dX9_far_39 : decode cX9_far 39 = .ok (.aload_n 0, 1) := by decide +kernel
theorem dX9_far_40 : decode cX9_far 40 = .ok (.invokevirtual 245, 3) := by decide +kernel
theorem dX9_far_43 : decode cX9_far 43 = .ok (.if_icmp .ge 68, 3) := by decide +kernel
theorem dX9_far_46 : decode cX9_far 46 = .ok (.iload_n 3, 1) := by decide +kernel
theorem dX9_far_47 : decode cX9_far 47 = .ok (.iload_n 2, 1) := by decide +kernel
theorem dX9_far_48 : decode cX9_far 48 = .ok (.invokestatic 282, 3) := by decide +kernel
theorem dX9_far_51 : decode cX9_far 51 = .ok (.ifCond .eq 6, 3) := by decide +kernel
theorem dX9_far_54 : decode cX9_far 54 = .ok (.iload 4, 2) := by decide +kernel
theorem dX9_far_56 : decode cX9_far 56 = .ok (.ireturn, 1) := by decide +kernel
theorem dX9_far_57 : decode cX9_far 57 = .ok (.iload_n 3, 1) := by decide +kernel
theorem dX9_far_58 : decode cX9_far 58 = .ok (.istore 5, 2) := by decide +kernel
theorem dX9_far_60 : decode cX9_far 60 = .ok (.iconst 0, 1) := by decide +kernel
theorem dX9_far_61 : decode cX9_far 61 = .ok (.istore 6, 2) := by decide +kernel
theorem dX9_far_63 : decode cX9_far 63 = .ok (.iload 6, 2) := by decide +kernel
theorem dX9_far_65 : decode cX9_far 65 = .ok (.aload_n 0, 1) := by decide +kernel
theorem dX9_far_66 : decode cX9_far 66 = .ok (.invokevirtual 245, 3) := by decide +kernel
theorem dX9_far_69 : decode cX9_far 69 = .ok (.if_icmp .ge 33, 3) := by decide +kernel
theorem dX9_far_72 : decode cX9_far 72 = .ok (.iload 5, 2) := by decide +kernel
theorem dX9_far_74 : decode cX9_far 74 = .ok (.iload_n 3, 1) := by decide +kernel
theorem dX9_far_75 : decode cX9_far 75 = .ok (.iload 6, 2) := by decide +kernel
theorem dX9_far_77 : decode cX9_far 77 = .ok (.invokestatic 282, 3) := by decide +kernel
theorem dX9_far_80 : decode cX9_far 80 = .ok (.ifCond .eq 12, 3) := by decide +kernel
theorem dX9_far_83 : decode cX9_far 83 = .ok (.aload_n 0, 1) := by decide +kernel
theorem dX9_far_84 : decode cX9_far 84 = .ok (.iload 6, 2) := by decide +kernel
theorem dX9_far_86 : decode cX9_far 86 = .ok (.invokevirtual 292, 3) := by decide +kernel
theorem dX9_far_89 : decode cX9_far 89 = .ok (.goto 4, 3) := by decide +kernel
theorem dX9_far_92 : decode cX9_far 92 = .ok (.iconst 0, 1) := by decide +kernel
theorem dX9_far_93 : decode cX9_far 93 = .ok (.ior, 1) := by decide +kernel
theorem dX9_far_94 : decode cX9_far 94 = .ok (.istore 5, 2) := by decide +kernel
theorem dX9_far_96 : decode cX9_far 96 = .ok (.iinc 6 1, 3) := by decide +kernel
theorem dX9_far_99 : decode cX9_far 99 = .ok (.goto (-36), 3) := by decide +kernel
theorem dX9_far_102 : decode cX9_far 102 = .ok (.iload 5, 2) := by decide +kernel
theorem dX9_far_104 : decode cX9_far 104 = .ok (.istore_n 3, 1) := by decide +kernel
theorem dX9_far_105 : decode cX9_far 105 = .ok (.iinc 4 1, 3) := by decide +kernel
theorem dX9_far_108 : decode cX9_far 108 = .ok (.goto (-71), 3) := by decide +kernel
theorem dX9_far_111 : decode cX9_far 111 = .ok (.iconst (-1), 1) := by decide +kernel
theorem dX9_far_112 : decode cX9_far 112 = .ok (.ireturn, 1) := by decide +kernel
theorem dX9_fault_0 : decode cX9_fault 0 = .ok (.aload_n 0, 1) := by decide +kernel
theorem dX9_fault_1 : decode cX9_fault 1 = .ok (.iconst 0, 1) := by decide +kernel
theorem dX9_fault_2 : decode cX9_fault 2 = .ok (.putfield 83, 3) := by decide +kernel
theorem dX9_fault_5 : decode cX9_fault 5 = .ok (.iload_n 1, 1) := by decide +kernel
theorem dX9_fault_6 : decode cX9_fault 6 = .ok (.ifCond .ne 10, 3) := by decide +kernel
theorem dX9_fault_9 : decode cX9_fault 9 = .ok (.aload_n 0, 1) := by decide +kernel
theorem dX9_fault_10 : decode cX9_fault 10 = .ok (.getfield 162, 3) := by decide +kernel
theorem dX9_fault_13 : decode cX9_fault 13 = .ok (.goto 16, 3) := by decide +kernel
theorem dX9_fault_16 : decode cX9_fault 16 = .ok (.iload_n 1, 1) := by decide +kernel
theorem dX9_fault_17 : decode cX9_fault 17 = .ok (.iconst 1, 1) := by decide +kernel
theorem dX9_fault_18 : decode cX9_fault 18 = .ok (.if_icmp .ne 10, 3) := by decide +kernel
theorem dX9_fault_21 : decode cX9_fault 21 = .ok (.aload_n 0, 1) := by decide +kernel
theorem dX9_fault_22 : decode cX9_fault 22 = .ok (.getfield 27, 3) := by decide +kernel
theorem dX9_fault_25 : decode cX9_fault 25 = .ok (.goto 4, 3) := by decide +kernel
theorem dX9_fault_28 : decode cX9_fault 28 = .ok (.iconst (-1), 1) := by decide +kernel
theorem dX9_fault_29 : decode cX9_fault 29 = .ok (.ireturn, 1) := by decide +kernel
theorem dX9_feed_0 : decode cX9_feed 0 = .ok (.aload_n 0, 1) := by decide +kernel
theorem dX9_feed_1 : decode cX9_feed 1 = .ok (.iconst 0, 1) := by decide +kernel
theorem dX9_feed_2 : decode cX9_feed 2 = .ok (.putfield 83, 3) := by decide +kernel
theorem dX9_feed_5 : decode cX9_feed 5 = .ok (.aload_n 0, 1) := by decide +kernel
theorem dX9_feed_6 : decode cX9_feed 6 = .ok (.getfield 100, 3) := by decide +kernel
theorem dX9_feed_9 : decode cX9_feed 9 = .ok (.bipush 20, 2) := by decide +kernel
theorem dX9_feed_11 : decode cX9_feed 11 = .ok (.iadd, 1) := by decide +kernel
theorem dX9_feed_12 : decode cX9_feed 12 = .ok (.sipush 700, 3) := by decide +kernel
theorem dX9_feed_15 : decode cX9_feed 15 = .ok (.if_icmp .le 5, 3) := by decide +kernel
theorem dX9_feed_18 : decode cX9_feed 18 = .ok (.iconst (-1), 1) := by decide +kernel
theorem dX9_feed_19 : decode cX9_feed 19 = .ok (.ireturn, 1) := by decide +kernel
theorem dX9_feed_20 : decode cX9_feed 20 = .ok (.aload_n 0, 1) := by decide +kernel
theorem dX9_feed_21 : decode cX9_feed 21 = .ok (.iload_n 1, 1) := by decide +kernel
theorem dX9_feed_22 : decode cX9_feed 22 = .ok (.invokevirtual 103, 3) := by decide +kernel
theorem dX9_feed_25 : decode cX9_feed 25 = .ok (.aload_n 0, 1) := by decide +kernel
theorem dX9_feed_26 : decode cX9_feed 26 = .ok (.iload_n 2, 1) := by decide +kernel
theorem dX9_feed_27 : decode cX9_feed 27 = .ok (.invokevirtual 103, 3) := by decide +kernel
theorem dX9_feed_30 : decode cX9_feed 30 = .ok (.aload_n 0, 1) := by decide +kernel
theorem dX9_feed_31 : decode cX9_feed 31 = .ok (.iload_n 3, 1) := by decide +kernel
theorem dX9_feed_32 : decode cX9_feed 32 = .ok (.invokevirtual 103, 3) := by decide +kernel
theorem dX9_feed_35 : decode cX9_feed 35 = .ok (.aload_n 0, 1) := by decide +kernel
theorem dX9_feed_36 : decode cX9_feed 36 = .ok (.iload 4, 2) := by decide +kernel
theorem dX9_feed_38 : decode cX9_feed 38 = .ok (.invokevirtual 103, 3) := by decide +kernel
theorem dX9_feed_41 : decode cX9_feed 41 = .ok (.aload_n 0, 1) := by decide +kernel
theorem dX9_feed_42 : decode cX9_feed 42 = .ok (.iload 5, 2) := by decide +kernel
theorem dX9_feed_44 : decode cX9_feed 44 = .ok (.invokevirtual 103, 3) := by decide +kernel
theorem dX9_feed_47 : decode cX9_feed 47 = .ok (.aload_n 0, 1) := by decide +kernel
theorem dX9_feed_48 : decode cX9_feed 48 = .ok (.getfield 100, 3) := by decide +kernel
theorem dX9_feed_51 : decode cX9_feed 51 = .ok (.ireturn, 1) := by decide +kernel
theorem dX9_few_0 : decode cX9_few 0 = .ok (.aload_n 0, 1) := by decide +kernel
theorem dX9_few_1 : decode cX9_few 1 = .ok (.iconst 0, 1) := by decide +kernel
theorem dX9_few_2 : decode cX9_few 2 = .ok (.putfield 83, 3) := by decide +kernel
theorem dX9_few_5 : decode cX9_few 5 = .ok (.aload_n 0, 1) := by decide +kernel
theorem dX9_few_6 : decode cX9_few 6 = .ok (.invokevirtual 248, 3) := by decide +kernel
theorem dX9_few_9 : decode cX9_few 9 = .ok (.ifCond .eq 13, 3) := by decide +kernel
theorem dX9_few_12 : decode cX9_few 12 = .ok (.aload_n 0, 1) := by decide +kernel
theorem dX9_few_13 : decode cX9_few 13 = .ok (.invokevirtual 354, 3) := by decide +kernel
theorem dX9_few_16 : decode cX9_few 16 = .ok (.invokestatic 295, 3) := by decide +kernel
theorem dX9_few_19 : decode cX9_few 19 = .ok (.goto 5, 3) := by decide +kernel
theorem dX9_few_22 : decode cX9_few 22 = .ok (.bipush (-2), 2) := by decide +kernel
theorem dX9_few_24 : decode cX9_few 24 = .ok (.ireturn, 1) := by decide +kernel
theorem dX9_fewOf_0 : decode cX9_fewOf 0 = .ok (.aload_n 0, 1) := by decide +kernel
theorem dX9_fewOf_1 : decode cX9_fewOf 1 = .ok (.invokevirtual 345, 3) := by decide +kernel
theorem dX9_fewOf_4 : decode cX9_fewOf 4 = .ok (.istore_n 1, 1) := by decide +kernel
theorem dX9_fewOf_5 : decode cX9_fewOf 5 = .ok (.iconst 0, 1) := by decide +kernel
theorem dX9_fewOf_6 : decode cX9_fewOf 6 = .ok (.istore_n 2, 1) := by decide +kernel
theorem dX9_fewOf_7 : decode cX9_fewOf 7 = .ok (.iload_n 2, 1) := by decide +kernel
theorem dX9_fewOf_8 : decode cX9_fewOf 8 = .ok (.aload_n 0, 1) := by decide +kernel
theorem dX9_fewOf_9 : decode cX9_fewOf 9 = .ok (.invokevirtual 345, 3) := by decide +kernel
theorem dX9_fewOf_12 : decode cX9_fewOf 12 = .ok (.if_icmp .ge 47, 3) := by decide +kernel
theorem dX9_fewOf_15 : decode cX9_fewOf 15 = .ok (.iload_n 2, 1) := by decide +kernel
theorem dX9_fewOf_16 : decode cX9_fewOf 16 = .ok (.invokestatic 295, 3) := by decide +kernel
theorem dX9_fewOf_19 : decode cX9_fewOf 19 = .ok (.iload_n 1, 1) := by decide +kernel
theorem dX9_fewOf_20 : decode cX9_fewOf 20 = .ok (.invokestatic 295, 3) := by decide +kernel
theorem dX9_fewOf_23 : decode cX9_fewOf 23 = .ok (.if_icmp .lt 6, 3) := by decide +kernel
theorem dX9_fewOf_26 : decode cX9_fewOf 26 = .ok (.goto 27, 3) := by decide +kernel
theorem dX9_fewOf_29 : decode cX9_fewOf 29 = .ok (.aload_n 0, 1) := by decide +kernel
theorem dX9_fewOf_30 : decode cX9_fewOf 30 = .ok (.iload_n 2, 1) := by decide +kernel
theorem dX9_fewOf_31 : decode cX9_fewOf 31 = .ok (.invokevirtual 351, 3) := by decide +kernel
theorem dX9_fewOf_34 : decode cX9_fewOf 34 = .ok (.pop, 1) := by decide +kernel
theorem dX9_fewOf_35 : decode cX9_fewOf 35 = .ok (.aload_n 0, 1) := by decide +kernel
theorem dX9_fewOf_36 : decode cX9_fewOf 36 = .ok (.getfield 62, 3) := by decide +kernel
theorem dX9_fewOf_39 : decode cX9_fewOf 39 = .ok (.aload_n 0, 1) := by decide +kernel
theorem dX9_fewOf_40 : decode cX9_fewOf 40 = .ok (.invokevirtual 251, 3) := by decide +kernel
theorem dX9_fewOf_43 : decode cX9_fewOf 43 = .ok (.iaload, 1) := by decide +kernel
theorem dX9_fewOf_44 : decode cX9_fewOf 44 = .ok (.aload_n 0, 1) := by decide +kernel
theorem dX9_fewOf_45 : decode cX9_fewOf 45 = .ok (.invokevirtual 345, 3) := by decide +kernel
theorem dX9_fewOf_48 : decode cX9_fewOf 48 = .ok (.if_icmp .ne 5, 3) := by decide +kernel
theorem dX9_fewOf_51 : decode cX9_fewOf 51 = .ok (.iload_n 2, 1) := by decide +kernel
theorem dX9_fewOf_52 : decode cX9_fewOf 52 = .ok (.istore_n 1, 1) := by decide +kernel
theorem dX9_fewOf_53 : decode cX9_fewOf 53 = .ok (.iinc 2 1, 3) := by decide +kernel
theorem dX9_fewOf_56 : decode cX9_fewOf 56 = .ok (.goto (-49), 3) := by decide +kernel
theorem dX9_fewOf_59 : decode cX9_fewOf 59 = .ok (.iload_n 1, 1) := by decide +kernel
theorem dX9_fewOf_60 : decode cX9_fewOf 60 = .ok (.ireturn, 1) := by decide +kernel
theorem dX9_fews_0 : decode cX9_fews 0 = .ok (.aload_n 0, 1) := by decide +kernel
theorem dX9_fews_1 : decode cX9_fews 1 = .ok (.iconst 0, 1) := by decide +kernel
theorem dX9_fews_2 : decode cX9_fews 2 = .ok (.putfield 83, 3) := by decide +kernel
theorem dX9_fews_5 : decode cX9_fews 5 = .ok (.aload_n 0, 1) := by decide +kernel
theorem dX9_fews_6 : decode cX9_fews 6 = .ok (.invokevirtual 248, 3) := by decide +kernel
theorem dX9_fews_9 : decode cX9_fews 9 = .ok (.ifCond .eq 10, 3) := by decide +kernel
theorem dX9_fews_12 : decode cX9_fews 12 = .ok (.aload_n 0, 1) := by decide +kernel
theorem dX9_fews_13 : decode cX9_fews 13 = .ok (.invokevirtual 354, 3) := by decide +kernel
theorem dX9_fews_16 : decode cX9_fews 16 = .ok (.goto 5, 3) := by decide +kernel
theorem dX9_fews_19 : decode cX9_fews 19 = .ok (.bipush (-2), 2) := by decide +kernel
theorem dX9_fews_21 : decode cX9_fews 21 = .ok (.ireturn, 1) := by decide +kernel
theorem dX9_first_0 : decode cX9_first 0 = .ok (.aload_n 0, 1) := by decide +kernel
theorem dX9_first_1 : decode cX9_first 1 = .ok (.iconst 0, 1) := by decide +kernel
theorem dX9_first_2 : decode cX9_first 2 = .ok (.putfield 83, 3) := by decide +kernel
theorem dX9_first_5 : decode cX9_first 5 = .ok (.aload_n 0, 1) := by decide +kernel
theorem dX9_first_6 : decode cX9_first 6 = .ok (.invokevirtual 248, 3) := by decide +kernel
theorem dX9_first_9 : decode cX9_first 9 = .ok (.ifCond .ne 6, 3) := by decide +kernel
theorem dX9_first_12 : decode cX9_first 12 = .ok (.bipush (-2), 2) := by decide +kernel
theorem dX9_first_14 : decode cX9_first 14 = .ok (.ireturn, 1) := by decide +kernel
theorem dX9_first_15 : decode cX9_first 15 = .ok (.aload_n 0, 1) := by decide +kernel
theorem dX9_first_16 : decode cX9_first 16 = .ok (.invokevirtual 330, 3) := by decide +kernel
theorem dX9_first_19 : decode cX9_first 19 = .ok (.iconst 0, 1) := by decide +kernel
theorem dX9_first_20 : decode cX9_first 20 = .ok (.istore_n 1, 1) := by decide +kernel
theorem dX9_first_21 : decode cX9_first 21 = .ok (.iload_n 1, 1) := by decide +kernel
theorem dX9_first_22 : decode cX9_first 22 = .ok (.aload_n 0, 1) := by decide +kernel
theorem dX9_first_23 : decode cX9_first 23 = .ok (.invokevirtual 251, 3) := by decide +kernel
theorem dX9_first_26 : decode cX9_first 26 = .ok (.if_icmp .ge 19, 3) := by decide +kernel
theorem dX9_first_29 : decode cX9_first 29 = .ok (.aload_n 0, 1) := by decide +kernel
theorem dX9_first_30 : decode cX9_first 30 = .ok (.iload_n 1, 1) := by decide +kernel
theorem dX9_first_31 : decode cX9_first 31 = .ok (.invokevirtual 348, 3) := by decide +kernel
theorem dX9_first_34 : decode cX9_first 34 = .ok (.ifCond .eq 5, 3) := by decide +kernel
theorem dX9_first_37 : decode cX9_first 37 = .ok (.iload_n 1, 1) := by decide +kernel
theorem dX9_first_38 : decode cX9_first 38 = .ok (.ireturn, 1) := by decide +kernel
theorem dX9_first_39 : decode cX9_first 39 = .ok (.iinc 1 1, 3) := by decide +kernel
theorem dX9_first_42 : decode cX9_first 42 = .ok (.goto (-21), 3) := by decide +kernel
theorem dX9_first_45 : decode cX9_first 45 = .ok (.iconst (-1), 1) := by decide +kernel
theorem dX9_first_46 : decode cX9_first 46 = .ok (.ireturn, 1) := by decide +kernel
theorem dX9_foldLine_0 : decode cX9_foldLine 0 = .ok (.iconst 2, 1) := by decide +kernel
theorem dX9_foldLine_1 : decode cX9_foldLine 1 = .ok (.bipush 40, 2) := by decide +kernel
theorem dX9_foldLine_3 : decode cX9_foldLine 3 = .ok (.aload_n 0, 1) := by decide +kernel
theorem dX9_foldLine_4 : decode cX9_foldLine 4 = .ok (.iconst 4, 1) := by decide +kernel
theorem dX9_foldLine_5 : decode cX9_foldLine 5 = .ok (.invokevirtual 165, 3) := by decide +kernel
theorem dX9_foldLine_8 : decode cX9_foldLine 8 = .ok (.iadd, 1) := by decide +kernel
theorem dX9_foldLine_9 : decode cX9_foldLine 9 = .ok (.imul, 1) := by decide +kernel
theorem dX9_foldLine_10 : decode cX9_foldLine 10 = .ok (.istore_n 1, 1) := by decide +kernel
theorem dX9_foldLine_11 : decode cX9_foldLine 11 = .ok (.aload_n 0, 1) := by decide +kernel
theorem dX9_foldLine_12 : decode cX9_foldLine 12 = .ok (.getfield 40, 3) := by decide +kernel
theorem dX9_foldLine_15 : decode cX9_foldLine 15 = .ok (.iload_n 1, 1) := by decide +kernel
theorem dX9_foldLine_16 : decode cX9_foldLine 16 = .ok (.aload_n 0, 1) := by decide +kernel
theorem dX9_foldLine_17 : decode cX9_foldLine 17 = .ok (.invokevirtual 182, 3) := by decide +kernel
theorem dX9_foldLine_20 : decode cX9_foldLine 20 = .ok (.iastore, 1) := by decide +kernel
theorem dX9_foldLine_21 : decode cX9_foldLine 21 = .ok (.aload_n 0, 1) := by decide +kernel
theorem dX9_foldLine_22 : decode cX9_foldLine 22 = .ok (.getfield 135, 3) := by decide +kernel
theorem dX9_foldLine_25 : decode cX9_foldLine 25 = .ok (.ifCond .ne 46, 3) := by decide +kernel
theorem dX9_foldLine_28 : decode cX9_foldLine 28 = .ok (.aload_n 0, 1) := by decide +kernel
theorem dX9_foldLine_29 : decode cX9_foldLine 29 = .ok (.getfield 124, 3) := by decide +kernel
theorem dX9_foldLine_32 : decode cX9_foldLine 32 = .ok (.iconst 2, 1) := by decide +kernel
theorem dX9_foldLine_33 : decode cX9_foldLine 33 = .ok (.if_icmp .ne 38, 3) := by decide +kernel
theorem dX9_foldLine_36 : decode cX9_foldLine 36 = .ok (.aload_n 0, 1) := by decide +kernel
theorem dX9_foldLine_37 : decode cX9_foldLine 37 = .ok (.getfield 117, 3) := by decide +kernel
theorem dX9_foldLine_40 : decode cX9_foldLine 40 = .ok (.aload_n 0, 1) := by decide +kernel
theorem dX9_foldLine_41 : decode cX9_foldLine 41 = .ok (.getfield 40, 3) := by decide +kernel
theorem dX9_foldLine_44 : decode cX9_foldLine 44 = .ok (.iload_n 1, 1) := by decide +kernel
theorem dX9_foldLine_45 : decode cX9_foldLine 45 = .ok (.iaload, 1) := by decide +kernel
theorem dX9_foldLine_46 : decode cX9_foldLine 46 = .ok (.if_icmp .eq 20, 3) := by decide +kernel
theorem dX9_foldLine_49 : decode cX9_foldLine 49 = .ok (.aload_n 0, 1) := by decide +kernel
theorem dX9_foldLine_50 : decode cX9_foldLine 50 = .ok (.aload_n 0, 1) := by decide +kernel
theorem dX9_foldLine_51 : decode cX9_foldLine 51 = .ok (.getfield 40, 3) := by decide +kernel
theorem dX9_foldLine_54 : decode cX9_foldLine 54 = .ok (.iload_n 1, 1) := by decide +kernel
theorem dX9_foldLine_55 : decode cX9_foldLine 55 = .ok (.iaload, 1) := by decide +kernel
theorem dX9_foldLine_56 : decode cX9_foldLine 56 = .ok (.aload_n 0, 1) := by decide +kernel
theorem dX9_foldLine_57 : decode cX9_foldLine 57 = .ok (.getfield 117, 3) := by decide +kernel
theorem dX9_foldLine_60 : decode cX9_foldLine 60 = .ok (.invokevirtual 186, 3) := by decide +kernel
theorem dX9_foldLine_63 : decode cX9_foldLine 63 = .ok (.ifCond .eq 8, 3) := by decide +kernel
theorem dX9_foldLine_66 : decode cX9_foldLine 66 = .ok (.aload_n 0, 1) := by decide +kernel
theorem dX9_foldLine_67 : decode cX9_foldLine 67 = .ok (.iconst 2, 1) := by decide +kernel
theorem dX9_foldLine_68 : decode cX9_foldLine 68 = .ok (.invokevirtual 151, 3) := by decide +kernel
theorem dX9_foldLine_71 : decode cX9_foldLine 71 = .ok (.aload_n 0, 1) := by decide +kernel
theorem dX9_foldLine_72 : decode cX9_foldLine 72 = .ok (.getfield 40, 3) := by decide +kernel
theorem dX9_foldLine_75 : decode cX9_foldLine 75 = .ok (.iload_n 1, 1) := by decide +kernel
theorem dX9_foldLine_76 : decode cX9_foldLine 76 = .ok (.iconst 1, 1) := by decide +kernel
theorem dX9_foldLine_77 : decode cX9_foldLine 77 = .ok (.iadd, 1) := by decide +kernel
theorem dX9_foldLine_78 : decode cX9_foldLine 78 = .ok (.aload_n 0, 1) := by decide +kernel
theorem dX9_foldLine_79 : decode cX9_foldLine 79 = .ok (.invokevirtual 182, 3) := by decide +kernel
theorem dX9_foldLine_82 : decode cX9_foldLine 82 = .ok (.iastore, 1) := by decide +kernel
theorem dX9_foldLine_83 : decode cX9_foldLine 83 = .ok (.aload_n 0, 1) := by decide +kernel
theorem dX9_foldLine_84 : decode cX9_foldLine 84 = .ok (.iconst 4, 1) := by decide +kernel
theorem dX9_foldLine_85 : decode cX9_foldLine 85 = .ok (.aload_n 0, 1) := by decide +kernel
theorem dX9_foldLine_86 : decode cX9_foldLine 86 = .ok (.iconst 4, 1) := by decide +kernel
theorem dX9_foldLine_87 : decode cX9_foldLine 87 = .ok (.invokevirtual 165, 3) := by decide +kernel
theorem dX9_foldLine_90 : decode cX9_foldLine 90 = .ok (.iconst 1, 1) := by decide +kernel
theorem dX9_foldLine_91 : decode cX9_foldLine 91 = .ok (.iadd, 1) := by decide +kernel
theorem dX9_foldLine_92 : decode cX9_foldLine 92 = .ok (.invokevirtual 178, 3) := by decide +kernel
theorem dX9_foldLine_95 : decode cX9_foldLine 95 = .ok (.return_, 1) := by decide +kernel
theorem dX9_follows_0 : decode cX9_follows 0 = .ok (.aload_n 0, 1) := by decide +kernel
theorem dX9_follows_1 : decode cX9_follows 1 = .ok (.aload_n 0, 1) := by decide +kernel
theorem dX9_follows_2 : decode cX9_follows 2 = .ok (.getfield 107, 3) := by decide +kernel
theorem dX9_follows_5 : decode cX9_follows 5 = .ok (.bipush 32, 2) := by decide +kernel
theorem dX9_follows_7 : decode cX9_follows 7 = .ok (.bipush 32, 2) := by decide +kernel
theorem dX9_follows_9 : decode cX9_follows 9 = .ok (.invokevirtual 110, 3) := by decide +kernel
theorem dX9_follows_12 : decode cX9_follows 12 = .ok (.ifCond .ne 18, 3) := by decide +kernel
theorem dX9_follows_15 : decode cX9_follows 15 = .ok (.aload_n 0, 1) := by decide +kernel
theorem dX9_follows_16 : decode cX9_follows 16 = .ok (.aload_n 0, 1) := by decide +kernel
theorem dX9_follows_17 : decode cX9_follows 17 = .ok (.getfield 107, 3) := by decide +kernel
theorem dX9_follows_20 : decode cX9_follows 20 = .ok (.bipush 10, 2) := by decide +kernel
theorem dX9_follows_22 : decode cX9_follows 22 = .ok (.bipush 10, 2) := by decide +kernel
theorem dX9_follows_24 : decode cX9_follows 24 = .ok (.invokevirtual 110, 3) := by decide +kernel
theorem dX9_follows_27 : decode cX9_follows 27 = .ok (.ifCond .eq 16, 3) := by decide +kernel
theorem dX9_follows_30 : decode cX9_follows 30 = .ok (.aload_n 0, 1) := by decide +kernel
theorem dX9_follows_31 : decode cX9_follows 31 = .ok (.dup, 1) := by decide +kernel
theorem dX9_follows_32 : decode cX9_follows 32 = .ok (.getfield 107, 3) := by decide +kernel
theorem dX9_follows_35 : decode cX9_follows 35 = .ok (.iconst 1, 1) := by decide +kernel
theorem dX9_follows_36 : decode cX9_follows 36 = .ok (.iadd, 1) := by decide +kernel
theorem dX9_follows_37 : decode cX9_follows 37 = .ok (.putfield 107, 3) := by decide +kernel
theorem dX9_follows_40 : decode cX9_follows 40 = .ok (.goto (-40), 3) := by decide +kernel
theorem dX9_follows_43 : decode cX9_follows 43 = .ok (.aload_n 0, 1) := by decide +kernel
theorem dX9_follows_44 : decode cX9_follows 44 = .ok (.aload_n 0, 1) := by decide +kernel
theorem dX9_follows_45 : decode cX9_follows 45 = .ok (.getfield 107, 3) := by decide +kernel
theorem dX9_follows_48 : decode cX9_follows 48 = .ok (.putfield 114, 3) := by decide +kernel
theorem dX9_follows_51 : decode cX9_follows 51 = .ok (.aload_n 0, 1) := by decide +kernel
theorem dX9_follows_52 : decode cX9_follows 52 = .ok (.iconst 0, 1) := by decide +kernel
theorem dX9_follows_53 : decode cX9_follows 53 = .ok (.putfield 117, 3) := by decide +kernel
theorem dX9_follows_56 : decode cX9_follows 56 = .ok (.aload_n 0, 1) := by decide +kernel
theorem dX9_follows_57 : decode cX9_follows 57 = .ok (.lconst 0, 1) := by decide +kernel
theorem dX9_follows_58 : decode cX9_follows 58 = .ok (.putfield 120, 3) := by decide +kernel
theorem dX9_follows_61 : decode cX9_follows 61 = .ok (.aload_n 0, 1) := by decide +kernel
theorem dX9_follows_62 : decode cX9_follows 62 = .ok (.getfield 107, 3) := by decide +kernel
theorem dX9_follows_65 : decode cX9_follows 65 = .ok (.aload_n 0, 1) := by decide +kernel
theorem dX9_follows_66 : decode cX9_follows 66 = .ok (.getfield 100, 3) := by decide +kernel
theorem dX9_follows_69 : decode cX9_follows 69 = .ok (.if_icmp .ne 11, 3) := by decide +kernel
theorem dX9_follows_72 : decode cX9_follows 72 = .ok (.aload_n 0, 1) := by decide +kernel
theorem dX9_follows_73 : decode cX9_follows 73 = .ok (.iconst 0, 1) := by decide +kernel
theorem dX9_follows_74 : decode cX9_follows 74 = .ok (.putfield 124, 3) := by decide +kernel
theorem dX9_follows_77 : decode cX9_follows 77 = .ok (.goto 230, 3) := by decide +kernel
theorem dX9_follows_80 : decode cX9_follows 80 = .ok (.aload_n 0, 1) := by decide +kernel
theorem dX9_follows_81 : decode cX9_follows 81 = .ok (.aload_n 0, 1) := by decide +kernel
theorem dX9_follows_82 : decode cX9_follows 82 = .ok (.getfield 107, 3) := by decide +kernel
theorem dX9_follows_85 : decode cX9_follows 85 = .ok (.bipush 97, 2) := by decide +kernel
theorem dX9_follows_87 : decode cX9_follows 87 = .ok (.bipush 122, 2) := by decide +kernel
theorem dX9_follows_89 : decode cX9_follows 89 = .ok (.invokevirtual 110, 3) := by decide +kernel
theorem dX9_follows_92 : decode cX9_follows 92 = .ok (.ifCond .eq 96, 3) := by decide +kernel
theorem dX9_follows_95 : decode cX9_follows 95 = .ok (.aload_n 0, 1) := by decide +kernel
theorem dX9_follows_96 : decode cX9_follows 96 = .ok (.iconst 1, 1) := by decide +kernel
theorem dX9_follows_97 : decode cX9_follows 97 = .ok (.putfield 124, 3) := by decide +kernel
theorem dX9_follows_100 : decode cX9_follows 100 = .ok (.iconst 0, 1) := by decide +kernel
theorem dX9_follows_101 : decode cX9_follows 101 = .ok (.istore_n 1, 1) := by decide +kernel
theorem dX9_follows_102 : decode cX9_follows 102 = .ok (.aload_n 0, 1) := by decide +kernel
theorem dX9_follows_103 : decode cX9_follows 103 = .ok (.aload_n 0, 1) := by decide +kernel
theorem dX9_follows_104 : decode cX9_follows 104 = .ok (.getfield 107, 3) := by decide +kernel
theorem dX9_follows_107 : decode cX9_follows 107 = .ok (.bipush 97, 2) := by decide +kernel
theorem dX9_follows_109 : decode cX9_follows 109 = .ok (.bipush 122, 2) := by decide +kernel
theorem dX9_follows_111 : decode cX9_follows 111 = .ok (.invokevirtual 110, 3) := by decide +kernel
theorem dX9_follows_114 : decode cX9_follows 114 = .ok (.ifCond .eq 71, 3) := by decide +kernel
theorem dX9_follows_117 : decode cX9_follows 117 = .ok (.aload_n 0, 1) := by decide +kernel
theorem dX9_follows_118 : decode cX9_follows 118 = .ok (.iload_n 1, 1) := by decide +kernel
theorem dX9_follows_119 : decode cX9_follows 119 = .ok (.bipush 11, 2) := by decide +kernel
theorem dX9_follows_121 : decode cX9_follows 121 = .ok (.if_icmp .le 9, 3) := by decide +kernel
theorem dX9_follows_124 : decode cX9_follows 124 = .ok (.ldc2_w 127, 3) := by decide +kernel
theorem dX9_follows_127 : decode cX9_follows 127 = .ok (.goto 26, 3) := by decide +kernel
theorem dX9_follows_130 : decode cX9_follows 130 = .ok (.ldc2_w 129, 3) := by decide +kernel
theorem dX9_follows_133 : decode cX9_follows 133 = .ok (.aload_n 0, 1) := by decide +kernel
theorem dX9_follows_134 : decode cX9_follows 134 = .ok (.getfield 120, 3) := by decide +kernel
theorem dX9_follows_137 : decode cX9_follows 137 = .ok (.lmul, 1) := by decide +kernel
theorem dX9_follows_138 : decode cX9_follows 138 = .ok (.aload_n 0, 1) := by decide +kernel
theorem dX9_follows_139 : decode cX9_follows 139 = .ok (.getfield 23, 3) := by decide +kernel
theorem dX9_follows_142 : decode cX9_follows 142 = .ok (.aload_n 0, 1) := by decide +kernel
theorem dX9_follows_143 : decode cX9_follows 143 = .ok (.getfield 107, 3) := by decide +kernel
theorem dX9_follows_146 : decode cX9_follows 146 = .ok (.baload, 1) := by decide +kernel
theorem dX9_follows_147 : decode cX9_follows 147 = .ok (.i2l, 1) := by decide +kernel
theorem dX9_follows_148 : decode cX9_follows 148 = .ok (.ladd, 1) := by decide +kernel
theorem dX9_follows_149 : decode cX9_follows 149 = .ok (.ldc2_w 131, 3) := by decide +kernel
theorem dX9_follows_152 : decode cX9_follows 152 = .ok (.lsub, 1) := by decide +kernel
theorem dX9_follows_153 : decode cX9_follows 153 = .ok (.putfield 120, 3) := by decide +kernel
theorem dX9_follows_156 : decode cX9_follows 156 = .ok (.iload_n 1, 1) := by decide +kernel
theorem dX9_follows_157 : decode cX9_follows 157 = .ok (.bipush 11, 2) := by decide +kernel
theorem dX9_follows_159 : decode cX9_follows 159 = .ok (.if_icmp .le 10, 3) := by decide +kernel
theorem dX9_follows_162 : decode cX9_follows 162 = .ok (.aload_n 0, 1) := by decide +kernel
theorem dX9_follows_163 : decode cX9_follows 163 = .ok (.ldc2_w 127, 3) := by decide +kernel
theorem dX9_follows_166 : decode cX9_follows 166 = .ok (.putfield 120, 3) := by decide +kernel
theorem dX9_follows_169 : decode cX9_follows 169 = .ok (.aload_n 0, 1) := by decide +kernel
theorem dX9_follows_170 : decode cX9_follows 170 = .ok (.dup, 1) := by decide +kernel
theorem dX9_follows_171 : decode cX9_follows 171 = .ok (.getfield 107, 3) := by decide +kernel
theorem dX9_follows_174 : decode cX9_follows 174 = .ok (.iconst 1, 1) := by decide +kernel
theorem dX9_follows_175 : decode cX9_follows 175 = .ok (.iadd, 1) := by decide +kernel
theorem dX9_follows_176 : decode cX9_follows 176 = .ok (.putfield 107, 3) := by decide +kernel
theorem dX9_follows_179 : decode cX9_follows 179 = .ok (.iinc 1 1, 3) := by decide +kernel
theorem dX9_follows_182 : decode cX9_follows 182 = .ok (.goto (-80), 3) := by decide +kernel
theorem dX9_follows_185 : decode cX9_follows 185 = .ok (.goto 122, 3) := by decide +kernel
theorem dX9_follows_188 : decode cX9_follows 188 = .ok (.aload_n 0, 1) := by decide +kernel
theorem dX9_follows_189 : decode cX9_follows 189 = .ok (.aload_n 0, 1) := by decide +kernel
theorem dX9_follows_190 : decode cX9_follows 190 = .ok (.getfield 107, 3) := by decide +kernel
theorem dX9_follows_193 : decode cX9_follows 193 = .ok (.bipush 48, 2) := by decide +kernel
theorem dX9_follows_195 : decode cX9_follows 195 = .ok (.bipush 57, 2) := by decide +kernel
theorem dX9_follows_197 : decode cX9_follows 197 = .ok (.invokevirtual 110, 3) := by decide +kernel
theorem dX9_follows_200 : decode cX9_follows 200 = .ok (.ifCond .eq 74, 3) := by decide +kernel
theorem dX9_follows_203 : decode cX9_follows 203 = .ok (.aload_n 0, 1) := by decide +kernel
theorem dX9_follows_204 : decode cX9_follows 204 = .ok (.iconst 2, 1) := by decide +kernel
theorem dX9_follows_205 : decode cX9_follows 205 = .ok (.putfield 124, 3) := by decide +kernel
theorem dX9_follows_208 : decode cX9_follows 208 = .ok (.aload_n 0, 1) := by decide +kernel
theorem dX9_follows_209 : decode cX9_follows 209 = .ok (.aload_n 0, 1) := by decide +kernel
theorem dX9_follows_210 : decode cX9_follows 210 = .ok (.getfield 107, 3) := by decide +kernel
theorem dX9_follows_213 : decode cX9_follows 213 = .ok (.bipush 48, 2) := by decide +kernel
theorem dX9_follows_215 : decode cX9_follows 215 = .ok (.bipush 57, 2) := by decide +kernel
theorem dX9_follows_217 : decode cX9_follows 217 = .ok (.invokevirtual 110, 3) := by decide +kernel
theorem dX9_follows_220 : decode cX9_follows 220 = .ok (.ifCond .eq 87, 3) := by decide +kernel
theorem dX9_follows_223 : decode cX9_follows 223 = .ok (.aload_n 0, 1) := by decide +kernel
theorem dX9_follows_224 : decode cX9_follows 224 = .ok (.aload_n 0, 1) := by decide +kernel
theorem dX9_follows_225 : decode cX9_follows 225 = .ok (.getfield 117, 3) := by decide +kernel
theorem dX9_follows_228 : decode cX9_follows 228 = .ok (.ldc 133, 2) := by decide +kernel
theorem dX9_follows_230 : decode cX9_follows 230 = .ok (.if_icmp .le 8, 3) := by decide +kernel
theorem dX9_follows_233 : decode cX9_follows 233 = .ok (.ldc 134, 2) := by decide +kernel
theorem dX9_follows_235 : decode cX9_follows 235 = .ok (.goto 23, 3) := by decide +kernel
theorem dX9_follows_238 : decode cX9_follows 238 = .ok (.bipush 10, 2) := by decide +kernel
theorem dX9_follows_240 : decode cX9_follows 240 = .ok (.aload_n 0, 1) := by decide +kernel
theorem dX9_follows_241 : decode cX9_follows 241 = .ok (.getfield 117, 3) := by decide +kernel
theorem dX9_follows_244 : decode cX9_follows 244 = .ok (.imul, 1) := by decide +kernel
theorem dX9_follows_245 : decode cX9_follows 245 = .ok (.aload_n 0, 1) := by decide +kernel
theorem dX9_follows_246 : decode cX9_follows 246 = .ok (.getfield 23, 3) := by decide +kernel
theorem dX9_follows_249 : decode cX9_follows 249 = .ok (.aload_n 0, 1) := by decide +kernel
theorem dX9_follows_250 : decode cX9_follows 250 = .ok (.getfield 107, 3) := by decide +kernel
theorem dX9_follows_253 : decode cX9_follows 253 = .ok (.baload, 1) := by decide +kernel
theorem dX9_follows_254 : decode cX9_follows 254 = .ok (.iadd, 1) := by decide +kernel
theorem dX9_follows_255 : decode cX9_follows 255 = .ok (.bipush 48, 2) := by decide +kernel
theorem dX9_follows_257 : decode cX9_follows 257 = .ok (.isub, 1) := by decide +kernel
theorem dX9_follows_258 : decode cX9_follows 258 = .ok (.putfield 117, 3) := by decide +kernel
theorem dX9_follows_261 : decode cX9_follows 261 = .ok (.aload_n 0, 1) := by decide +kernel
theorem dX9_follows_262 : decode cX9_follows 262 = .ok (.dup, 1) := by decide +kernel
theorem dX9_follows_263 : decode cX9_follows 263 = .ok (.getfield 107, 3) := by decide +kernel
theorem dX9_follows_266 : decode cX9_follows 266 = .ok (.iconst 1, 1) := by decide +kernel
theorem dX9_follows_267 : decode cX9_follows 267 = .ok (.iadd, 1) := by decide +kernel
theorem dX9_follows_268 : decode cX9_follows 268 = .ok (.putfield 107, 3) := by decide +kernel
theorem dX9_follows_271 : decode cX9_follows 271 = .ok (.goto (-63), 3) := by decide +kernel
theorem dX9_follows_274 : decode cX9_follows 274 = .ok (.aload_n 0, 1) := by decide +kernel
theorem dX9_follows_275 : decode cX9_follows 275 = .ok (.aload_n 0, 1) := by decide +kernel
theorem dX9_follows_276 : decode cX9_follows 276 = .ok (.getfield 23, 3) := by decide +kernel
theorem dX9_follows_279 : decode cX9_follows 279 = .ok (.aload_n 0, 1) := by decide +kernel
theorem dX9_follows_280 : decode cX9_follows 280 = .ok (.getfield 107, 3) := by decide +kernel
theorem dX9_follows_283 : decode cX9_follows 283 = .ok (.baload, 1) := by decide +kernel
theorem dX9_follows_284 : decode cX9_follows 284 = .ok (.bipush 59, 2) := by decide +kernel
theorem dX9_follows_286 : decode cX9_follows 286 = .ok (.if_icmp .ne 7, 3) := by decide +kernel
theorem dX9_follows_289 : decode cX9_follows 289 = .ok (.iconst 3, 1) := by decide +kernel
theorem dX9_follows_290 : decode cX9_follows 290 = .ok (.goto 4, 3) := by decide +kernel
theorem dX9_follows_293 : decode cX9_follows 293 = .ok (.iconst 4, 1) := by decide +kernel
theorem dX9_follows_294 : decode cX9_follows 294 = .ok (.putfield 124, 3) := by decide +kernel
theorem dX9_follows_297 : decode cX9_follows 297 = .ok (.aload_n 0, 1) := by decide +kernel
theorem dX9_follows_298 : decode cX9_follows 298 = .ok (.dup, 1) := by decide +kernel
theorem dX9_follows_299 : decode cX9_follows 299 = .ok (.getfield 107, 3) := by decide +kernel
theorem dX9_follows_302 : decode cX9_follows 302 = .ok (.iconst 1, 1) := by decide +kernel
theorem dX9_follows_303 : decode cX9_follows 303 = .ok (.iadd, 1) := by decide +kernel
theorem dX9_follows_304 : decode cX9_follows 304 = .ok (.putfield 107, 3) := by decide +kernel
theorem dX9_follows_307 : decode cX9_follows 307 = .ok (.return_, 1) := by decide +kernel
theorem dX9_four_0 : decode cX9_four 0 = .ok (.bipush 24, 2) := by decide +kernel
theorem dX9_four_2 : decode cX9_four 2 = .ok (.istore_n 2, 1) := by decide +kernel
theorem dX9_four_3 : decode cX9_four 3 = .ok (.iload_n 2, 1) := by decide +kernel
theorem dX9_four_4 : decode cX9_four 4 = .ok (.ifCond .lt 32, 3) := by decide +kernel
theorem dX9_four_7 : decode cX9_four 7 = .ok (.aload_n 0, 1) := by decide +kernel
theorem dX9_four_8 : decode cX9_four 8 = .ok (.getfield 23, 3) := by decide +kernel
theorem dX9_four_11 : decode cX9_four 11 = .ok (.aload_n 0, 1) := by decide +kernel
theorem dX9_four_12 : decode cX9_four 12 = .ok (.getfield 100, 3) := by decide +kernel
theorem dX9_four_15 : decode cX9_four 15 = .ok (.iload_n 1, 1) := by decide +kernel
theorem dX9_four_16 : decode cX9_four 16 = .ok (.iload_n 2, 1) := by decide +kernel
theorem dX9_four_17 : decode cX9_four 17 = .ok (.ishr, 1) := by decide +kernel
theorem dX9_four_18 : decode cX9_four 18 = .ok (.i2b, 1) := by decide +kernel
theorem dX9_four_19 : decode cX9_four 19 = .ok (.bastore, 1) := by decide +kernel
theorem dX9_four_20 : decode cX9_four 20 = .ok (.aload_n 0, 1) := by decide +kernel
theorem dX9_four_21 : decode cX9_four 21 = .ok (.dup, 1) := by decide +kernel
theorem dX9_four_22 : decode cX9_four 22 = .ok (.getfield 100, 3) := by decide +kernel
theorem dX9_four_25 : decode cX9_four 25 = .ok (.iconst 1, 1) := by decide +kernel
theorem dX9_four_26 : decode cX9_four 26 = .ok (.iadd, 1) := by decide +kernel
theorem dX9_four_27 : decode cX9_four 27 = .ok (.putfield 100, 3) := by decide +kernel
theorem dX9_four_30 : decode cX9_four 30 = .ok (.iinc 2 (-8), 3) := by decide +kernel
theorem dX9_four_33 : decode cX9_four 33 = .ok (.goto (-30), 3) := by decide +kernel
theorem dX9_four_36 : decode cX9_four 36 = .ok (.return_, 1) := by decide +kernel
theorem dX9_freshIn_0 : decode cX9_freshIn 0 = .ok (.aload_n 0, 1) := by decide +kernel
theorem dX9_freshIn_1 : decode cX9_freshIn 1 = .ok (.getfield 62, 3) := by decide +kernel
theorem dX9_freshIn_4 : decode cX9_freshIn 4 = .ok (.iload_n 1, 1) := by decide +kernel
theorem dX9_freshIn_5 : decode cX9_freshIn 5 = .ok (.iconst 1, 1) := by decide +kernel
theorem dX9_freshIn_6 : decode cX9_freshIn 6 = .ok (.iadd, 1) := by decide +kernel
theorem dX9_freshIn_7 : decode cX9_freshIn 7 = .ok (.iaload, 1) := by decide +kernel
theorem dX9_freshIn_8 : decode cX9_freshIn 8 = .ok (.aload_n 0, 1) := by decide +kernel
theorem dX9_freshIn_9 : decode cX9_freshIn 9 = .ok (.getfield 62, 3) := by decide +kernel
theorem dX9_freshIn_12 : decode cX9_freshIn 12 = .ok (.iload_n 1, 1) := by decide +kernel
theorem dX9_freshIn_13 : decode cX9_freshIn 13 = .ok (.iaload, 1) := by decide +kernel
theorem dX9_freshIn_14 : decode cX9_freshIn 14 = .ok (.iconst (-1), 1) := by decide +kernel
theorem dX9_freshIn_15 : decode cX9_freshIn 15 = .ok (.ixor, 1) := by decide +kernel
theorem dX9_freshIn_16 : decode cX9_freshIn 16 = .ok (.iand, 1) := by decide +kernel
theorem dX9_freshIn_17 : decode cX9_freshIn 17 = .ok (.ireturn, 1) := by decide +kernel
theorem dX9_gets_0 : decode cX9_gets 0 = .ok (.aload_n 0, 1) := by decide +kernel
theorem dX9_gets_1 : decode cX9_gets 1 = .ok (.iconst 0, 1) := by decide +kernel
theorem dX9_gets_2 : decode cX9_gets 2 = .ok (.putfield 83, 3) := by decide +kernel
theorem dX9_gets_5 : decode cX9_gets 5 = .ok (.aload_n 0, 1) := by decide +kernel
theorem dX9_gets_6 : decode cX9_gets 6 = .ok (.iload_n 1, 1) := by decide +kernel
theorem dX9_gets_7 : decode cX9_gets 7 = .ok (.iload_n 2, 1) := by decide +kernel
theorem dX9_gets_8 : decode cX9_gets 8 = .ok (.invokevirtual 438, 3) := by decide +kernel
theorem dX9_gets_11 : decode cX9_gets 11 = .ok (.ifCond .eq 31, 3) := by decide +kernel
theorem dX9_gets_14 : decode cX9_gets 14 = .ok (.iload_n 3, 1) := by decide +kernel
theorem dX9_gets_15 : decode cX9_gets 15 = .ok (.invokestatic 364, 3) := by decide +kernel
theorem dX9_gets_18 : decode cX9_gets 18 = .ok (.ifCond .eq 24, 3) := by decide +kernel
theorem dX9_gets_21 : decode cX9_gets 21 = .ok (.iload 4, 2) := by decide +kernel
theorem dX9_gets_23 : decode cX9_gets 23 = .ok (.invokestatic 364, 3) := by decide +kernel
theorem dX9_gets_26 : decode cX9_gets 26 = .ok (.ifCond .eq 16, 3) := by decide +kernel
theorem dX9_gets_29 : decode cX9_gets 29 = .ok (.aload_n 0, 1) := by decide +kernel
theorem dX9_gets_30 : decode cX9_gets 30 = .ok (.iload_n 1, 1) := by decide +kernel
theorem dX9_gets_31 : decode cX9_gets 31 = .ok (.iload_n 1, 1) := by decide +kernel
theorem dX9_gets_32 : decode cX9_gets 32 = .ok (.iload_n 2, 1) := by decide +kernel
theorem dX9_gets_33 : decode cX9_gets 33 = .ok (.iload_n 3, 1) := by decide +kernel
theorem dX9_gets_34 : decode cX9_gets 34 = .ok (.iload 4, 2) := by decide +kernel
theorem dX9_gets_36 : decode cX9_gets 36 = .ok (.invokevirtual 441, 3) := by decide +kernel
theorem dX9_gets_39 : decode cX9_gets 39 = .ok (.goto 6, 3) := by decide +kernel
theorem dX9_gets_42 : decode cX9_gets 42 = .ok (.sipush (-1000), 3) := by decide +kernel
theorem dX9_gets_45 : decode cX9_gets 45 = .ok (.ireturn, 1) := by decide +kernel
theorem dX9_getsBy_0 : decode cX9_getsBy 0 = .ok (.aload_n 0, 1) := by decide +kernel
theorem dX9_getsBy_1 : decode cX9_getsBy 1 = .ok (.invokevirtual 319, 3) := by decide +kernel
theorem dX9_getsBy_4 : decode cX9_getsBy 4 = .ok (.aload_n 0, 1) := by decide +kernel
theorem dX9_getsBy_5 : decode cX9_getsBy 5 = .ok (.iload 4, 2) := by decide +kernel
theorem dX9_getsBy_7 : decode cX9_getsBy 7 = .ok (.iload_n 2, 1) := by decide +kernel
theorem dX9_getsBy_8 : decode cX9_getsBy 8 = .ok (.ishl, 1) := by decide +kernel
theorem dX9_getsBy_9 : decode cX9_getsBy 9 = .ok (.iload 5, 2) := by decide +kernel
theorem dX9_getsBy_11 : decode cX9_getsBy 11 = .ok (.iload_n 3, 1) := by decide +kernel
theorem dX9_getsBy_12 : decode cX9_getsBy 12 = .ok (.ishl, 1) := by decide +kernel
theorem dX9_getsBy_13 : decode cX9_getsBy 13 = .ok (.ior, 1) := by decide +kernel
theorem dX9_getsBy_14 : decode cX9_getsBy 14 = .ok (.putfield 263, 3) := by decide +kernel
theorem dX9_getsBy_17 : decode cX9_getsBy 17 = .ok (.aload_n 0, 1) := by decide +kernel
theorem dX9_getsBy_18 : decode cX9_getsBy 18 = .ok (.invokevirtual 322, 3) := by decide +kernel
theorem dX9_getsBy_21 : decode cX9_getsBy 21 = .ok (.iconst 0, 1) := by decide +kernel
theorem dX9_getsBy_22 : decode cX9_getsBy 22 = .ok (.aload_n 0, 1) := by decide +kernel
theorem dX9_getsBy_23 : decode cX9_getsBy 23 = .ok (.getfield 71, 3) := by decide +kernel
theorem dX9_getsBy_26 : decode cX9_getsBy 26 = .ok (.iload_n 1, 1) := by decide +kernel
theorem dX9_getsBy_27 : decode cX9_getsBy 27 = .ok (.iaload, 1) := by decide +kernel
theorem dX9_getsBy_28 : decode cX9_getsBy 28 = .ok (.invokestatic 279, 3) := by decide +kernel
theorem dX9_getsBy_31 : decode cX9_getsBy 31 = .ok (.iconst 4, 1) := by decide +kernel
theorem dX9_getsBy_32 : decode cX9_getsBy 32 = .ok (.iload_n 1, 1) := by decide +kernel
theorem dX9_getsBy_33 : decode cX9_getsBy 33 = .ok (.iload_n 2, 1) := by decide +kernel
theorem dX9_getsBy_34 : decode cX9_getsBy 34 = .ok (.if_icmp .ne 8, 3) := by decide +kernel
theorem dX9_getsBy_37 : decode cX9_getsBy 37 = .ok (.iload 4, 2) := by decide +kernel
theorem dX9_getsBy_39 : decode cX9_getsBy 39 = .ok (.goto 5, 3) := by decide +kernel
theorem dX9_getsBy_42 : decode cX9_getsBy 42 = .ok (.iload 5, 2) := by decide +kernel
theorem dX9_getsBy_44 : decode cX9_getsBy 44 = .ok (.imul, 1) := by decide +kernel
theorem dX9_getsBy_45 : decode cX9_getsBy 45 = .ok (.iadd, 1) := by decide +kernel
theorem dX9_getsBy_46 : decode cX9_getsBy 46 = .ok (.ireturn, 1) := by decide +kernel
theorem dX9_hasRead_0 : decode cX9_hasRead 0 = .ok (.aload_n 0, 1) := by decide +kernel
theorem dX9_hasRead_1 : decode cX9_hasRead 1 = .ok (.getfield 34, 3) := by decide +kernel
theorem dX9_hasRead_4 : decode cX9_hasRead 4 = .ok (.bipush 28, 2) := by decide +kernel
theorem dX9_hasRead_6 : decode cX9_hasRead 6 = .ok (.iload_n 1, 1) := by decide +kernel
theorem dX9_hasRead_7 : decode cX9_hasRead 7 = .ok (.iadd, 1) := by decide +kernel
theorem dX9_hasRead_8 : decode cX9_hasRead 8 = .ok (.iaload, 1) := by decide +kernel
theorem dX9_hasRead_9 : decode cX9_hasRead 9 = .ok (.ireturn, 1) := by decide +kernel
theorem dX9_high_0 : decode cX9_high 0 = .ok (.aload_n 0, 1) := by decide +kernel
theorem dX9_high_1 : decode cX9_high 1 = .ok (.iconst 0, 1) := by decide +kernel
theorem dX9_high_2 : decode cX9_high 2 = .ok (.putfield 83, 3) := by decide +kernel
theorem dX9_high_5 : decode cX9_high 5 = .ok (.aload_n 0, 1) := by decide +kernel
theorem dX9_high_6 : decode cX9_high 6 = .ok (.iload_n 1, 1) := by decide +kernel
theorem dX9_high_7 : decode cX9_high 7 = .ok (.aload_n 0, 1) := by decide +kernel
theorem dX9_high_8 : decode cX9_high 8 = .ok (.iload_n 2, 1) := by decide +kernel
theorem dX9_high_9 : decode cX9_high 9 = .ok (.i2l, 1) := by decide +kernel
theorem dX9_high_10 : decode cX9_high 10 = .ok (.invokevirtual 254, 3) := by decide +kernel
theorem dX9_high_13 : decode cX9_high 13 = .ok (.invokevirtual 410, 3) := by decide +kernel
theorem dX9_high_16 : decode cX9_high 16 = .ok (.istore_n 3, 1) := by decide +kernel
theorem dX9_high_17 : decode cX9_high 17 = .ok (.iload_n 3, 1) := by decide +kernel
theorem dX9_high_18 : decode cX9_high 18 = .ok (.ifCond .eq 5, 3) := by decide +kernel
theorem dX9_high_21 : decode cX9_high 21 = .ok (.iload_n 3, 1) := by decide +kernel
theorem dX9_high_22 : decode cX9_high 22 = .ok (.ireturn, 1) := by decide +kernel
theorem dX9_high_23 : decode cX9_high 23 = .ok (.aload_n 0, 1) := by decide +kernel
theorem dX9_high_24 : decode cX9_high 24 = .ok (.iload_n 1, 1) := by decide +kernel
theorem dX9_high_25 : decode cX9_high 25 = .ok (.iload_n 2, 1) := by decide +kernel
theorem dX9_high_26 : decode cX9_high 26 = .ok (.invokevirtual 414, 3) := by decide +kernel
theorem dX9_high_29 : decode cX9_high 29 = .ok (.aload_n 0, 1) := by decide +kernel
theorem dX9_high_30 : decode cX9_high 30 = .ok (.getfield 398, 3) := by decide +kernel
theorem dX9_high_33 : decode cX9_high 33 = .ok (.ireturn, 1) := by decide +kernel
theorem dX9_how_0 : decode cX9_how 0 = .ok (.aload_n 0, 1) := by decide +kernel
theorem dX9_how_1 : decode cX9_how 1 = .ok (.iconst 0, 1) := by decide +kernel
theorem dX9_how_2 : decode cX9_how 2 = .ok (.putfield 83, 3) := by decide +kernel
theorem dX9_how_5 : decode cX9_how 5 = .ok (.aload_n 0, 1) := by decide +kernel
theorem dX9_how_6 : decode cX9_how 6 = .ok (.iload_n 1, 1) := by decide +kernel
theorem dX9_how_7 : decode cX9_how 7 = .ok (.i2l, 1) := by decide +kernel
theorem dX9_how_8 : decode cX9_how 8 = .ok (.invokevirtual 254, 3) := by decide +kernel
theorem dX9_how_11 : decode cX9_how 11 = .ok (.ifCond .ne 6, 3) := by decide +kernel
theorem dX9_how_14 : decode cX9_how 14 = .ok (.bipush (-2), 2) := by decide +kernel
theorem dX9_how_16 : decode cX9_how 16 = .ok (.ireturn, 1) := by decide +kernel
theorem dX9_how_17 : decode cX9_how 17 = .ok (.aload_n 0, 1) := by decide +kernel
theorem dX9_how_18 : decode cX9_how 18 = .ok (.invokevirtual 330, 3) := by decide +kernel
theorem dX9_how_21 : decode cX9_how 21 = .ok (.aload_n 0, 1) := by decide +kernel
theorem dX9_how_22 : decode cX9_how 22 = .ok (.getfield 68, 3) := by decide +kernel
theorem dX9_how_25 : decode cX9_how 25 = .ok (.iload_n 1, 1) := by decide +kernel
theorem dX9_how_26 : decode cX9_how 26 = .ok (.iaload, 1) := by decide +kernel
theorem dX9_how_27 : decode cX9_how 27 = .ok (.ireturn, 1) := by decide +kernel
