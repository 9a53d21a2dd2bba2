theorem dX3_takeNamed_0 : decode cX3_takeNamed 0 = .ok (.aload_n 0, 1) := by decide +kernel
theorem dX3_takeNamed_1 : decode cX3_takeNamed 1 = .ok (.aload_n 1, 1) := by decide +kernel
theorem dX3_takeNamed_2 : decode cX3_takeNamed 2 = .ok (.invokevirtual 78, 3) := by decide +kernel
theorem dX3_takeNamed_5 : decode cX3_takeNamed 5 = .ok (.aload_n 0, 1) := by decide +kernel
theorem dX3_takeNamed_6 : decode cX3_takeNamed 6 = .ok (.iload_n 2, 1) := by decide +kernel
theorem dX3_takeNamed_7 : decode cX3_takeNamed 7 = .ok (.iload_n 3, 1) := by decide +kernel
theorem dX3_takeNamed_8 : decode cX3_takeNamed 8 = .ok (.invokevirtual 114, 3) := by decide +kernel
theorem dX3_takeNamed_11 : decode cX3_takeNamed 11 = .ok (.ireturn, 1) := by decide +kernel
theorem dX3_takeNumber_0 : decode cX3_takeNumber 0 = .ok (.aload_n 0, 1) := by decide +kernel
theorem dX3_takeNumber_1 : decode cX3_takeNumber 1 = .ok (.getfield 28, 3) := by decide +kernel
theorem dX3_takeNumber_4 : decode cX3_takeNumber 4 = .ok (.ifCond .eq 5, 3) := by decide +kernel
theorem dX3_takeNumber_7 : decode cX3_takeNumber 7 = .ok (.iconst (-1), 1) := by decide +kernel
theorem dX3_takeNumber_8 : decode cX3_takeNumber 8 = .ok (.ireturn, 1) := by decide +kernel
theorem dX3_takeNumber_9 : decode cX3_takeNumber 9 = .ok (.aload_n 0, 1) := by decide +kernel
theorem dX3_takeNumber_10 : decode cX3_takeNumber 10 = .ok (.getfield 37, 3) := by decide +kernel
theorem dX3_takeNumber_13 : decode cX3_takeNumber 13 = .ok (.iconst 2, 1) := by decide +kernel
theorem dX3_takeNumber_14 : decode cX3_takeNumber 14 = .ok (.if_icmp .ne 19, 3) := by decide +kernel
theorem dX3_takeNumber_17 : decode cX3_takeNumber 17 = .ok (.aload_n 0, 1) := by decide +kernel
theorem dX3_takeNumber_18 : decode cX3_takeNumber 18 = .ok (.getfield 118, 3) := by decide +kernel
theorem dX3_takeNumber_21 : decode cX3_takeNumber 21 = .ok (.iload_n 1, 1) := by decide +kernel
theorem dX3_takeNumber_22 : decode cX3_takeNumber 22 = .ok (.if_icmp .lt 11, 3) := by decide +kernel
theorem dX3_takeNumber_25 : decode cX3_takeNumber 25 = .ok (.aload_n 0, 1) := by decide +kernel
theorem dX3_takeNumber_26 : decode cX3_takeNumber 26 = .ok (.getfield 118, 3) := by decide +kernel
theorem dX3_takeNumber_29 : decode cX3_takeNumber 29 = .ok (.iload_n 2, 1) := by decide +kernel
theorem dX3_takeNumber_30 : decode cX3_takeNumber 30 = .ok (.if_icmp .le 23, 3) := by decide +kernel
theorem dX3_takeNumber_33 : decode cX3_takeNumber 33 = .ok (.aload_n 0, 1) := by decide +kernel
theorem dX3_takeNumber_34 : decode cX3_takeNumber 34 = .ok (.aload_n 0, 1) := by decide +kernel
theorem dX3_takeNumber_35 : decode cX3_takeNumber 35 = .ok (.getfield 37, 3) := by decide +kernel
theorem dX3_takeNumber_38 : decode cX3_takeNumber 38 = .ok (.iconst 2, 1) := by decide +kernel
theorem dX3_takeNumber_39 : decode cX3_takeNumber 39 = .ok (.if_icmp .ne 7, 3) := by decide +kernel
theorem dX3_takeNumber_42 : decode cX3_takeNumber 42 = .ok (.iconst 2, 1) := by decide +kernel
theorem dX3_takeNumber_43 : decode cX3_takeNumber 43 = .ok (.goto 4, 3) := by decide +kernel
theorem dX3_takeNumber_46 : decode cX3_takeNumber 46 = .ok (.iconst 1, 1) := by decide +kernel
theorem dX3_takeNumber_47 : decode cX3_takeNumber 47 = .ok (.invokevirtual 69, 3) := by decide +kernel
theorem dX3_takeNumber_50 : decode cX3_takeNumber 50 = .ok (.pop, 1) := by decide +kernel
theorem dX3_takeNumber_51 : decode cX3_takeNumber 51 = .ok (.iconst (-1), 1) := by decide +kernel
theorem dX3_takeNumber_52 : decode cX3_takeNumber 52 = .ok (.ireturn, 1) := by decide +kernel
theorem dX3_takeNumber_53 : decode cX3_takeNumber 53 = .ok (.aload_n 0, 1) := by decide +kernel
theorem dX3_takeNumber_54 : decode cX3_takeNumber 54 = .ok (.getfield 118, 3) := by decide +kernel
theorem dX3_takeNumber_57 : decode cX3_takeNumber 57 = .ok (.istore_n 3, 1) := by decide +kernel
theorem dX3_takeNumber_58 : decode cX3_takeNumber 58 = .ok (.aload_n 0, 1) := by decide +kernel
theorem dX3_takeNumber_59 : decode cX3_takeNumber 59 = .ok (.invokevirtual 34, 3) := by decide +kernel
theorem dX3_takeNumber_62 : decode cX3_takeNumber 62 = .ok (.iload_n 3, 1) := by decide +kernel
theorem dX3_takeNumber_63 : decode cX3_takeNumber 63 = .ok (.ireturn, 1) := by decide +kernel
theorem dX3_takePart_0 : decode cX3_takePart 0 = .ok (.aload_n 0, 1) := by decide +kernel
theorem dX3_takePart_1 : decode cX3_takePart 1 = .ok (.getfield 19, 3) := by decide +kernel
theorem dX3_takePart_4 : decode cX3_takePart 4 = .ok (.getfield 98, 3) := by decide +kernel
theorem dX3_takePart_7 : decode cX3_takePart 7 = .ok (.bipush 6, 2) := by decide +kernel
theorem dX3_takePart_9 : decode cX3_takePart 9 = .ok (.if_icmp .lt 9, 3) := by decide +kernel
theorem dX3_takePart_12 : decode cX3_takePart 12 = .ok (.aload_n 0, 1) := by decide +kernel
theorem dX3_takePart_13 : decode cX3_takePart 13 = .ok (.iconst 3, 1) := by decide +kernel
theorem dX3_takePart_14 : decode cX3_takePart 14 = .ok (.invokevirtual 69, 3) := by decide +kernel
theorem dX3_takePart_17 : decode cX3_takePart 17 = .ok (.ireturn, 1) := by decide +kernel
theorem dX3_takePart_18 : decode cX3_takePart 18 = .ok (.aload_n 0, 1) := by decide +kernel
theorem dX3_takePart_19 : decode cX3_takePart 19 = .ok (.invokevirtual 34, 3) := by decide +kernel
theorem dX3_takePart_22 : decode cX3_takePart 22 = .ok (.aload_n 0, 1) := by decide +kernel
theorem dX3_takePart_23 : decode cX3_takePart 23 = .ok (.ldc 101, 2) := by decide +kernel
theorem dX3_takePart_25 : decode cX3_takePart 25 = .ok (.iconst 0, 1) := by decide +kernel
theorem dX3_takePart_26 : decode cX3_takePart 26 = .ok (.bipush 60, 2) := by decide +kernel
theorem dX3_takePart_28 : decode cX3_takePart 28 = .ok (.invokevirtual 84, 3) := by decide +kernel
theorem dX3_takePart_31 : decode cX3_takePart 31 = .ok (.istore_n 1, 1) := by decide +kernel
theorem dX3_takePart_32 : decode cX3_takePart 32 = .ok (.aload_n 0, 1) := by decide +kernel
theorem dX3_takePart_33 : decode cX3_takePart 33 = .ok (.ldc 103, 2) := by decide +kernel
theorem dX3_takePart_35 : decode cX3_takePart 35 = .ok (.iconst 0, 1) := by decide +kernel
theorem dX3_takePart_36 : decode cX3_takePart 36 = .ok (.bipush 9, 2) := by decide +kernel
theorem dX3_takePart_38 : decode cX3_takePart 38 = .ok (.invokevirtual 84, 3) := by decide +kernel
theorem dX3_takePart_41 : decode cX3_takePart 41 = .ok (.istore_n 2, 1) := by decide +kernel
theorem dX3_takePart_42 : decode cX3_takePart 42 = .ok (.aload_n 0, 1) := by decide +kernel
theorem dX3_takePart_43 : decode cX3_takePart 43 = .ok (.ldc 105, 2) := by decide +kernel
theorem dX3_takePart_45 : decode cX3_takePart 45 = .ok (.invokevirtual 52, 3) := by decide +kernel
theorem dX3_takePart_48 : decode cX3_takePart 48 = .ok (.ifCond .eq 15, 3) := by decide +kernel
theorem dX3_takePart_51 : decode cX3_takePart 51 = .ok (.aload_n 0, 1) := by decide +kernel
theorem dX3_takePart_52 : decode cX3_takePart 52 = .ok (.ldc 105, 2) := by decide +kernel
theorem dX3_takePart_54 : decode cX3_takePart 54 = .ok (.iconst 1, 1) := by decide +kernel
theorem dX3_takePart_55 : decode cX3_takePart 55 = .ok (.bipush 60, 2) := by decide +kernel
theorem dX3_takePart_57 : decode cX3_takePart 57 = .ok (.invokevirtual 84, 3) := by decide +kernel
theorem dX3_takePart_60 : decode cX3_takePart 60 = .ok (.goto 4, 3) := by decide +kernel
theorem dX3_takePart_63 : decode cX3_takePart 63 = .ok (.iconst 0, 1) := by decide +kernel
theorem dX3_takePart_64 : decode cX3_takePart 64 = .ok (.istore_n 3, 1) := by decide +kernel
theorem dX3_takePart_65 : decode cX3_takePart 65 = .ok (.aload_n 0, 1) := by decide +kernel
theorem dX3_takePart_66 : decode cX3_takePart 66 = .ok (.getfield 28, 3) := by decide +kernel
theorem dX3_takePart_69 : decode cX3_takePart 69 = .ok (.ifCond .ne 13, 3) := by decide +kernel
theorem dX3_takePart_72 : decode cX3_takePart 72 = .ok (.aload_n 0, 1) := by decide +kernel
theorem dX3_takePart_73 : decode cX3_takePart 73 = .ok (.getfield 19, 3) := by decide +kernel
theorem dX3_takePart_76 : decode cX3_takePart 76 = .ok (.iload_n 1, 1) := by decide +kernel
theorem dX3_takePart_77 : decode cX3_takePart 77 = .ok (.iload_n 2, 1) := by decide +kernel
theorem dX3_takePart_78 : decode cX3_takePart 78 = .ok (.iload_n 3, 1) := by decide +kernel
theorem dX3_takePart_79 : decode cX3_takePart 79 = .ok (.invokevirtual 107, 3) := by decide +kernel
theorem dX3_takePart_82 : decode cX3_takePart 82 = .ok (.aload_n 0, 1) := by decide +kernel
theorem dX3_takePart_83 : decode cX3_takePart 83 = .ok (.getfield 28, 3) := by decide +kernel
theorem dX3_takePart_86 : decode cX3_takePart 86 = .ok (.ifCond .ne 7, 3) := by decide +kernel
theorem dX3_takePart_89 : decode cX3_takePart 89 = .ok (.iconst 1, 1) := by decide +kernel
theorem dX3_takePart_90 : decode cX3_takePart 90 = .ok (.goto 4, 3) := by decide +kernel
theorem dX3_takePart_93 : decode cX3_takePart 93 = .ok (.iconst 0, 1) := by decide +kernel
theorem dX3_takePart_94 : decode cX3_takePart 94 = .ok (.ireturn, 1) := by decide +kernel
theorem dX3_takeSign_0 : decode cX3_takeSign 0 = .ok (.aload_n 0, 1) := by decide +kernel
theorem dX3_takeSign_1 : decode cX3_takeSign 1 = .ok (.getfield 37, 3) := by decide +kernel
theorem dX3_takeSign_4 : decode cX3_takeSign 4 = .ok (.iconst 3, 1) := by decide +kernel
theorem dX3_takeSign_5 : decode cX3_takeSign 5 = .ok (.if_icmp .eq 9, 3) := by decide +kernel
theorem dX3_takeSign_8 : decode cX3_takeSign 8 = .ok (.aload_n 0, 1) := by decide +kernel
theorem dX3_takeSign_9 : decode cX3_takeSign 9 = .ok (.iconst 1, 1) := by decide +kernel
theorem dX3_takeSign_10 : decode cX3_takeSign 10 = .ok (.invokevirtual 69, 3) := by decide +kernel
theorem dX3_takeSign_13 : decode cX3_takeSign 13 = .ok (.ireturn, 1) := by decide +kernel
theorem dX3_takeSign_14 : decode cX3_takeSign 14 = .ok (.aload_n 0, 1) := by decide +kernel
theorem dX3_takeSign_15 : decode cX3_takeSign 15 = .ok (.invokevirtual 34, 3) := by decide +kernel
theorem dX3_takeSign_18 : decode cX3_takeSign 18 = .ok (.iconst 1, 1) := by decide +kernel
theorem dX3_takeSign_19 : decode cX3_takeSign 19 = .ok (.ireturn, 1) := by decide +kernel
theorem dX3_takeWord_0 : decode cX3_takeWord 0 = .ok (.aload_n 0, 1) := by decide +kernel
theorem dX3_takeWord_1 : decode cX3_takeWord 1 = .ok (.aload_n 1, 1) := by decide +kernel
theorem dX3_takeWord_2 : decode cX3_takeWord 2 = .ok (.invokevirtual 52, 3) := by decide +kernel
theorem dX3_takeWord_5 : decode cX3_takeWord 5 = .ok (.ifCond .eq 10, 3) := by decide +kernel
theorem dX3_takeWord_8 : decode cX3_takeWord 8 = .ok (.aload_n 0, 1) := by decide +kernel
theorem dX3_takeWord_9 : decode cX3_takeWord 9 = .ok (.invokevirtual 34, 3) := by decide +kernel
theorem dX3_takeWord_12 : decode cX3_takeWord 12 = .ok (.goto 9, 3) := by decide +kernel
theorem dX3_takeWord_15 : decode cX3_takeWord 15 = .ok (.aload_n 0, 1) := by decide +kernel
theorem dX3_takeWord_16 : decode cX3_takeWord 16 = .ok (.iconst 1, 1) := by decide +kernel
theorem dX3_takeWord_17 : decode cX3_takeWord 17 = .ok (.invokevirtual 69, 3) := by decide +kernel
theorem dX3_takeWord_20 : decode cX3_takeWord 20 = .ok (.pop, 1) := by decide +kernel
theorem dX3_takeWord_21 : decode cX3_takeWord 21 = .ok (.return_, 1) := by decide +kernel
theorem dX4_compare_0 : decode cX4_compare 0 = .ok (.aload_n 0, 1) := by decide +kernel
theorem dX4_compare_1 : decode cX4_compare 1 = .ok (.getfield 20, 3) := by decide +kernel
theorem dX4_compare_4 : decode cX4_compare 4 = .ok (.iload_n 1, 1) := by decide +kernel
theorem dX4_compare_5 : decode cX4_compare 5 = .ok (.iaload, 1) := by decide +kernel
theorem dX4_compare_6 : decode cX4_compare 6 = .ok (.aload_n 0, 1) := by decide +kernel
theorem dX4_compare_7 : decode cX4_compare 7 = .ok (.getfield 43, 3) := by decide +kernel
theorem dX4_compare_10 : decode cX4_compare 10 = .ok (.if_icmp .le 32, 3) := by decide +kernel
theorem dX4_compare_13 : decode cX4_compare 13 = .ok (.aload_n 0, 1) := by decide +kernel
theorem dX4_compare_14 : decode cX4_compare 14 = .ok (.aload_n 0, 1) := by decide +kernel
theorem dX4_compare_15 : decode cX4_compare 15 = .ok (.getfield 20, 3) := by decide +kernel
theorem dX4_compare_18 : decode cX4_compare 18 = .ok (.iload_n 1, 1) := by decide +kernel
theorem dX4_compare_19 : decode cX4_compare 19 = .ok (.iaload, 1) := by decide +kernel
theorem dX4_compare_20 : decode cX4_compare 20 = .ok (.putfield 43, 3) := by decide +kernel
theorem dX4_compare_23 : decode cX4_compare 23 = .ok (.aload_n 0, 1) := by decide +kernel
theorem dX4_compare_24 : decode cX4_compare 24 = .ok (.iconst 0, 1) := by decide +kernel
theorem dX4_compare_25 : decode cX4_compare 25 = .ok (.putfield 47, 3) := by decide +kernel
theorem dX4_compare_28 : decode cX4_compare 28 = .ok (.aload_n 0, 1) := by decide +kernel
theorem dX4_compare_29 : decode cX4_compare 29 = .ok (.getfield 23, 3) := by decide +kernel
theorem dX4_compare_32 : decode cX4_compare 32 = .ok (.iconst 0, 1) := by decide +kernel
theorem dX4_compare_33 : decode cX4_compare 33 = .ok (.aload_n 0, 1) := by decide +kernel
theorem dX4_compare_34 : decode cX4_compare 34 = .ok (.getfield 26, 3) := by decide +kernel
theorem dX4_compare_37 : decode cX4_compare 37 = .ok (.iconst 0, 1) := by decide +kernel
theorem dX4_compare_38 : decode cX4_compare 38 = .ok (.iload_n 1, 1) := by decide +kernel
theorem dX4_compare_39 : decode cX4_compare 39 = .ok (.invokestatic 55, 3) := by decide +kernel
theorem dX4_compare_42 : decode cX4_compare 42 = .ok (.aload_n 0, 1) := by decide +kernel
theorem dX4_compare_43 : decode cX4_compare 43 = .ok (.getfield 20, 3) := by decide +kernel
theorem dX4_compare_46 : decode cX4_compare 46 = .ok (.iload_n 1, 1) := by decide +kernel
theorem dX4_compare_47 : decode cX4_compare 47 = .ok (.iaload, 1) := by decide +kernel
theorem dX4_compare_48 : decode cX4_compare 48 = .ok (.aload_n 0, 1) := by decide +kernel
theorem dX4_compare_49 : decode cX4_compare 49 = .ok (.getfield 43, 3) := by decide +kernel
theorem dX4_compare_52 : decode cX4_compare 52 = .ok (.if_icmp .ne 13, 3) := by decide +kernel
theorem dX4_compare_55 : decode cX4_compare 55 = .ok (.aload_n 0, 1) := by decide +kernel
theorem dX4_compare_56 : decode cX4_compare 56 = .ok (.dup, 1) := by decide +kernel
theorem dX4_compare_57 : decode cX4_compare 57 = .ok (.getfield 47, 3) := by decide +kernel
theorem dX4_compare_60 : decode cX4_compare 60 = .ok (.iconst 1, 1) := by decide +kernel
theorem dX4_compare_61 : decode cX4_compare 61 = .ok (.iadd, 1) := by decide +kernel
theorem dX4_compare_62 : decode cX4_compare 62 = .ok (.putfield 47, 3) := by decide +kernel
theorem dX4_compare_65 : decode cX4_compare 65 = .ok (.return_, 1) := by decide +kernel
theorem dX4_search_0 : decode cX4_search 0 = .ok (.aload_n 0, 1) := by decide +kernel
theorem dX4_search_1 : decode cX4_search 1 = .ok (.getfield 33, 3) := by decide +kernel
theorem dX4_search_4 : decode cX4_search 4 = .ok (.iconst (-1), 1) := by decide +kernel
theorem dX4_search_5 : decode cX4_search 5 = .ok (.invokevirtual 37, 3) := by decide +kernel
theorem dX4_search_8 : decode cX4_search 8 = .ok (.aload_n 0, 1) := by decide +kernel
theorem dX4_search_9 : decode cX4_search 9 = .ok (.iconst (-1), 1) := by decide +kernel
theorem dX4_search_10 : decode cX4_search 10 = .ok (.putfield 43, 3) := by decide +kernel
theorem dX4_search_13 : decode cX4_search 13 = .ok (.aload_n 0, 1) := by decide +kernel
theorem dX4_search_14 : decode cX4_search 14 = .ok (.iconst 0, 1) := by decide +kernel
theorem dX4_search_15 : decode cX4_search 15 = .ok (.putfield 47, 3) := by decide +kernel
theorem dX4_search_18 : decode cX4_search 18 = .ok (.aload_n 0, 1) := by decide +kernel
theorem dX4_search_19 : decode cX4_search 19 = .ok (.getfield 29, 3) := by decide +kernel
theorem dX4_search_22 : decode cX4_search 22 = .ok (.getfield 50, 3) := by decide +kernel
theorem dX4_search_25 : decode cX4_search 25 = .ok (.iconst 0, 1) := by decide +kernel
theorem dX4_search_26 : decode cX4_search 26 = .ok (.aload_n 0, 1) := by decide +kernel
theorem dX4_search_27 : decode cX4_search 27 = .ok (.getfield 11, 3) := by decide +kernel
theorem dX4_search_30 : decode cX4_search 30 = .ok (.iconst 0, 1) := by decide +kernel
theorem dX4_search_31 : decode cX4_search 31 = .ok (.aaload, 1) := by decide +kernel
theorem dX4_search_32 : decode cX4_search 32 = .ok (.iconst 0, 1) := by decide +kernel
theorem dX4_search_33 : decode cX4_search 33 = .ok (.bipush 6, 2) := by decide +kernel
theorem dX4_search_35 : decode cX4_search 35 = .ok (.invokestatic 55, 3) := by decide +kernel
theorem dX4_search_38 : decode cX4_search 38 = .ok (.iconst 0, 1) := by decide +kernel
theorem dX4_search_39 : decode cX4_search 39 = .ok (.istore_n 2, 1) := by decide +kernel
theorem dX4_search_40 : decode cX4_search 40 = .ok (.aload_n 0, 1) := by decide +kernel
theorem dX4_search_41 : decode cX4_search 41 = .ok (.getfield 23, 3) := by decide +kernel
theorem dX4_search_44 : decode cX4_search 44 = .ok (.iconst 0, 1) := by decide +kernel
theorem dX4_search_45 : decode cX4_search 45 = .ok (.bipush (-2), 2) := by decide +kernel
theorem dX4_search_47 : decode cX4_search 47 = .ok (.iastore, 1) := by decide +kernel
theorem dX4_search_48 : decode cX4_search 48 = .ok (.iconst 0, 1) := by decide +kernel
theorem dX4_search_49 : decode cX4_search 49 = .ok (.istore_n 3, 1) := by decide +kernel
theorem dX4_search_50 : decode cX4_search 50 = .ok (.iload_n 3, 1) := by decide +kernel
theorem dX4_search_51 : decode cX4_search 51 = .ok (.ldc 61, 2) := by decide +kernel
theorem dX4_search_53 : decode cX4_search 53 = .ok (.if_icmp .ge 104, 3) := by decide +kernel
theorem dX4_search_56 : decode cX4_search 56 = .ok (.iload_n 2, 1) := by decide +kernel
theorem dX4_search_57 : decode cX4_search 57 = .ok (.ifCond .lt 100, 3) := by decide +kernel
theorem dX4_search_60 : decode cX4_search 60 = .ok (.aload_n 0, 1) := by decide +kernel
theorem dX4_search_61 : decode cX4_search 61 = .ok (.getfield 23, 3) := by decide +kernel
theorem dX4_search_64 : decode cX4_search 64 = .ok (.iload_n 2, 1) := by decide +kernel
theorem dX4_search_65 : decode cX4_search 65 = .ok (.dup2, 1) := by decide +kernel
theorem dX4_search_66 : decode cX4_search 66 = .ok (.iaload, 1) := by decide +kernel
theorem dX4_search_67 : decode cX4_search 67 = .ok (.iconst 1, 1) := by decide +kernel
theorem dX4_search_68 : decode cX4_search 68 = .ok (.iadd, 1) := by decide +kernel
theorem dX4_search_69 : decode cX4_search 69 = .ok (.iastore, 1) := by decide +kernel
theorem dX4_search_70 : decode cX4_search 70 = .ok (.aload_n 0, 1) := by decide +kernel
theorem dX4_search_71 : decode cX4_search 71 = .ok (.getfield 23, 3) := by decide +kernel
theorem dX4_search_74 : decode cX4_search 74 = .ok (.iload_n 2, 1) := by decide +kernel
theorem dX4_search_75 : decode cX4_search 75 = .ok (.iaload, 1) := by decide +kernel
theorem dX4_search_76 : decode cX4_search 76 = .ok (.aload_n 0, 1) := by decide +kernel
theorem dX4_search_77 : decode cX4_search 77 = .ok (.getfield 29, 3) := by decide +kernel
theorem dX4_search_80 : decode cX4_search 80 = .ok (.getfield 62, 3) := by decide +kernel
theorem dX4_search_83 : decode cX4_search 83 = .ok (.if_icmp .lt 9, 3) := by decide +kernel
theorem dX4_search_86 : decode cX4_search 86 = .ok (.iinc 2 (-1), 3) := by decide +kernel
theorem dX4_search_89 : decode cX4_search 89 = .ok (.goto 62, 3) := by decide +kernel
theorem dX4_search_92 : decode cX4_search 92 = .ok (.aload_n 0, 1) := by decide +kernel
theorem dX4_search_93 : decode cX4_search 93 = .ok (.getfield 23, 3) := by decide +kernel
theorem dX4_search_96 : decode cX4_search 96 = .ok (.iload_n 2, 1) := by decide +kernel
theorem dX4_search_97 : decode cX4_search 97 = .ok (.iaload, 1) := by decide +kernel
theorem dX4_search_98 : decode cX4_search 98 = .ok (.iconst (-1), 1) := by decide +kernel
theorem dX4_search_99 : decode cX4_search 99 = .ok (.if_icmp .eq 21, 3) := by decide +kernel
theorem dX4_search_102 : decode cX4_search 102 = .ok (.aload_n 0, 1) := by decide +kernel
theorem dX4_search_103 : decode cX4_search 103 = .ok (.getfield 16, 3) := by decide +kernel
theorem dX4_search_106 : decode cX4_search 106 = .ok (.iload_n 2, 1) := by decide +kernel
theorem dX4_search_107 : decode cX4_search 107 = .ok (.iaload, 1) := by decide +kernel
theorem dX4_search_108 : decode cX4_search 108 = .ok (.aload_n 0, 1) := by decide +kernel
theorem dX4_search_109 : decode cX4_search 109 = .ok (.getfield 23, 3) := by decide +kernel
theorem dX4_search_112 : decode cX4_search 112 = .ok (.iload_n 2, 1) := by decide +kernel
theorem dX4_search_113 : decode cX4_search 113 = .ok (.iaload, 1) := by decide +kernel
theorem dX4_search_114 : decode cX4_search 114 = .ok (.invokestatic 65, 3) := by decide +kernel
theorem dX4_search_117 : decode cX4_search 117 = .ok (.ifCond .ne 34, 3) := by decide +kernel
theorem dX4_search_120 : decode cX4_search 120 = .ok (.aload_n 0, 1) := by decide +kernel
theorem dX4_search_121 : decode cX4_search 121 = .ok (.iload_n 2, 1) := by decide +kernel
theorem dX4_search_122 : decode cX4_search 122 = .ok (.invokevirtual 69, 3) := by decide +kernel
theorem dX4_search_125 : decode cX4_search 125 = .ok (.iload_n 2, 1) := by decide +kernel
theorem dX4_search_126 : decode cX4_search 126 = .ok (.iconst 1, 1) := by decide +kernel
theorem dX4_search_127 : decode cX4_search 127 = .ok (.iadd, 1) := by decide +kernel
theorem dX4_search_128 : decode cX4_search 128 = .ok (.iload_n 1, 1) := by decide +kernel
theorem dX4_search_129 : decode cX4_search 129 = .ok (.if_icmp .ge 17, 3) := by decide +kernel
theorem dX4_search_132 : decode cX4_search 132 = .ok (.iinc 2 1, 3) := by decide +kernel
theorem dX4_search_135 : decode cX4_search 135 = .ok (.aload_n 0, 1) := by decide +kernel
theorem dX4_search_136 : decode cX4_search 136 = .ok (.getfield 23, 3) := by decide +kernel
theorem dX4_search_139 : decode cX4_search 139 = .ok (.iload_n 2, 1) := by decide +kernel
theorem dX4_search_140 : decode cX4_search 140 = .ok (.bipush (-2), 2) := by decide +kernel
theorem dX4_search_142 : decode cX4_search 142 = .ok (.iastore, 1) := by decide +kernel
theorem dX4_search_143 : decode cX4_search 143 = .ok (.goto 8, 3) := by decide +kernel
theorem dX4_search_146 : decode cX4_search 146 = .ok (.aload_n 0, 1) := by decide +kernel
theorem dX4_search_147 : decode cX4_search 147 = .ok (.iload_n 1, 1) := by decide +kernel
theorem dX4_search_148 : decode cX4_search 148 = .ok (.invokevirtual 72, 3) := by decide +kernel
theorem dX4_search_151 : decode cX4_search 151 = .ok (.iinc 3 1, 3) := by decide +kernel
theorem dX4_search_154 : decode cX4_search 154 = .ok (.goto (-104), 3) := by decide +kernel
theorem dX4_search_157 : decode cX4_search 157 = .ok (.return_, 1) := by decide +kernel
theorem dX4_spend_0 : decode cX4_spend 0 = .ok (.aload_n 0, 1) := by decide +kernel
theorem dX4_spend_1 : decode cX4_spend 1 = .ok (.getfield 16, 3) := by decide +kernel
theorem dX4_spend_4 : decode cX4_spend 4 = .ok (.iload_n 1, 1) := by decide +kernel
theorem dX4_spend_5 : decode cX4_spend 5 = .ok (.iaload, 1) := by decide +kernel
theorem dX4_spend_6 : decode cX4_spend 6 = .ok (.istore_n 2, 1) := by decide +kernel
theorem dX4_spend_7 : decode cX4_spend 7 = .ok (.aload_n 0, 1) := by decide +kernel
theorem dX4_spend_8 : decode cX4_spend 8 = .ok (.getfield 23, 3) := by decide +kernel
theorem dX4_spend_11 : decode cX4_spend 11 = .ok (.iload_n 1, 1) := by decide +kernel
theorem dX4_spend_12 : decode cX4_spend 12 = .ok (.iaload, 1) := by decide +kernel
theorem dX4_spend_13 : decode cX4_spend 13 = .ok (.iconst (-1), 1) := by decide +kernel
theorem dX4_spend_14 : decode cX4_spend 14 = .ok (.if_icmp .ne 7, 3) := by decide +kernel
theorem dX4_spend_17 : decode cX4_spend 17 = .ok (.iload_n 2, 1) := by decide +kernel
theorem dX4_spend_18 : decode cX4_spend 18 = .ok (.goto 20, 3) := by decide +kernel
theorem dX4_spend_21 : decode cX4_spend 21 = .ok (.aload_n 0, 1) := by decide +kernel
theorem dX4_spend_22 : decode cX4_spend 22 = .ok (.getfield 33, 3) := by decide +kernel
theorem dX4_spend_25 : decode cX4_spend 25 = .ok (.iload_n 2, 1) := by decide +kernel
theorem dX4_spend_26 : decode cX4_spend 26 = .ok (.iconst 1, 1) := by decide +kernel
theorem dX4_spend_27 : decode cX4_spend 27 = .ok (.aload_n 0, 1) := by decide +kernel
theorem dX4_spend_28 : decode cX4_spend 28 = .ok (.getfield 23, 3) := by decide +kernel
theorem dX4_spend_31 : decode cX4_spend 31 = .ok (.iload_n 1, 1) := by decide +kernel
theorem dX4_spend_32 : decode cX4_spend 32 = .ok (.iaload, 1) := by decide +kernel
theorem dX4_spend_33 : decode cX4_spend 33 = .ok (.ishl, 1) := by decide +kernel
theorem dX4_spend_34 : decode cX4_spend 34 = .ok (.ior, 1) := by decide +kernel
theorem dX4_spend_35 : decode cX4_spend 35 = .ok (.invokevirtual 75, 3) := by decide +kernel
theorem dX4_spend_38 : decode cX4_spend 38 = .ok (.istore_n 3, 1) := by decide +kernel
theorem dX4_spend_39 : decode cX4_spend 39 = .ok (.aload_n 0, 1) := by decide +kernel
theorem dX4_spend_40 : decode cX4_spend 40 = .ok (.getfield 20, 3) := by decide +kernel
theorem dX4_spend_43 : decode cX4_spend 43 = .ok (.iload_n 1, 1) := by decide +kernel
theorem dX4_spend_44 : decode cX4_spend 44 = .ok (.iaload, 1) := by decide +kernel
theorem dX4_spend_45 : decode cX4_spend 45 = .ok (.istore 4, 2) := by decide +kernel
theorem dX4_spend_47 : decode cX4_spend 47 = .ok (.iconst 0, 1) := by decide +kernel
theorem dX4_spend_48 : decode cX4_spend 48 = .ok (.istore 5, 2) := by decide +kernel
theorem dX4_spend_50 : decode cX4_spend 50 = .ok (.iload 5, 2) := by decide +kernel
theorem dX4_spend_52 : decode cX4_spend 52 = .ok (.aload_n 0, 1) := by decide +kernel
theorem dX4_spend_53 : decode cX4_spend 53 = .ok (.getfield 29, 3) := by decide +kernel
theorem dX4_spend_56 : decode cX4_spend 56 = .ok (.getfield 62, 3) := by decide +kernel
theorem dX4_spend_59 : decode cX4_spend 59 = .ok (.if_icmp .ge 96, 3) := by decide +kernel
theorem dX4_spend_62 : decode cX4_spend 62 = .ok (.iload_n 2, 1) := by decide +kernel
theorem dX4_spend_63 : decode cX4_spend 63 = .ok (.iload 5, 2) := by decide +kernel
theorem dX4_spend_65 : decode cX4_spend 65 = .ok (.invokestatic 65, 3) := by decide +kernel
theorem dX4_spend_68 : decode cX4_spend 68 = .ok (.ifCond .ne 81, 3) := by decide +kernel
theorem dX4_spend_71 : decode cX4_spend 71 = .ok (.aload_n 0, 1) := by decide +kernel
theorem dX4_spend_72 : decode cX4_spend 72 = .ok (.getfield 33, 3) := by decide +kernel
theorem dX4_spend_75 : decode cX4_spend 75 = .ok (.iload 5, 2) := by decide +kernel
theorem dX4_spend_77 : decode cX4_spend 77 = .ok (.aload_n 0, 1) := by decide +kernel
theorem dX4_spend_78 : decode cX4_spend 78 = .ok (.getfield 11, 3) := by decide +kernel
theorem dX4_spend_81 : decode cX4_spend 81 = .ok (.iload_n 1, 1) := by decide +kernel
theorem dX4_spend_82 : decode cX4_spend 82 = .ok (.aaload, 1) := by decide +kernel
theorem dX4_spend_83 : decode cX4_spend 83 = .ok (.iload 5, 2) := by decide +kernel
theorem dX4_spend_85 : decode cX4_spend 85 = .ok (.iaload, 1) := by decide +kernel
theorem dX4_spend_86 : decode cX4_spend 86 = .ok (.iload_n 1, 1) := by decide +kernel
theorem dX4_spend_87 : decode cX4_spend 87 = .ok (.invokevirtual 79, 3) := by decide +kernel
theorem dX4_spend_90 : decode cX4_spend 90 = .ok (.istore 6, 2) := by decide +kernel
theorem dX4_spend_92 : decode cX4_spend 92 = .ok (.iload_n 3, 1) := by decide +kernel
theorem dX4_spend_93 : decode cX4_spend 93 = .ok (.iload 5, 2) := by decide +kernel
theorem dX4_spend_95 : decode cX4_spend 95 = .ok (.invokestatic 65, 3) := by decide +kernel
theorem dX4_spend_98 : decode cX4_spend 98 = .ok (.ifCond .eq 28, 3) := by decide +kernel
theorem dX4_spend_101 : decode cX4_spend 101 = .ok (.iload 4, 2) := by decide +kernel
theorem dX4_spend_103 : decode cX4_spend 103 = .ok (.iconst 0, 1) := by decide +kernel
theorem dX4_spend_104 : decode cX4_spend 104 = .ok (.aload_n 0, 1) := by decide +kernel
theorem dX4_spend_105 : decode cX4_spend 105 = .ok (.getfield 29, 3) := by decide +kernel
theorem dX4_spend_108 : decode cX4_spend 108 = .ok (.getfield 83, 3) := by decide +kernel
theorem dX4_spend_111 : decode cX4_spend 111 = .ok (.iload 5, 2) := by decide +kernel
theorem dX4_spend_113 : decode cX4_spend 113 = .ok (.iaload, 1) := by decide +kernel
theorem dX4_spend_114 : decode cX4_spend 114 = .ok (.iload 6, 2) := by decide +kernel
theorem dX4_spend_116 : decode cX4_spend 116 = .ok (.isub, 1) := by decide +kernel
theorem dX4_spend_117 : decode cX4_spend 117 = .ok (.invokestatic 86, 3) := by decide +kernel
theorem dX4_spend_120 : decode cX4_spend 120 = .ok (.iadd, 1) := by decide +kernel
theorem dX4_spend_121 : decode cX4_spend 121 = .ok (.istore 4, 2) := by decide +kernel
theorem dX4_spend_123 : decode cX4_spend 123 = .ok (.goto 26, 3) := by decide +kernel
theorem dX4_spend_126 : decode cX4_spend 126 = .ok (.aload_n 0, 1) := by decide +kernel
theorem dX4_spend_127 : decode cX4_spend 127 = .ok (.getfield 11, 3) := by decide +kernel
theorem dX4_spend_130 : decode cX4_spend 130 = .ok (.iload_n 1, 1) := by decide +kernel
theorem dX4_spend_131 : decode cX4_spend 131 = .ok (.iconst 1, 1) := by decide +kernel
theorem dX4_spend_132 : decode cX4_spend 132 = .ok (.iadd, 1) := by decide +kernel
theorem dX4_spend_133 : decode cX4_spend 133 = .ok (.aaload, 1) := by decide +kernel
theorem dX4_spend_134 : decode cX4_spend 134 = .ok (.iload 5, 2) := by decide +kernel
theorem dX4_spend_136 : decode cX4_spend 136 = .ok (.aload_n 0, 1) := by decide +kernel
theorem dX4_spend_137 : decode cX4_spend 137 = .ok (.getfield 33, 3) := by decide +kernel
theorem dX4_spend_140 : decode cX4_spend 140 = .ok (.iload 5, 2) := by decide +kernel
theorem dX4_spend_142 : decode cX4_spend 142 = .ok (.iload 6, 2) := by decide +kernel
theorem dX4_spend_144 : decode cX4_spend 144 = .ok (.iload_n 3, 1) := by decide +kernel
theorem dX4_spend_145 : decode cX4_spend 145 = .ok (.invokevirtual 92, 3) := by decide +kernel
theorem dX4_spend_148 : decode cX4_spend 148 = .ok (.iastore, 1) := by decide +kernel
theorem dX4_spend_149 : decode cX4_spend 149 = .ok (.iinc 5 1, 3) := by decide +kernel
theorem dX4_spend_152 : decode cX4_spend 152 = .ok (.goto (-102), 3) := by decide +kernel
theorem dX4_spend_155 : decode cX4_spend 155 = .ok (.aload_n 0, 1) := by decide +kernel
theorem dX4_spend_156 : decode cX4_spend 156 = .ok (.getfield 16, 3) := by decide +kernel
theorem dX4_spend_159 : decode cX4_spend 159 = .ok (.iload_n 1, 1) := by decide +kernel
theorem dX4_spend_160 : decode cX4_spend 160 = .ok (.iconst 1, 1) := by decide +kernel
theorem dX4_spend_161 : decode cX4_spend 161 = .ok (.iadd, 1) := by decide +kernel
theorem dX4_spend_162 : decode cX4_spend 162 = .ok (.iload_n 3, 1) := by decide +kernel
theorem dX4_spend_163 : decode cX4_spend 163 = .ok (.iastore, 1) := by decide +kernel
theorem dX4_spend_164 : decode cX4_spend 164 = .ok (.aload_n 0, 1) := by decide +kernel
theorem dX4_spend_165 : decode cX4_spend 165 = .ok (.getfield 20, 3) := by decide +kernel
theorem dX4_spend_168 : decode cX4_spend 168 = .ok (.iload_n 1, 1) := by decide +kernel
theorem dX4_spend_169 : decode cX4_spend 169 = .ok (.iconst 1, 1) := by decide +kernel
theorem dX4_spend_170 : decode cX4_spend 170 = .ok (.iadd, 1) := by decide +kernel
theorem dX4_spend_171 : decode cX4_spend 171 = .ok (.iload 4, 2) := by decide +kernel
theorem dX4_spend_173 : decode cX4_spend 173 = .ok (.iastore, 1) := by decide +kernel
theorem dX4_spend_174 : decode cX4_spend 174 = .ok (.return_, 1) := by decide +kernel
theorem dX5_areOfOneWidth_0 : decode cX5_areOfOneWidth 0 = .ok (.aload_n 0, 1) := by decide +kernel
theorem dX5_areOfOneWidth_1 : decode cX5_areOfOneWidth 1 = .ok (.getfield 9, 3) := by decide +kernel
theorem dX5_areOfOneWidth_4 : decode cX5_areOfOneWidth 4 = .ok (.iload_n 1, 1) := by decide +kernel
theorem dX5_areOfOneWidth_5 : decode cX5_areOfOneWidth 5 = .ok (.iaload, 1) := by decide +kernel
theorem dX5_areOfOneWidth_6 : decode cX5_areOfOneWidth 6 = .ok (.aload_n 0, 1) := by decide +kernel
theorem dX5_areOfOneWidth_7 : decode cX5_areOfOneWidth 7 = .ok (.getfield 9, 3) := by decide +kernel
theorem dX5_areOfOneWidth_10 : decode cX5_areOfOneWidth 10 = .ok (.iload_n 2, 1) := by decide +kernel
theorem dX5_areOfOneWidth_11 : decode cX5_areOfOneWidth 11 = .ok (.iaload, 1) := by decide +kernel
theorem dX5_areOfOneWidth_12 : decode cX5_areOfOneWidth 12 = .ok (.if_icmp .ne 7, 3) := by decide +kernel
theorem dX5_areOfOneWidth_15 : decode cX5_areOfOneWidth 15 = .ok (.iconst 1, 1) := by decide +kernel
theorem dX5_areOfOneWidth_16 : decode cX5_areOfOneWidth 16 = .ok (.goto 4, 3) := by decide +kernel
theorem dX5_areOfOneWidth_19 : decode cX5_areOfOneWidth 19 = .ok (.iconst 0, 1) := by decide +kernel
theorem dX5_areOfOneWidth_20 : decode cX5_areOfOneWidth 20 = .ok (.ireturn, 1) := by decide +kernel
theorem dX5_covers_0 : decode cX5_covers 0 = .ok (.iload_n 2, 1) := by decide +kernel
theorem dX5_covers_1 : decode cX5_covers 1 = .ok (.ifCond .lt 27, 3) := by decide +kernel
theorem dX5_covers_4 : decode cX5_covers 4 = .ok (.iload_n 3, 1) := by decide +kernel
theorem dX5_covers_5 : decode cX5_covers 5 = .ok (.ifCond .lt 23, 3) := by decide +kernel
theorem dX5_covers_8 : decode cX5_covers 8 = .ok (.iload_n 2, 1) := by decide +kernel
theorem dX5_covers_9 : decode cX5_covers 9 = .ok (.i2l, 1) := by decide +kernel
theorem dX5_covers_10 : decode cX5_covers 10 = .ok (.iload_n 3, 1) := by decide +kernel
theorem dX5_covers_11 : decode cX5_covers 11 = .ok (.i2l, 1) := by decide +kernel
theorem dX5_covers_12 : decode cX5_covers 12 = .ok (.ladd, 1) := by decide +kernel
theorem dX5_covers_13 : decode cX5_covers 13 = .ok (.aload_n 0, 1) := by decide +kernel
theorem dX5_covers_14 : decode cX5_covers 14 = .ok (.getfield 15, 3) := by decide +kernel
theorem dX5_covers_17 : decode cX5_covers 17 = .ok (.iload_n 1, 1) := by decide +kernel
theorem dX5_covers_18 : decode cX5_covers 18 = .ok (.iaload, 1) := by decide +kernel
theorem dX5_covers_19 : decode cX5_covers 19 = .ok (.i2l, 1) := by decide +kernel
theorem dX5_covers_20 : decode cX5_covers 20 = .ok (.lcmp, 1) := by decide +kernel
theorem dX5_covers_21 : decode cX5_covers 21 = .ok (.ifCond .gt 7, 3) := by decide +kernel
theorem dX5_covers_24 : decode cX5_covers 24 = .ok (.iconst 1, 1) := by decide +kernel
theorem dX5_covers_25 : decode cX5_covers 25 = .ok (.goto 4, 3) := by decide +kernel
theorem dX5_covers_28 : decode cX5_covers 28 = .ok (.iconst 0, 1) := by decide +kernel
theorem dX5_covers_29 : decode cX5_covers 29 = .ok (.ireturn, 1) := by decide +kernel
theorem dX5_cutTo_0 : decode cX5_cutTo 0 = .ok (.iload_n 0, 1) := by decide +kernel
theorem dX5_cutTo_1 : decode cX5_cutTo 1 = .ok (.tableswitch 41 0 2 #[27, 32, 37], 27) := by decide +kernel
theorem dX5_cutTo_28 : decode cX5_cutTo 28 = .ok (.lload_n 1, 1) := by decide +kernel
theorem dX5_cutTo_29 : decode cX5_cutTo 29 = .ok (.l2i, 1) := by decide +kernel
theorem dX5_cutTo_30 : decode cX5_cutTo 30 = .ok (.i2b, 1) := by decide +kernel
theorem dX5_cutTo_31 : decode cX5_cutTo 31 = .ok (.i2l, 1) := by decide +kernel
theorem dX5_cutTo_32 : decode cX5_cutTo 32 = .ok (.lreturn, 1) := by decide +kernel
theorem dX5_cutTo_33 : decode cX5_cutTo 33 = .ok (.lload_n 1, 1) := by decide +kernel
theorem dX5_cutTo_34 : decode cX5_cutTo 34 = .ok (.l2i, 1) := by decide +kernel
theorem dX5_cutTo_35 : decode cX5_cutTo 35 = .ok (.i2s, 1) := by decide +kernel
theorem dX5_cutTo_36 : decode cX5_cutTo 36 = .ok (.i2l, 1) := by decide +kernel
theorem dX5_cutTo_37 : decode cX5_cutTo 37 = .ok (.lreturn, 1) := by decide +kernel
theorem dX5_cutTo_38 : decode cX5_cutTo 38 = .ok (.lload_n 1, 1) := by decide +kernel
theorem dX5_cutTo_39 : decode cX5_cutTo 39 = .ok (.l2i, 1) := by decide +kernel
theorem dX5_cutTo_40 : decode cX5_cutTo 40 = .ok (.i2l, 1) := by decide +kernel
theorem dX5_cutTo_41 : decode cX5_cutTo 41 = .ok (.lreturn, 1) := by decide +kernel
theorem dX5_cutTo_42 : decode cX5_cutTo 42 = .ok (.lload_n 1, 1) := by decide +kernel
theorem dX5_cutTo_43 : decode cX5_cutTo 43 = .ok (.lreturn, 1) := by decide +kernel
theorem dX5_filled_0 : decode cX5_filled 0 = .ok (.iconst 0, 1) := by decide +kernel
theorem dX5_filled_1 : decode cX5_filled 1 = .ok (.istore_n 1, 1) := by decide +kernel
theorem dX5_filled_2 : decode cX5_filled 2 = .ok (.iconst 0, 1) := by decide +kernel
theorem dX5_filled_3 : decode cX5_filled 3 = .ok (.istore_n 2, 1) := by decide +kernel
theorem dX5_filled_4 : decode cX5_filled 4 = .ok (.iload_n 2, 1) := by decide +kernel
theorem dX5_filled_5 : decode cX5_filled 5 = .ok (.iconst 4, 1) := by decide +kernel
theorem dX5_filled_6 : decode cX5_filled 6 = .ok (.if_icmp .ge 25, 3) := by decide +kernel
theorem dX5_filled_9 : decode cX5_filled 9 = .ok (.iload_n 1, 1) := by decide +kernel
theorem dX5_filled_10 : decode cX5_filled 10 = .ok (.aload_n 0, 1) := by decide +kernel
theorem dX5_filled_11 : decode cX5_filled 11 = .ok (.iload_n 2, 1) := by decide +kernel
theorem dX5_filled_12 : decode cX5_filled 12 = .ok (.invokevirtual 22, 3) := by decide +kernel
theorem dX5_filled_15 : decode cX5_filled 15 = .ok (.ifCond .eq 7, 3) := by decide +kernel
theorem dX5_filled_18 : decode cX5_filled 18 = .ok (.iconst 0, 1) := by decide +kernel
theorem dX5_filled_19 : decode cX5_filled 19 = .ok (.goto 4, 3) := by decide +kernel
theorem dX5_filled_22 : decode cX5_filled 22 = .ok (.iconst 1, 1) := by decide +kernel
theorem dX5_filled_23 : decode cX5_filled 23 = .ok (.iadd, 1) := by decide +kernel
theorem dX5_filled_24 : decode cX5_filled 24 = .ok (.istore_n 1, 1) := by decide +kernel
theorem dX5_filled_25 : decode cX5_filled 25 = .ok (.iinc 2 1, 3) := by decide +kernel
theorem dX5_filled_28 : decode cX5_filled 28 = .ok (.goto (-24), 3) := by decide +kernel
theorem dX5_filled_31 : decode cX5_filled 31 = .ok (.iload_n 1, 1) := by decide +kernel
theorem dX5_filled_32 : decode cX5_filled 32 = .ok (.ireturn, 1) := by decide +kernel
theorem dX5_isBare_0 : decode cX5_isBare 0 = .ok (.aload_n 0, 1) := by decide +kernel
theorem dX5_isBare_1 : decode cX5_isBare 1 = .ok (.getfield 9, 3) := by decide +kernel
theorem dX5_isBare_4 : decode cX5_isBare 4 = .ok (.iload_n 1, 1) := by decide +kernel
theorem dX5_isBare_5 : decode cX5_isBare 5 = .ok (.iaload, 1) := by decide +kernel
theorem dX5_isBare_6 : decode cX5_isBare 6 = .ok (.iconst (-1), 1) := by decide +kernel
theorem dX5_isBare_7 : decode cX5_isBare 7 = .ok (.if_icmp .ne 7, 3) := by decide +kernel
theorem dX5_isBare_10 : decode cX5_isBare 10 = .ok (.iconst 1, 1) := by decide +kernel
theorem dX5_isBare_11 : decode cX5_isBare 11 = .ok (.goto 4, 3) := by decide +kernel
theorem dX5_isBare_14 : decode cX5_isBare 14 = .ok (.iconst 0, 1) := by decide +kernel
theorem dX5_isBare_15 : decode cX5_isBare 15 = .ok (.ireturn, 1) := by decide +kernel
theorem dX5_isSlot_0 : decode cX5_isSlot 0 = .ok (.iload_n 1, 1) := by decide +kernel
theorem dX5_isSlot_1 : decode cX5_isSlot 1 = .ok (.ifCond .lt 12, 3) := by decide +kernel
theorem dX5_isSlot_4 : decode cX5_isSlot 4 = .ok (.iload_n 1, 1) := by decide +kernel
theorem dX5_isSlot_5 : decode cX5_isSlot 5 = .ok (.iconst 4, 1) := by decide +kernel
theorem dX5_isSlot_6 : decode cX5_isSlot 6 = .ok (.if_icmp .ge 7, 3) := by decide +kernel
theorem dX5_isSlot_9 : decode cX5_isSlot 9 = .ok (.iconst 1, 1) := by decide +kernel
theorem dX5_isSlot_10 : decode cX5_isSlot 10 = .ok (.goto 4, 3) := by decide +kernel
theorem dX5_isSlot_13 : decode cX5_isSlot 13 = .ok (.iconst 0, 1) := by decide +kernel
theorem dX5_isSlot_14 : decode cX5_isSlot 14 = .ok (.ireturn, 1) := by decide +kernel
theorem dX5_lay_0 : decode cX5_lay 0 = .ok (.aload_n 0, 1) := by decide +kernel
theorem dX5_lay_1 : decode cX5_lay 1 = .ok (.getfield 9, 3) := by decide +kernel
theorem dX5_lay_4 : decode cX5_lay 4 = .ok (.iload_n 1, 1) := by decide +kernel
theorem dX5_lay_5 : decode cX5_lay 5 = .ok (.iload_n 2, 1) := by decide +kernel
theorem dX5_lay_6 : decode cX5_lay 6 = .ok (.iastore, 1) := by decide +kernel
theorem dX5_lay_7 : decode cX5_lay 7 = .ok (.aload_n 0, 1) := by decide +kernel
theorem dX5_lay_8 : decode cX5_lay 8 = .ok (.getfield 15, 3) := by decide +kernel
theorem dX5_lay_11 : decode cX5_lay 11 = .ok (.iload_n 1, 1) := by decide +kernel
theorem dX5_lay_12 : decode cX5_lay 12 = .ok (.iload_n 3, 1) := by decide +kernel
theorem dX5_lay_13 : decode cX5_lay 13 = .ok (.iastore, 1) := by decide +kernel
theorem dX5_lay_14 : decode cX5_lay 14 = .ok (.iload_n 1, 1) := by decide +kernel
theorem dX5_lay_15 : decode cX5_lay 15 = .ok (.bipush 60, 2) := by decide +kernel
theorem dX5_lay_17 : decode cX5_lay 17 = .ok (.imul, 1) := by decide +kernel
theorem dX5_lay_18 : decode cX5_lay 18 = .ok (.istore 4, 2) := by decide +kernel
theorem dX5_lay_20 : decode cX5_lay 20 = .ok (.aload_n 0, 1) := by decide +kernel
theorem dX5_lay_21 : decode cX5_lay 21 = .ok (.getfield 18, 3) := by decide +kernel
theorem dX5_lay_24 : decode cX5_lay 24 = .ok (.iload 4, 2) := by decide +kernel
theorem dX5_lay_26 : decode cX5_lay 26 = .ok (.iload 4, 2) := by decide +kernel
theorem dX5_lay_28 : decode cX5_lay 28 = .ok (.bipush 60, 2) := by decide +kernel
theorem dX5_lay_30 : decode cX5_lay 30 = .ok (.iadd, 1) := by decide +kernel
theorem dX5_lay_31 : decode cX5_lay 31 = .ok (.lconst 0, 1) := by decide +kernel
theorem dX5_lay_32 : decode cX5_lay 32 = .ok (.invokestatic 26, 3) := by decide +kernel
theorem dX5_lay_35 : decode cX5_lay 35 = .ok (.return_, 1) := by decide +kernel
theorem dX5_move_0 : decode cX5_move 0 = .ok (.aload_n 0, 1) := by decide +kernel
theorem dX5_move_1 : decode cX5_move 1 = .ok (.getfield 18, 3) := by decide +kernel
theorem dX5_move_4 : decode cX5_move 4 = .ok (.iload_n 1, 1) := by decide +kernel
theorem dX5_move_5 : decode cX5_move 5 = .ok (.bipush 60, 2) := by decide +kernel
theorem dX5_move_7 : decode cX5_move 7 = .ok (.imul, 1) := by decide +kernel
theorem dX5_move_8 : decode cX5_move 8 = .ok (.iload_n 2, 1) := by decide +kernel
theorem dX5_move_9 : decode cX5_move 9 = .ok (.iadd, 1) := by decide +kernel
theorem dX5_move_10 : decode cX5_move 10 = .ok (.aload_n 0, 1) := by decide +kernel
theorem dX5_move_11 : decode cX5_move 11 = .ok (.getfield 18, 3) := by decide +kernel
theorem dX5_move_14 : decode cX5_move 14 = .ok (.iload_n 3, 1) := by decide +kernel
theorem dX5_move_15 : decode cX5_move 15 = .ok (.bipush 60, 2) := by decide +kernel
theorem dX5_move_17 : decode cX5_move 17 = .ok (.imul, 1) := by decide +kernel
theorem dX5_move_18 : decode cX5_move 18 = .ok (.iload 4, 2) := by decide +kernel
theorem dX5_move_20 : decode cX5_move 20 = .ok (.iadd, 1) := by decide +kernel
theorem dX5_move_21 : decode cX5_move 21 = .ok (.iload 5, 2) := by decide +kernel
theorem dX5_move_23 : decode cX5_move 23 = .ok (.invokestatic 36, 3) := by decide +kernel
theorem dX5_move_26 : decode cX5_move 26 = .ok (.return_, 1) := by decide +kernel
theorem dX5_number_0 : decode cX5_number 0 = .ok (.aload_n 0, 1) := by decide +kernel
theorem dX5_number_1 : decode cX5_number 1 = .ok (.getfield 18, 3) := by decide +kernel
theorem dX5_number_4 : decode cX5_number 4 = .ok (.iload_n 1, 1) := by decide +kernel
theorem dX5_number_5 : decode cX5_number 5 = .ok (.bipush 60, 2) := by decide +kernel
theorem dX5_number_7 : decode cX5_number 7 = .ok (.imul, 1) := by decide +kernel
theorem dX5_number_8 : decode cX5_number 8 = .ok (.iload_n 2, 1) := by decide +kernel
theorem dX5_number_9 : decode cX5_number 9 = .ok (.iadd, 1) := by decide +kernel
theorem dX5_number_10 : decode cX5_number 10 = .ok (.laload, 1) := by decide +kernel
theorem dX5_number_11 : decode cX5_number 11 = .ok (.lreturn, 1) := by decide +kernel
theorem dX5_put_0 : decode cX5_put 0 = .ok (.aload_n 0, 1) := by decide +kernel
theorem dX5_put_1 : decode cX5_put 1 = .ok (.getfield 18, 3) := by decide +kernel
theorem dX5_put_4 : decode cX5_put 4 = .ok (.iload_n 1, 1) := by decide +kernel
theorem dX5_put_5 : decode cX5_put 5 = .ok (.bipush 60, 2) := by decide +kernel
theorem dX5_put_7 : decode cX5_put 7 = .ok (.imul, 1) := by decide +kernel
theorem dX5_put_8 : decode cX5_put 8 = .ok (.iload_n 2, 1) := by decide +kernel
theorem dX5_put_9 : decode cX5_put 9 = .ok (.iadd, 1) := by decide +kernel
theorem dX5_put_10 : decode cX5_put 10 = .ok (.aload_n 0, 1) := by decide +kernel
theorem dX5_put_11 : decode cX5_put 11 = .ok (.getfield 9, 3) := by decide +kernel
theorem dX5_put_14 : decode cX5_put 14 = .ok (.iload_n 1, 1) := by decide +kernel
theorem dX5_put_15 : decode cX5_put 15 = .ok (.iaload, 1) := by decide +kernel
theorem dX5_put_16 : decode cX5_put 16 = .ok (.lload_n 3, 1) := by decide +kernel
theorem dX5_put_17 : decode cX5_put 17 = .ok (.invokestatic 32, 3) := by decide +kernel
theorem dX5_put_20 : decode cX5_put 20 = .ok (.lastore, 1) := by decide +kernel
theorem dX5_put_21 : decode cX5_put 21 = .ok (.return_, 1) := by decide +kernel
theorem dX5_size_0 : decode cX5_size 0 = .ok (.aload_n 0, 1) := by decide +kernel
theorem dX5_size_1 : decode cX5_size 1 = .ok (.getfield 15, 3) := by decide +kernel
theorem dX5_size_4 : decode cX5_size 4 = .ok (.iload_n 1, 1) := by decide +kernel
theorem dX5_size_5 : decode cX5_size 5 = .ok (.iaload, 1) := by decide +kernel
theorem dX5_size_6 : decode cX5_size 6 = .ok (.ireturn, 1) := by decide +kernel
theorem dX6_addAct_0 : decode cX6_addAct 0 = .ok (.aload_n 0, 1) := by decide +kernel
theorem dX6_addAct_1 : decode cX6_addAct 1 = .ok (.getfield 61, 3) := by decide +kernel
theorem dX6_addAct_4 : decode cX6_addAct 4 = .ok (.bipush 20, 2) := by decide +kernel
theorem dX6_addAct_6 : decode cX6_addAct 6 = .ok (.if_icmp .ge 43, 3) := by decide +kernel
theorem dX6_addAct_9 : decode cX6_addAct 9 = .ok (.aload_n 0, 1) := by decide +kernel
theorem dX6_addAct_10 : decode cX6_addAct 10 = .ok (.getfield 33, 3) := by decide +kernel
theorem dX6_addAct_13 : decode cX6_addAct 13 = .ok (.aload_n 0, 1) := by decide +kernel
theorem dX6_addAct_14 : decode cX6_addAct 14 = .ok (.getfield 61, 3) := by decide +kernel
theorem dX6_addAct_17 : decode cX6_addAct 17 = .ok (.iload_n 1, 1) := by decide +kernel
theorem dX6_addAct_18 : decode cX6_addAct 18 = .ok (.iastore, 1) := by decide +kernel
theorem dX6_addAct_19 : decode cX6_addAct 19 = .ok (.aload_n 0, 1) := by decide +kernel
theorem dX6_addAct_20 : decode cX6_addAct 20 = .ok (.getfield 36, 3) := by decide +kernel
theorem dX6_addAct_23 : decode cX6_addAct 23 = .ok (.aload_n 0, 1) := by decide +kernel
theorem dX6_addAct_24 : decode cX6_addAct 24 = .ok (.getfield 61, 3) := by decide +kernel
theorem dX6_addAct_27 : decode cX6_addAct 27 = .ok (.iload_n 2, 1) := by decide +kernel
theorem dX6_addAct_28 : decode cX6_addAct 28 = .ok (.iastore, 1) := by decide +kernel
theorem dX6_addAct_29 : decode cX6_addAct 29 = .ok (.aload_n 0, 1) := by decide +kernel
theorem dX6_addAct_30 : decode cX6_addAct 30 = .ok (.getfield 39, 3) := by decide +kernel
theorem dX6_addAct_33 : decode cX6_addAct 33 = .ok (.aload_n 0, 1) := by decide +kernel
theorem dX6_addAct_34 : decode cX6_addAct 34 = .ok (.getfield 61, 3) := by decide +kernel
theorem dX6_addAct_37 : decode cX6_addAct 37 = .ok (.iload_n 3, 1) := by decide +kernel
theorem dX6_addAct_38 : decode cX6_addAct 38 = .ok (.iastore, 1) := by decide +kernel
theorem dX6_addAct_39 : decode cX6_addAct 39 = .ok (.aload_n 0, 1) := by decide +kernel
theorem dX6_addAct_40 : decode cX6_addAct 40 = .ok (.dup, 1) := by decide +kernel
theorem dX6_addAct_41 : decode cX6_addAct 41 = .ok (.getfield 61, 3) := by decide +kernel
theorem dX6_addAct_44 : decode cX6_addAct 44 = .ok (.iconst 1, 1) := by decide +kernel
theorem dX6_addAct_45 : decode cX6_addAct 45 = .ok (.iadd, 1) := by decide +kernel
theorem dX6_addAct_46 : decode cX6_addAct 46 = .ok (.putfield 61, 3) := by decide +kernel
theorem dX6_addAct_49 : decode cX6_addAct 49 = .ok (.return_, 1) := by decide +kernel
theorem dX6_addFold_0 : decode cX6_addFold 0 = .ok (.aload_n 0, 1) := by decide +kernel
theorem dX6_addFold_1 : decode cX6_addFold 1 = .ok (.getfield 55, 3) := by decide +kernel
theorem dX6_addFold_4 : decode cX6_addFold 4 = .ok (.bipush 10, 2) := by decide +kernel
theorem dX6_addFold_6 : decode cX6_addFold 6 = .ok (.if_icmp .ge 33, 3) := by decide +kernel
theorem dX6_addFold_9 : decode cX6_addFold 9 = .ok (.aload_n 0, 1) := by decide +kernel
theorem dX6_addFold_10 : decode cX6_addFold 10 = .ok (.getfield 21, 3) := by decide +kernel
theorem dX6_addFold_13 : decode cX6_addFold 13 = .ok (.aload_n 0, 1) := by decide +kernel
theorem dX6_addFold_14 : decode cX6_addFold 14 = .ok (.getfield 55, 3) := by decide +kernel
theorem dX6_addFold_17 : decode cX6_addFold 17 = .ok (.iload_n 1, 1) := by decide +kernel
theorem dX6_addFold_18 : decode cX6_addFold 18 = .ok (.iastore, 1) := by decide +kernel
theorem dX6_addFold_19 : decode cX6_addFold 19 = .ok (.aload_n 0, 1) := by decide +kernel
theorem dX6_addFold_20 : decode cX6_addFold 20 = .ok (.getfield 24, 3) := by decide +kernel
theorem dX6_addFold_23 : decode cX6_addFold 23 = .ok (.aload_n 0, 1) := by decide +kernel
theorem dX6_addFold_24 : decode cX6_addFold 24 = .ok (.getfield 55, 3) := by decide +kernel
theorem dX6_addFold_27 : decode cX6_addFold 27 = .ok (.iload_n 2, 1) := by decide +kernel
theorem dX6_addFold_28 : decode cX6_addFold 28 = .ok (.iastore, 1) := by decide +kernel
theorem dX6_addFold_29 : decode cX6_addFold 29 = .ok (.aload_n 0, 1) := by decide +kernel
theorem dX6_addFold_30 : decode cX6_addFold 30 = .ok (.dup, 1) := by decide +kernel
theorem dX6_addFold_31 : decode cX6_addFold 31 = .ok (.getfield 55, 3) := by decide +kernel
theorem dX6_addFold_34 : decode cX6_addFold 34 = .ok (.iconst 1, 1) := by decide +kernel
theorem dX6_addFold_35 : decode cX6_addFold 35 = .ok (.iadd, 1) := by decide +kernel
theorem dX6_addFold_36 : decode cX6_addFold 36 = .ok (.putfield 55, 3) := by decide +kernel
theorem dX6_addFold_39 : decode cX6_addFold 39 = .ok (.return_, 1) := by decide +kernel
theorem dX6_addKnife_0 : decode cX6_addKnife 0 = .ok (.aload_n 0, 1) := by decide +kernel
theorem dX6_addKnife_1 : decode cX6_addKnife 1 = .ok (.getfield 58, 3) := by decide +kernel
theorem dX6_addKnife_4 : decode cX6_addKnife 4 = .ok (.bipush 8, 2) := by decide +kernel
theorem dX6_addKnife_6 : decode cX6_addKnife 6 = .ok (.if_icmp .ge 33, 3) := by decide +kernel
theorem dX6_addKnife_9 : decode cX6_addKnife 9 = .ok (.aload_n 0, 1) := by decide +kernel
theorem dX6_addKnife_10 : decode cX6_addKnife 10 = .ok (.getfield 27, 3) := by decide +kernel
theorem dX6_addKnife_13 : decode cX6_addKnife 13 = .ok (.aload_n 0, 1) := by decide +kernel
theorem dX6_addKnife_14 : decode cX6_addKnife 14 = .ok (.getfield 58, 3) := by decide +kernel
theorem dX6_addKnife_17 : decode cX6_addKnife 17 = .ok (.iload_n 1, 1) := by decide +kernel
theorem dX6_addKnife_18 : decode cX6_addKnife 18 = .ok (.iastore, 1) := by decide +kernel
theorem dX6_addKnife_19 : decode cX6_addKnife 19 = .ok (.aload_n 0, 1) := by decide +kernel
theorem dX6_addKnife_20 : decode cX6_addKnife 20 = .ok (.getfield 30, 3) := by decide +kernel
theorem dX6_addKnife_23 : decode cX6_addKnife 23 = .ok (.aload_n 0, 1) := by decide +kernel
theorem dX6_addKnife_24 : decode cX6_addKnife 24 = .ok (.getfield 58, 3) := by decide +kernel
theorem dX6_addKnife_27 : decode cX6_addKnife 27 = .ok (.iload_n 2, 1) := by decide +kernel
theorem dX6_addKnife_28 : decode cX6_addKnife 28 = .ok (.iastore, 1) := by decide +kernel
theorem dX6_addKnife_29 : decode cX6_addKnife 29 = .ok (.aload_n 0, 1) := by decide +kernel
theorem dX6_addKnife_30 : decode cX6_addKnife 30 = .ok (.dup, 1) := by decide +kernel
theorem dX6_addKnife_31 : decode cX6_addKnife 31 = .ok (.getfield 58, 3) := by decide +kernel
theorem dX6_addKnife_34 : decode cX6_addKnife 34 = .ok (.iconst 1, 1) := by decide +kernel
theorem dX6_addKnife_35 : decode cX6_addKnife 35 = .ok (.iadd, 1) := by decide +kernel
theorem dX6_addKnife_36 : decode cX6_addKnife 36 = .ok (.putfield 58, 3) := by decide +kernel
theorem dX6_addKnife_39 : decode cX6_addKnife 39 = .ok (.return_, 1) := by decide +kernel
theorem dX6_addPart_0 : decode cX6_addPart 0 = .ok (.aload_n 0, 1) := by decide +kernel
theorem dX6_addPart_1 : decode cX6_addPart 1 = .ok (.getfield 52, 3) := by decide +kernel
theorem dX6_addPart_4 : decode cX6_addPart 4 = .ok (.bipush 6, 2) := by decide +kernel
theorem dX6_addPart_6 : decode cX6_addPart 6 = .ok (.if_icmp .ge 43, 3) := by decide +kernel
theorem dX6_addPart_9 : decode cX6_addPart 9 = .ok (.aload_n 0, 1) := by decide +kernel
theorem dX6_addPart_10 : decode cX6_addPart 10 = .ok (.getfield 9, 3) := by decide +kernel
theorem dX6_addPart_13 : decode cX6_addPart 13 = .ok (.aload_n 0, 1) := by decide +kernel
theorem dX6_addPart_14 : decode cX6_addPart 14 = .ok (.getfield 52, 3) := by decide +kernel
theorem dX6_addPart_17 : decode cX6_addPart 17 = .ok (.iload_n 1, 1) := by decide +kernel
theorem dX6_addPart_18 : decode cX6_addPart 18 = .ok (.iastore, 1) := by decide +kernel
theorem dX6_addPart_19 : decode cX6_addPart 19 = .ok (.aload_n 0, 1) := by decide +kernel
theorem dX6_addPart_20 : decode cX6_addPart 20 = .ok (.getfield 15, 3) := by decide +kernel
theorem dX6_addPart_23 : decode cX6_addPart 23 = .ok (.aload_n 0, 1) := by decide +kernel
theorem dX6_addPart_24 : decode cX6_addPart 24 = .ok (.getfield 52, 3) := by decide +kernel
theorem dX6_addPart_27 : decode cX6_addPart 27 = .ok (.iload_n 2, 1) := by decide +kernel
theorem dX6_addPart_28 : decode cX6_addPart 28 = .ok (.iastore, 1) := by decide +kernel
theorem dX6_addPart_29 : decode cX6_addPart 29 = .ok (.aload_n 0, 1) := by decide +kernel
theorem dX6_addPart_30 : decode cX6_addPart 30 = .ok (.getfield 18, 3) := by decide +kernel
theorem dX6_addPart_33 : decode cX6_addPart 33 = .ok (.aload_n 0, 1) := by decide +kernel
theorem dX6_addPart_34 : decode cX6_addPart 34 = .ok (.getfield 52, 3) := by decide +kernel
theorem dX6_addPart_37 : decode cX6_addPart 37 = .ok (.iload_n 3, 1) := by decide +kernel
theorem dX6_addPart_38 : decode cX6_addPart 38 = .ok (.iastore, 1) := by decide +kernel
theorem dX6_addPart_39 : decode cX6_addPart 39 = .ok (.aload_n 0, 1) := by decide +kernel
theorem dX6_addPart_40 : decode cX6_addPart 40 = .ok (.dup, 1) := by decide +kernel
theorem dX6_addPart_41 : decode cX6_addPart 41 = .ok (.getfield 52, 3) := by decide +kernel
theorem dX6_addPart_44 : decode cX6_addPart 44 = .ok (.iconst 1, 1) := by decide +kernel
theorem dX6_addPart_45 : decode cX6_addPart 45 = .ok (.iadd, 1) := by decide +kernel
theorem dX6_addPart_46 : decode cX6_addPart 46 = .ok (.putfield 52, 3) := by decide +kernel
theorem dX6_addPart_49 : decode cX6_addPart 49 = .ok (.return_, 1) := by decide +kernel
theorem dX6_areJoined_0 : decode cX6_areJoined 0 = .ok (.iconst 0, 1) := by decide +kernel
theorem dX6_areJoined_1 : decode cX6_areJoined 1 = .ok (.istore_n 3, 1) := by decide +kernel
theorem dX6_areJoined_2 : decode cX6_areJoined 2 = .ok (.iload_n 3, 1) := by decide +kernel
theorem dX6_areJoined_3 : decode cX6_areJoined 3 = .ok (.aload_n 0, 1) := by decide +kernel
theorem dX6_areJoined_4 : decode cX6_areJoined 4 = .ok (.getfield 55, 3) := by decide +kernel
theorem dX6_areJoined_7 : decode cX6_areJoined 7 = .ok (.if_icmp .ge 75, 3) := by decide +kernel
theorem dX6_areJoined_10 : decode cX6_areJoined 10 = .ok (.aload_n 0, 1) := by decide +kernel
theorem dX6_areJoined_11 : decode cX6_areJoined 11 = .ok (.getfield 21, 3) := by decide +kernel
theorem dX6_areJoined_14 : decode cX6_areJoined 14 = .ok (.iload_n 3, 1) := by decide +kernel
theorem dX6_areJoined_15 : decode cX6_areJoined 15 = .ok (.iaload, 1) := by decide +kernel
theorem dX6_areJoined_16 : decode cX6_areJoined 16 = .ok (.iload_n 1, 1) := by decide +kernel
theorem dX6_areJoined_17 : decode cX6_areJoined 17 = .ok (.if_icmp .ne 17, 3) := by decide +kernel
theorem dX6_areJoined_20 : decode cX6_areJoined 20 = .ok (.aload_n 0, 1) := by decide +kernel
theorem dX6_areJoined_21 : decode cX6_areJoined 21 = .ok (.getfield 24, 3) := by decide +kernel
theorem dX6_areJoined_24 : decode cX6_areJoined 24 = .ok (.iload_n 3, 1) := by decide +kernel
theorem dX6_areJoined_25 : decode cX6_areJoined 25 = .ok (.iaload, 1) := by decide +kernel
theorem dX6_areJoined_26 : decode cX6_areJoined 26 = .ok (.iload_n 2, 1) := by decide +kernel
theorem dX6_areJoined_27 : decode cX6_areJoined 27 = .ok (.if_icmp .ne 7, 3) := by decide +kernel
theorem dX6_areJoined_30 : decode cX6_areJoined 30 = .ok (.iconst 1, 1) := by decide +kernel
theorem dX6_areJoined_31 : decode cX6_areJoined 31 = .ok (.goto 4, 3) := by decide +kernel
theorem dX6_areJoined_34 : decode cX6_areJoined 34 = .ok (.iconst 0, 1) := by decide +kernel
theorem dX6_areJoined_35 : decode cX6_areJoined 35 = .ok (.istore 4, 2) := by decide +kernel
theorem dX6_areJoined_37 : decode cX6_areJoined 37 = .ok (.aload_n 0, 1) := by decide +kernel
theorem dX6_areJoined_38 : decode cX6_areJoined 38 = .ok (.getfield 21, 3) := by decide +kernel
theorem dX6_areJoined_41 : decode cX6_areJoined 41 = .ok (.iload_n 3, 1) := by decide +kernel
theorem dX6_areJoined_42 : decode cX6_areJoined 42 = .ok (.iaload, 1) := by decide +kernel
theorem dX6_areJoined_43 : decode cX6_areJoined 43 = .ok (.iload_n 2, 1) := by decide +kernel
theorem dX6_areJoined_44 : decode cX6_areJoined 44 = .ok (.if_icmp .ne 17, 3) := by decide +kernel
theorem dX6_areJoined_47 : decode cX6_areJoined 47 = .ok (.aload_n 0, 1) := by decide +kernel
theorem dX6_areJoined_48 : decode cX6_areJoined 48 = .ok (.getfield 24, 3) := by decide +kernel
theorem dX6_areJoined_51 : decode cX6_areJoined 51 = .ok (.iload_n 3, 1) := by decide +kernel
theorem dX6_areJoined_52 : decode cX6_areJoined 52 = .ok (.iaload, 1) := by decide +kernel
theorem dX6_areJoined_53 : decode cX6_areJoined 53 = .ok (.iload_n 1, 1) := by decide +kernel
theorem dX6_areJoined_54 : decode cX6_areJoined 54 = .ok (.if_icmp .ne 7, 3) := by decide +kernel
theorem dX6_areJoined_57 : decode cX6_areJoined 57 = .ok (.iconst 1, 1) := by decide +kernel
theorem dX6_areJoined_58 : decode cX6_areJoined 58 = .ok (.goto 4, 3) := by decide +kernel
theorem dX6_areJoined_61 : decode cX6_areJoined 61 = .ok (.iconst 0, 1) := by decide +kernel
theorem dX6_areJoined_62 : decode cX6_areJoined 62 = .ok (.istore 5, 2) := by decide +kernel
theorem dX6_areJoined_64 : decode cX6_areJoined 64 = .ok (.iload 4, 2) := by decide +kernel
theorem dX6_areJoined_66 : decode cX6_areJoined 66 = .ok (.ifCond .ne 8, 3) := by decide +kernel
theorem dX6_areJoined_69 : decode cX6_areJoined 69 = .ok (.iload 5, 2) := by decide +kernel
theorem dX6_areJoined_71 : decode cX6_areJoined 71 = .ok (.ifCond .eq 5, 3) := by decide +kernel
theorem dX6_areJoined_74 : decode cX6_areJoined 74 = .ok (.iconst 1, 1) := by decide +kernel
theorem dX6_areJoined_75 : decode cX6_areJoined 75 = .ok (.ireturn, 1) := by decide +kernel
theorem dX6_areJoined_76 : decode cX6_areJoined 76 = .ok (.iinc 3 1, 3) := by decide +kernel
theorem dX6_areJoined_79 : decode cX6_areJoined 79 = .ok (.goto (-77), 3) := by decide +kernel
theorem dX6_areJoined_82 : decode cX6_areJoined 82 = .ok (.iconst 0, 1) := by decide +kernel
theorem dX6_areJoined_83 : decode cX6_areJoined 83 = .ok (.ireturn, 1) := by decide +kernel
theorem dX6_become_0 : decode cX6_become 0 = .ok (.aload_n 0, 1) := by decide +kernel
theorem dX6_become_1 : decode cX6_become 1 = .ok (.aload_n 1, 1) := by decide +kernel
theorem dX6_become_2 : decode cX6_become 2 = .ok (.getfield 42, 3) := by decide +kernel
theorem dX6_become_5 : decode cX6_become 5 = .ok (.putfield 42, 3) := by decide +kernel
theorem dX6_become_8 : decode cX6_become 8 = .ok (.aload_n 0, 1) := by decide +kernel
theorem dX6_become_9 : decode cX6_become 9 = .ok (.aload_n 1, 1) := by decide +kernel
theorem dX6_become_10 : decode cX6_become 10 = .ok (.getfield 46, 3) := by decide +kernel
theorem dX6_become_13 : decode cX6_become 13 = .ok (.putfield 46, 3) := by decide +kernel
theorem dX6_become_16 : decode cX6_become 16 = .ok (.aload_n 0, 1) := by decide +kernel
theorem dX6_become_17 : decode cX6_become 17 = .ok (.aload_n 1, 1) := by decide +kernel
theorem dX6_become_18 : decode cX6_become 18 = .ok (.getfield 49, 3) := by decide +kernel
theorem dX6_become_21 : decode cX6_become 21 = .ok (.putfield 49, 3) := by decide +kernel
theorem dX6_become_24 : decode cX6_become 24 = .ok (.aload_n 0, 1) := by decide +kernel
theorem dX6_become_25 : decode cX6_become 25 = .ok (.aload_n 1, 1) := by decide +kernel
theorem dX6_become_26 : decode cX6_become 26 = .ok (.getfield 52, 3) := by decide +kernel
theorem dX6_become_29 : decode cX6_become 29 = .ok (.putfield 52, 3) := by decide +kernel
theorem dX6_become_32 : decode cX6_become 32 = .ok (.aload_n 0, 1) := by decide +kernel
theorem dX6_become_33 : decode cX6_become 33 = .ok (.aload_n 1, 1) := by decide +kernel
theorem dX6_become_34 : decode cX6_become 34 = .ok (.getfield 55, 3) := by decide +kernel
theorem dX6_become_37 : decode cX6_become 37 = .ok (.putfield 55, 3) := by decide +kernel
theorem dX6_become_40 : decode cX6_become 40 = .ok (.aload_n 0, 1) := by decide +kernel
theorem dX6_become_41 : decode cX6_become 41 = .ok (.aload_n 1, 1) := by decide +kernel
theorem dX6_become_42 : decode cX6_become 42 = .ok (.getfield 58, 3) := by decide +kernel
theorem dX6_become_45 : decode cX6_become 45 = .ok (.putfield 58, 3) := by decide +kernel
theorem dX6_become_48 : decode cX6_become 48 = .ok (.aload_n 0, 1) := by decide +kernel
theorem dX6_become_49 : decode cX6_become 49 = .ok (.aload_n 1, 1) := by decide +kernel
theorem dX6_become_50 : decode cX6_become 50 = .ok (.getfield 61, 3) := by decide +kernel
theorem dX6_become_53 : decode cX6_become 53 = .ok (.putfield 61, 3) := by decide +kernel
theorem dX6_become_56 : decode cX6_become 56 = .ok (.aload_n 0, 1) := by decide +kernel
theorem dX6_become_57 : decode cX6_become 57 = .ok (.aload_n 1, 1) := by decide +kernel
theorem dX6_become_58 : decode cX6_become 58 = .ok (.getfield 64, 3) := by decide +kernel
theorem dX6_become_61 : decode cX6_become 61 = .ok (.putfield 64, 3) := by decide +kernel
theorem dX6_become_64 : decode cX6_become 64 = .ok (.aload_n 1, 1) := by decide +kernel
theorem dX6_become_65 : decode cX6_become 65 = .ok (.getfield 9, 3) := by decide +kernel
theorem dX6_become_68 : decode cX6_become 68 = .ok (.iconst 0, 1) := by decide +kernel
theorem dX6_become_69 : decode cX6_become 69 = .ok (.aload_n 0, 1) := by decide +kernel
theorem dX6_become_70 : decode cX6_become 70 = .ok (.getfield 9, 3) := by decide +kernel
theorem dX6_become_73 : decode cX6_become 73 = .ok (.iconst 0, 1) := by decide +kernel
theorem dX6_become_74 : decode cX6_become 74 = .ok (.bipush 6, 2) := by decide +kernel
theorem dX6_become_76 : decode cX6_become 76 = .ok (.invokestatic 67, 3) := by decide +kernel
theorem dX6_become_79 : decode cX6_become 79 = .ok (.aload_n 1, 1) := by decide +kernel
theorem dX6_become_80 : decode cX6_become 80 = .ok (.getfield 15, 3) := by decide +kernel
theorem dX6_become_83 : decode cX6_become 83 = .ok (.iconst 0, 1) := by decide +kernel
theorem dX6_become_84 : decode cX6_become 84 = .ok (.aload_n 0, 1) := by decide +kernel
theorem dX6_become_85 : decode cX6_become 85 = .ok (.getfield 15, 3) := by decide +kernel
theorem dX6_become_88 : decode cX6_become 88 = .ok (.iconst 0, 1) := by decide +kernel
theorem dX6_become_89 : decode cX6_become 89 = .ok (.bipush 6, 2) := by decide +kernel
theorem dX6_become_91 : decode cX6_become 91 = .ok (.invokestatic 67, 3) := by decide +kernel
theorem dX6_become_94 : decode cX6_become 94 = .ok (.aload_n 1, 1) := by decide +kernel
theorem dX6_become_95 : decode cX6_become 95 = .ok (.getfield 18, 3) := by decide +kernel
theorem dX6_become_98 : decode cX6_become 98 = .ok (.iconst 0, 1) := by decide +kernel
theorem dX6_become_99 : decode cX6_become 99 = .ok (.aload_n 0, 1) := by decide +kernel
theorem dX6_become_100 : decode cX6_become 100 = .ok (.getfield 18, 3) := by decide +kernel
theorem dX6_become_103 : decode cX6_become 103 = .ok (.iconst 0, 1) := by decide +kernel
theorem dX6_become_104 : decode cX6_become 104 = .ok (.bipush 6, 2) := by decide +kernel
theorem dX6_become_106 : decode cX6_become 106 = .ok (.invokestatic 67, 3) := by decide +kernel
theorem dX6_become_109 : decode cX6_become 109 = .ok (.aload_n 1, 1) := by decide +kernel
theorem dX6_become_110 : decode cX6_become 110 = .ok (.getfield 21, 3) := by decide +kernel
theorem dX6_become_113 : decode cX6_become 113 = .ok (.iconst 0, 1) := by decide +kernel
theorem dX6_become_114 : decode cX6_become 114 = .ok (.aload_n 0, 1) := by decide +kernel
theorem dX6_become_115 : decode cX6_become 115 = .ok (.getfield 21, 3) := by decide +kernel
theorem dX6_become_118 : decode cX6_become 118 = .ok (.iconst 0, 1) := by decide +kernel
theorem dX6_become_119 : decode cX6_become 119 = .ok (.bipush 10, 2) := by decide +kernel
theorem dX6_become_121 : decode cX6_become 121 = .ok (.invokestatic 67, 3) := by decide +kernel
theorem dX6_become_124 : decode cX6_become 124 = .ok (.aload_n 1, 1) := by decide +kernel
theorem dX6_become_125 : decode cX6_become 125 = .ok (.getfield 24, 3) := by decide +kernel
theorem dX6_become_128 : decode cX6_become 128 = .ok (.iconst 0, 1) := by decide +kernel
theorem dX6_become_129 : decode cX6_become 129 = .ok (.aload_n 0, 1) := by decide +kernel
theorem dX6_become_130 : decode cX6_become 130 = .ok (.getfield 24, 3) := by decide +kernel
theorem dX6_become_133 : decode cX6_become 133 = .ok (.iconst 0, 1) := by decide +kernel
theorem dX6_become_134 : decode cX6_become 134 = .ok (.bipush 10, 2) := by decide +kernel
theorem dX6_become_136 : decode cX6_become 136 = .ok (.invokestatic 67, 3) := by decide +kernel
theorem dX6_become_139 : decode cX6_become 139 = .ok (.aload_n 1, 1) := by decide +kernel
theorem dX6_become_140 : decode cX6_become 140 = .ok (.getfield 27, 3) := by decide +kernel
theorem dX6_become_143 : decode cX6_become 143 = .ok (.iconst 0, 1) := by decide +kernel
theorem dX6_become_144 : decode cX6_become 144 = .ok (.aload_n 0, 1) := by decide +kernel
theorem dX6_become_145 : decode cX6_become 145 = .ok (.getfield 27, 3) := by decide +kernel
theorem dX6_become_148 : decode cX6_become 148 = .ok (.iconst 0, 1) := by decide +kernel
theorem dX6_become_149 : decode cX6_become 149 = .ok (.bipush 8, 2) := by decide +kernel
theorem dX6_become_151 : decode cX6_become 151 = .ok (.invokestatic 67, 3) := by decide +kernel
theorem dX6_become_154 : decode cX6_become 154 = .ok (.aload_n 1, 1) := by decide +kernel
theorem dX6_become_155 : decode cX6_become 155 = .ok (.getfield 30, 3) := by decide +kernel
theorem dX6_become_158 : decode cX6_become 158 = .ok (.iconst 0, 1) := by decide +kernel
theorem dX6_become_159 : decode cX6_become 159 = .ok (.aload_n 0, 1) := by decide +kernel
theorem dX6_become_160 : decode cX6_become 160 = .ok (.getfield 30, 3) := by decide +kernel
theorem dX6_become_163 : decode cX6_become 163 = .ok (.iconst 0, 1) := by decide +kernel
theorem dX6_become_164 : decode cX6_become 164 = .ok (.bipush 8, 2) := by decide +kernel
theorem dX6_become_166 : decode cX6_become 166 = .ok (.invokestatic 67, 3) := by decide +kernel
theorem dX6_become_169 : decode cX6_become 169 = .ok (.aload_n 1, 1) := by decide +kernel
theorem dX6_become_170 : decode cX6_become 170 = .ok (.getfield 33, 3) := by decide +kernel
theorem dX6_become_173 : decode cX6_become 173 = .ok (.iconst 0, 1) := by decide +kernel
theorem dX6_become_174 : decode cX6_become 174 = .ok (.aload_n 0, 1) := by decide +kernel
theorem dX6_become_175 : decode cX6_become 175 = .ok (.getfield 33, 3) := by decide +kernel
theorem dX6_become_178 : decode cX6_become 178 = .ok (.iconst 0, 1) := by decide +kernel
theorem dX6_become_179 : decode cX6_become 179 = .ok (.bipush 20, 2) := by decide +kernel
theorem dX6_become_181 : decode cX6_become 181 = .ok (.invokestatic 67, 3) := by decide +kernel
theorem dX6_become_184 : decode cX6_become 184 = .ok (.aload_n 1, 1) := by decide +kernel
theorem dX6_become_185 : decode cX6_become 185 = .ok (.getfield 36, 3) := by decide +kernel
theorem dX6_become_188 : decode cX6_become 188 = .ok (.iconst 0, 1) := by decide +kernel
theorem dX6_become_189 : decode cX6_become 189 = .ok (.aload_n 0, 1) := by decide +kernel
theorem dX6_become_190 : decode cX6_become 190 = .ok (.getfield 36, 3) := by decide +kernel
theorem dX6_become_193 : decode cX6_become 193 = .ok (.iconst 0, 1) := by decide +kernel
theorem dX6_become_194 : decode cX6_become 194 = .ok (.bipush 20, 2) := by decide +kernel
theorem dX6_become_196 : decode cX6_become 196 = .ok (.invokestatic 67, 3) := by decide +kernel
theorem dX6_become_199 : decode cX6_become 199 = .ok (.aload_n 1, 1) := by decide +kernel
theorem dX6_become_200 : decode cX6_become 200 = .ok (.getfield 39, 3) := by decide +kernel
theorem dX6_become_203 : decode cX6_become 203 = .ok (.iconst 0, 1) := by decide +kernel
theorem dX6_become_204 : decode cX6_become 204 = .ok (.aload_n 0, 1) := by decide +kernel
theorem dX6_become_205 : decode cX6_become 205 = .ok (.getfield 39, 3) := by decide +kernel
theorem dX6_become_208 : decode cX6_become 208 = .ok (.iconst 0, 1) := by decide +kernel
theorem dX6_become_209 : decode cX6_become 209 = .ok (.bipush 20, 2) := by decide +kernel
theorem dX6_become_211 : decode cX6_become 211 = .ok (.invokestatic 67, 3) := by decide +kernel
theorem dX6_become_214 : decode cX6_become 214 = .ok (.return_, 1) := by decide +kernel
theorem dX6_clear_0 : decode cX6_clear 0 = .ok (.aload_n 0, 1) := by decide +kernel
theorem dX6_clear_1 : decode cX6_clear 1 = .ok (.iconst 0, 1) := by decide +kernel
theorem dX6_clear_2 : decode cX6_clear 2 = .ok (.putfield 42, 3) := by decide +kernel
theorem dX6_clear_5 : decode cX6_clear 5 = .ok (.aload_n 0, 1) := by decide +kernel
theorem dX6_clear_6 : decode cX6_clear 6 = .ok (.iconst 0, 1) := by decide +kernel
theorem dX6_clear_7 : decode cX6_clear 7 = .ok (.putfield 46, 3) := by decide +kernel
theorem dX6_clear_10 : decode cX6_clear 10 = .ok (.aload_n 0, 1) := by decide +kernel
theorem dX6_clear_11 : decode cX6_clear 11 = .ok (.iconst 0, 1) := by decide +kernel
theorem dX6_clear_12 : decode cX6_clear 12 = .ok (.putfield 49, 3) := by decide +kernel
theorem dX6_clear_15 : decode cX6_clear 15 = .ok (.aload_n 0, 1) := by decide +kernel
theorem dX6_clear_16 : decode cX6_clear 16 = .ok (.iconst 0, 1) := by decide +kernel
theorem dX6_clear_17 : decode cX6_clear 17 = .ok (.putfield 52, 3) := by decide +kernel
theorem dX6_clear_20 : decode cX6_clear 20 = .ok (.aload_n 0, 1) := by decide +kernel
theorem dX6_clear_21 : decode cX6_clear 21 = .ok (.iconst 0, 1) := by decide +kernel
theorem dX6_clear_22 : decode cX6_clear 22 = .ok (.putfield 55, 3) := by decide +kernel
theorem dX6_clear_25 : decode cX6_clear 25 = .ok (.aload_n 0, 1) := by decide +kernel
theorem dX6_clear_26 : decode cX6_clear 26 = .ok (.iconst 0, 1) := by decide +kernel
theorem dX6_clear_27 : decode cX6_clear 27 = .ok (.putfield 58, 3) := by decide +kernel
theorem dX6_clear_30 : decode cX6_clear 30 = .ok (.aload_n 0, 1) := by decide +kernel
theorem dX6_clear_31 : decode cX6_clear 31 = .ok (.iconst 0, 1) := by decide +kernel
theorem dX6_clear_32 : decode cX6_clear 32 = .ok (.putfield 61, 3) := by decide +kernel
theorem dX6_clear_35 : decode cX6_clear 35 = .ok (.aload_n 0, 1) := by decide +kernel
theorem dX6_clear_36 : decode cX6_clear 36 = .ok (.iconst 0, 1) := by decide +kernel
theorem dX6_clear_37 : decode cX6_clear 37 = .ok (.putfield 64, 3) := by decide +kernel
theorem dX6_clear_40 : decode cX6_clear 40 = .ok (.return_, 1) := by decide +kernel
theorem dX6_everyKnife_0 : decode cX6_everyKnife 0 = .ok (.iconst 1, 1) := by decide +kernel
theorem dX6_everyKnife_1 : decode cX6_everyKnife 1 = .ok (.aload_n 0, 1) := by decide +kernel
theorem dX6_everyKnife_2 : decode cX6_everyKnife 2 = .ok (.getfield 58, 3) := by decide +kernel
theorem dX6_everyKnife_5 : decode cX6_everyKnife 5 = .ok (.ishl, 1) := by decide +kernel
theorem dX6_everyKnife_6 : decode cX6_everyKnife 6 = .ok (.iconst 1, 1) := by decide +kernel
theorem dX6_everyKnife_7 : decode cX6_everyKnife 7 = .ok (.isub, 1) := by decide +kernel
theorem dX6_everyKnife_8 : decode cX6_everyKnife 8 = .ok (.ireturn, 1) := by decide +kernel
theorem dX6_everyPart_0 : decode cX6_everyPart 0 = .ok (.iconst 1, 1) := by decide +kernel
theorem dX6_everyPart_1 : decode cX6_everyPart 1 = .ok (.aload_n 0, 1) := by decide +kernel
theorem dX6_everyPart_2 : decode cX6_everyPart 2 = .ok (.getfield 52, 3) := by decide +kernel
theorem dX6_everyPart_5 : decode cX6_everyPart 5 = .ok (.ishl, 1) := by decide +kernel
theorem dX6_everyPart_6 : decode cX6_everyPart 6 = .ok (.iconst 1, 1) := by decide +kernel
theorem dX6_everyPart_7 : decode cX6_everyPart 7 = .ok (.isub, 1) := by decide +kernel
theorem dX6_everyPart_8 : decode cX6_everyPart 8 = .ok (.ireturn, 1) := by decide +kernel
theorem dX6_hasPart_0 : decode cX6_hasPart 0 = .ok (.iload_n 1, 1) := by decide +kernel
theorem dX6_hasPart_1 : decode cX6_hasPart 1 = .ok (.ifCond .lt 15, 3) := by decide +kernel
theorem dX6_hasPart_4 : decode cX6_hasPart 4 = .ok (.iload_n 1, 1) := by decide +kernel
theorem dX6_hasPart_5 : decode cX6_hasPart 5 = .ok (.aload_n 0, 1) := by decide +kernel
theorem dX6_hasPart_6 : decode cX6_hasPart 6 = .ok (.getfield 52, 3) := by decide +kernel
theorem dX6_hasPart_9 : decode cX6_hasPart 9 = .ok (.if_icmp .ge 7, 3) := by decide +kernel
theorem dX6_hasPart_12 : decode cX6_hasPart 12 = .ok (.iconst 1, 1) := by decide +kernel
theorem dX6_hasPart_13 : decode cX6_hasPart 13 = .ok (.goto 4, 3) := by decide +kernel
theorem dX6_hasPart_16 : decode cX6_hasPart 16 = .ok (.iconst 0, 1) := by decide +kernel
theorem dX6_hasPart_17 : decode cX6_hasPart 17 = .ok (.ireturn, 1) := by decide +kernel
theorem dX6_hasWorkingYear_0 : decode cX6_hasWorkingYear 0 = .ok (.iload_n 1, 1) := by decide +kernel
theorem dX6_hasWorkingYear_1 : decode cX6_hasWorkingYear 1 = .ok (.ifCond .lt 15, 3) := by decide +kernel
theorem dX6_hasWorkingYear_4 : decode cX6_hasWorkingYear 4 = .ok (.iload_n 1, 1) := by decide +kernel
theorem dX6_hasWorkingYear_5 : decode cX6_hasWorkingYear 5 = .ok (.aload_n 0, 1) := by decide +kernel
theorem dX6_hasWorkingYear_6 : decode cX6_hasWorkingYear 6 = .ok (.getfield 42, 3) := by decide +kernel
theorem dX6_hasWorkingYear_9 : decode cX6_hasWorkingYear 9 = .ok (.if_icmp .ge 7, 3) := by decide +kernel
theorem dX6_hasWorkingYear_12 : decode cX6_hasWorkingYear 12 = .ok (.iconst 1, 1) := by decide +kernel
theorem dX6_hasWorkingYear_13 : decode cX6_hasWorkingYear 13 = .ok (.goto 4, 3) := by decide +kernel
theorem dX6_hasWorkingYear_16 : decode cX6_hasWorkingYear 16 = .ok (.iconst 0, 1) := by decide +kernel
theorem dX6_hasWorkingYear_17 : decode cX6_hasWorkingYear 17 = .ok (.ireturn, 1) := by decide +kernel
theorem dX6_hasYear_0 : decode cX6_hasYear 0 = .ok (.aload_n 0, 1) := by decide +kernel
theorem dX6_hasYear_1 : decode cX6_hasYear 1 = .ok (.invokevirtual 73, 3) := by decide +kernel
theorem dX6_hasYear_4 : decode cX6_hasYear 4 = .ok (.ifCond .eq 19, 3) := by decide +kernel
theorem dX6_hasYear_7 : decode cX6_hasYear 7 = .ok (.iload_n 1, 1) := by decide +kernel
theorem dX6_hasYear_8 : decode cX6_hasYear 8 = .ok (.ifCond .lt 15, 3) := by decide +kernel
theorem dX6_hasYear_11 : decode cX6_hasYear 11 = .ok (.iload_n 1, 1) := by decide +kernel
theorem dX6_hasYear_12 : decode cX6_hasYear 12 = .ok (.aload_n 0, 1) := by decide +kernel
theorem dX6_hasYear_13 : decode cX6_hasYear 13 = .ok (.getfield 42, 3) := by decide +kernel
theorem dX6_hasYear_16 : decode cX6_hasYear 16 = .ok (.if_icmp .gt 7, 3) := by decide +kernel
theorem dX6_hasYear_19 : decode cX6_hasYear 19 = .ok (.iconst 1, 1) := by decide +kernel
theorem dX6_hasYear_20 : decode cX6_hasYear 20 = .ok (.goto 4, 3) := by decide +kernel
theorem dX6_hasYear_23 : decode cX6_hasYear 23 = .ok (.iconst 0, 1) := by decide +kernel
theorem dX6_hasYear_24 : decode cX6_hasYear 24 = .ok (.ireturn, 1) := by decide +kernel
theorem dX6_isTold_0 : decode cX6_isTold 0 = .ok (.aload_n 0, 1) := by decide +kernel
theorem dX6_isTold_1 : decode cX6_isTold 1 = .ok (.getfield 64, 3) := by decide +kernel
theorem dX6_isTold_4 : decode cX6_isTold 4 = .ok (.ifCond .le 7, 3) := by decide +kernel
theorem dX6_isTold_7 : decode cX6_isTold 7 = .ok (.iconst 1, 1) := by decide +kernel
theorem dX6_isTold_8 : decode cX6_isTold 8 = .ok (.goto 4, 3) := by decide +kernel
theorem dX6_isTold_11 : decode cX6_isTold 11 = .ok (.iconst 0, 1) := by decide +kernel
theorem dX6_isTold_12 : decode cX6_isTold 12 = .ok (.ireturn, 1) := by decide +kernel
theorem dX6_joinedWith_0 : decode cX6_joinedWith 0 = .ok (.iconst 1, 1) := by decide +kernel
theorem dX6_joinedWith_1 : decode cX6_joinedWith 1 = .ok (.iload_n 1, 1) := by decide +kernel
theorem dX6_joinedWith_2 : decode cX6_joinedWith 2 = .ok (.ishl, 1) := by decide +kernel
theorem dX6_joinedWith_3 : decode cX6_joinedWith 3 = .ok (.istore_n 2, 1) := by decide +kernel
theorem dX6_joinedWith_4 : decode cX6_joinedWith 4 = .ok (.iconst 1, 1) := by decide +kernel
theorem dX6_joinedWith_5 : decode cX6_joinedWith 5 = .ok (.istore_n 3, 1) := by decide +kernel
theorem dX6_joinedWith_6 : decode cX6_joinedWith 6 = .ok (.iload_n 3, 1) := by decide +kernel
theorem dX6_joinedWith_7 : decode cX6_joinedWith 7 = .ok (.bipush 6, 2) := by decide +kernel
theorem dX6_joinedWith_9 : decode cX6_joinedWith 9 = .ok (.if_icmp .ge 15, 3) := by decide +kernel
theorem dX6_joinedWith_12 : decode cX6_joinedWith 12 = .ok (.aload_n 0, 1) := by decide +kernel
theorem dX6_joinedWith_13 : decode cX6_joinedWith 13 = .ok (.iload_n 2, 1) := by decide +kernel
theorem dX6_joinedWith_14 : decode cX6_joinedWith 14 = .ok (.invokevirtual 85, 3) := by decide +kernel
theorem dX6_joinedWith_17 : decode cX6_joinedWith 17 = .ok (.istore_n 2, 1) := by decide +kernel
theorem dX6_joinedWith_18 : decode cX6_joinedWith 18 = .ok (.iinc 3 1, 3) := by decide +kernel
theorem dX6_joinedWith_21 : decode cX6_joinedWith 21 = .ok (.goto (-15), 3) := by decide +kernel
theorem dX6_joinedWith_24 : decode cX6_joinedWith 24 = .ok (.iload_n 2, 1) := by decide +kernel
theorem dX6_joinedWith_25 : decode cX6_joinedWith 25 = .ok (.ireturn, 1) := by decide +kernel
theorem dX6_neighbours_0 : decode cX6_neighbours 0 = .ok (.iconst 0, 1) := by decide +kernel
theorem dX6_neighbours_1 : decode cX6_neighbours 1 = .ok (.istore_n 3, 1) := by decide +kernel
theorem dX6_neighbours_2 : decode cX6_neighbours 2 = .ok (.iconst 0, 1) := by decide +kernel
theorem dX6_neighbours_3 : decode cX6_neighbours 3 = .ok (.istore 4, 2) := by decide +kernel
theorem dX6_neighbours_5 : decode cX6_neighbours 5 = .ok (.iload 4, 2) := by decide +kernel
theorem dX6_neighbours_7 : decode cX6_neighbours 7 = .ok (.aload_n 0, 1) := by decide +kernel
theorem dX6_neighbours_8 : decode cX6_neighbours 8 = .ok (.getfield 55, 3) := by decide +kernel
theorem dX6_neighbours_11 : decode cX6_neighbours 11 = .ok (.if_icmp .ge 67, 3) := by decide +kernel
theorem dX6_neighbours_14 : decode cX6_neighbours 14 = .ok (.iload 4, 2) := by decide +kernel
theorem dX6_neighbours_16 : decode cX6_neighbours 16 = .ok (.iload_n 2, 1) := by decide +kernel
theorem dX6_neighbours_17 : decode cX6_neighbours 17 = .ok (.if_icmp .eq 26, 3) := by decide +kernel
theorem dX6_neighbours_20 : decode cX6_neighbours 20 = .ok (.aload_n 0, 1) := by decide +kernel
theorem dX6_neighbours_21 : decode cX6_neighbours 21 = .ok (.getfield 21, 3) := by decide +kernel
theorem dX6_neighbours_24 : decode cX6_neighbours 24 = .ok (.iload 4, 2) := by decide +kernel
theorem dX6_neighbours_26 : decode cX6_neighbours 26 = .ok (.iaload, 1) := by decide +kernel
theorem dX6_neighbours_27 : decode cX6_neighbours 27 = .ok (.iload_n 1, 1) := by decide +kernel
theorem dX6_neighbours_28 : decode cX6_neighbours 28 = .ok (.if_icmp .ne 15, 3) := by decide +kernel
theorem dX6_neighbours_31 : decode cX6_neighbours 31 = .ok (.iload_n 3, 1) := by decide +kernel
theorem dX6_neighbours_32 : decode cX6_neighbours 32 = .ok (.iconst 1, 1) := by decide +kernel
theorem dX6_neighbours_33 : decode cX6_neighbours 33 = .ok (.aload_n 0, 1) := by decide +kernel
theorem dX6_neighbours_34 : decode cX6_neighbours 34 = .ok (.getfield 24, 3) := by decide +kernel
theorem dX6_neighbours_37 : decode cX6_neighbours 37 = .ok (.iload 4, 2) := by decide +kernel
theorem dX6_neighbours_39 : decode cX6_neighbours 39 = .ok (.iaload, 1) := by decide +kernel
theorem dX6_neighbours_40 : decode cX6_neighbours 40 = .ok (.ishl, 1) := by decide +kernel
theorem dX6_neighbours_41 : decode cX6_neighbours 41 = .ok (.ior, 1) := by decide +kernel
theorem dX6_neighbours_42 : decode cX6_neighbours 42 = .ok (.istore_n 3, 1) := by decide +kernel
theorem dX6_neighbours_43 : decode cX6_neighbours 43 = .ok (.iload 4, 2) := by decide +kernel
theorem dX6_neighbours_45 : decode cX6_neighbours 45 = .ok (.iload_n 2, 1) := by decide +kernel
theorem dX6_neighbours_46 : decode cX6_neighbours 46 = .ok (.if_icmp .eq 26, 3) := by decide +kernel
theorem dX6_neighbours_49 : decode cX6_neighbours 49 = .ok (.aload_n 0, 1) := by decide +kernel
theorem dX6_neighbours_50 : decode cX6_neighbours 50 = .ok (.getfield 24, 3) := by decide +kernel
theorem dX6_neighbours_53 : decode cX6_neighbours 53 = .ok (.iload 4, 2) := by decide +kernel
theorem dX6_neighbours_55 : decode cX6_neighbours 55 = .ok (.iaload, 1) := by decide +kernel
theorem dX6_neighbours_56 : decode cX6_neighbours 56 = .ok (.iload_n 1, 1) := by decide +kernel
theorem dX6_neighbours_57 : decode cX6_neighbours 57 = .ok (.if_icmp .ne 15, 3) := by decide +kernel
theorem dX6_neighbours_60 : decode cX6_neighbours 60 = .ok (.iload_n 3, 1) := by decide +kernel
theorem dX6_neighbours_61 : decode cX6_neighbours 61 = .ok (.iconst 1, 1) := by decide +kernel
theorem dX6_neighbours_62 : decode cX6_neighbours 62 = .ok (.aload_n 0, 1) := by decide +kernel
theorem dX6_neighbours_63 : decode cX6_neighbours 63 = .ok (.getfield 21, 3) := by decide +kernel
theorem dX6_neighbours_66 : decode cX6_neighbours 66 = .ok (.iload 4, 2) := by decide +kernel
theorem dX6_neighbours_68 : decode cX6_neighbours 68 = .ok (.iaload, 1) := by decide +kernel
theorem dX6_neighbours_69 : decode cX6_neighbours 69 = .ok (.ishl, 1) := by decide +kernel
theorem dX6_neighbours_70 : decode cX6_neighbours 70 = .ok (.ior, 1) := by decide +kernel
theorem dX6_neighbours_71 : decode cX6_neighbours 71 = .ok (.istore_n 3, 1) := by decide +kernel
theorem dX6_neighbours_72 : decode cX6_neighbours 72 = .ok (.iinc 4 1, 3) := by decide +kernel
theorem dX6_neighbours_75 : decode cX6_neighbours 75 = .ok (.goto (-70), 3) := by decide +kernel
theorem dX6_neighbours_78 : decode cX6_neighbours 78 = .ok (.iload_n 3, 1) := by decide +kernel
theorem dX6_neighbours_79 : decode cX6_neighbours 79 = .ok (.ireturn, 1) := by decide +kernel
theorem dX6_spread_0 : decode cX6_spread 0 = .ok (.iload_n 1, 1) := by decide +kernel
theorem dX6_spread_1 : decode cX6_spread 1 = .ok (.istore_n 2, 1) := by decide +kernel
theorem dX6_spread_2 : decode cX6_spread 2 = .ok (.iconst 0, 1) := by decide +kernel
theorem dX6_spread_3 : decode cX6_spread 3 = .ok (.istore_n 3, 1) := by decide +kernel
theorem dX6_spread_4 : decode cX6_spread 4 = .ok (.iload_n 3, 1) := by decide +kernel
theorem dX6_spread_5 : decode cX6_spread 5 = .ok (.aload_n 0, 1) := by decide +kernel
theorem dX6_spread_6 : decode cX6_spread 6 = .ok (.getfield 52, 3) := by decide +kernel
theorem dX6_spread_9 : decode cX6_spread 9 = .ok (.if_icmp .ge 26, 3) := by decide +kernel
theorem dX6_spread_12 : decode cX6_spread 12 = .ok (.iload_n 1, 1) := by decide +kernel
theorem dX6_spread_13 : decode cX6_spread 13 = .ok (.iload_n 3, 1) := by decide +kernel
theorem dX6_spread_14 : decode cX6_spread 14 = .ok (.invokestatic 77, 3) := by decide +kernel
theorem dX6_spread_17 : decode cX6_spread 17 = .ok (.ifCond .eq 12, 3) := by decide +kernel
theorem dX6_spread_20 : decode cX6_spread 20 = .ok (.iload_n 2, 1) := by decide +kernel
theorem dX6_spread_21 : decode cX6_spread 21 = .ok (.aload_n 0, 1) := by decide +kernel
theorem dX6_spread_22 : decode cX6_spread 22 = .ok (.iload_n 3, 1) := by decide +kernel
theorem dX6_spread_23 : decode cX6_spread 23 = .ok (.iconst (-1), 1) := by decide +kernel
theorem dX6_spread_24 : decode cX6_spread 24 = .ok (.invokevirtual 81, 3) := by decide +kernel
theorem dX6_spread_27 : decode cX6_spread 27 = .ok (.ior, 1) := by decide +kernel
theorem dX6_spread_28 : decode cX6_spread 28 = .ok (.istore_n 2, 1) := by decide +kernel
theorem dX6_spread_29 : decode cX6_spread 29 = .ok (.iinc 3 1, 3) := by decide +kernel
theorem dX6_spread_32 : decode cX6_spread 32 = .ok (.goto (-28), 3) := by decide +kernel
theorem dX6_spread_35 : decode cX6_spread 35 = .ok (.iload_n 2, 1) := by decide +kernel
theorem dX6_spread_36 : decode cX6_spread 36 = .ok (.ireturn, 1) := by decide +kernel
theorem dX7_append_0 : decode cX7_append 0 = .ok (.bipush 24, 2) := by decide +kernel
theorem dX7_append_2 : decode cX7_append 2 = .ok (.istore_n 2, 1) := by decide +kernel
theorem dX7_append_3 : decode cX7_append 3 = .ok (.iload_n 2, 1) := by decide +kernel
theorem dX7_append_4 : decode cX7_append 4 = .ok (.ifCond .lt 42, 3) := by decide +kernel
theorem dX7_append_7 : decode cX7_append 7 = .ok (.aload_n 0, 1) := by decide +kernel
theorem dX7_append_8 : decode cX7_append 8 = .ok (.getfield 15, 3) := by decide +kernel
theorem dX7_append_11 : decode cX7_append 11 = .ok (.sipush 700, 3) := by decide +kernel
theorem dX7_append_14 : decode cX7_append 14 = .ok (.if_icmp .ge 32, 3) := by decide +kernel
theorem dX7_append_17 : decode cX7_append 17 = .ok (.aload_n 0, 1) := by decide +kernel
theorem dX7_append_18 : decode cX7_append 18 = .ok (.getfield 9, 3) := by decide +kernel
theorem dX7_append_21 : decode cX7_append 21 = .ok (.aload_n 0, 1) := by decide +kernel
theorem dX7_append_22 : decode cX7_append 22 = .ok (.getfield 15, 3) := by decide +kernel
theorem dX7_append_25 : decode cX7_append 25 = .ok (.iload_n 1, 1) := by decide +kernel
theorem dX7_append_26 : decode cX7_append 26 = .ok (.iload_n 2, 1) := by decide +kernel
theorem dX7_append_27 : decode cX7_append 27 = .ok (.ishr, 1) := by decide +kernel
theorem dX7_append_28 : decode cX7_append 28 = .ok (.i2b, 1) := by decide +kernel
theorem dX7_append_29 : decode cX7_append 29 = .ok (.bastore, 1) := by decide +kernel
theorem dX7_append_30 : decode cX7_append 30 = .ok (.aload_n 0, 1) := by decide +kernel
theorem dX7_append_31 : decode cX7_append 31 = .ok (.dup, 1) := by decide +kernel
theorem dX7_append_32 : decode cX7_append 32 = .ok (.getfield 15, 3) := by decide +kernel
theorem dX7_append_35 : decode cX7_append 35 = .ok (.iconst 1, 1) := by decide +kernel
theorem dX7_append_36 : decode cX7_append 36 = .ok (.iadd, 1) := by decide +kernel
theorem dX7_append_37 : decode cX7_append 37 = .ok (.putfield 15, 3) := by decide +kernel
theorem dX7_append_40 : decode cX7_append 40 = .ok (.iinc 2 (-8), 3) := by decide +kernel
theorem dX7_append_43 : decode cX7_append 43 = .ok (.goto (-40), 3) := by decide +kernel
theorem dX7_append_46 : decode cX7_append 46 = .ok (.return_, 1) := by decide +kernel
theorem dX7_at_0 : decode cX7_at 0 = .ok (.iload_n 1, 1) := by decide +kernel
theorem dX7_at_1 : decode cX7_at 1 = .ok (.ifCond .lt 24, 3) := by decide +kernel
theorem dX7_at_4 : decode cX7_at 4 = .ok (.iload_n 1, 1) := by decide +kernel
theorem dX7_at_5 : decode cX7_at 5 = .ok (.aload_n 0, 1) := by decide +kernel
theorem dX7_at_6 : decode cX7_at 6 = .ok (.getfield 15, 3) := by decide +kernel
theorem dX7_at_9 : decode cX7_at 9 = .ok (.if_icmp .ge 16, 3) := by decide +kernel
theorem dX7_at_12 : decode cX7_at 12 = .ok (.aload_n 0, 1) := by decide +kernel
theorem dX7_at_13 : decode cX7_at 13 = .ok (.getfield 9, 3) := by decide +kernel
theorem dX7_at_16 : decode cX7_at 16 = .ok (.iload_n 1, 1) := by decide +kernel
theorem dX7_at_17 : decode cX7_at 17 = .ok (.baload, 1) := by decide +kernel
theorem dX7_at_18 : decode cX7_at 18 = .ok (.sipush 255, 3) := by decide +kernel
theorem dX7_at_21 : decode cX7_at 21 = .ok (.iand, 1) := by decide +kernel
theorem dX7_at_22 : decode cX7_at 22 = .ok (.goto 4, 3) := by decide +kernel
theorem dX7_at_25 : decode cX7_at 25 = .ok (.iconst (-1), 1) := by decide +kernel
theorem dX7_at_26 : decode cX7_at 26 = .ok (.ireturn, 1) := by decide +kernel
theorem dX7_hasRoomForFive_0 : decode cX7_hasRoomForFive 0 = .ok (.aload_n 0, 1) := by decide +kernel
theorem dX7_hasRoomForFive_1 : decode cX7_hasRoomForFive 1 = .ok (.getfield 15, 3) := by decide +kernel
theorem dX7_hasRoomForFive_4 : decode cX7_hasRoomForFive 4 = .ok (.bipush 20, 2) := by decide +kernel
theorem dX7_hasRoomForFive_6 : decode cX7_hasRoomForFive 6 = .ok (.iadd, 1) := by decide +kernel
theorem dX7_hasRoomForFive_7 : decode cX7_hasRoomForFive 7 = .ok (.sipush 700, 3) := by decide +kernel
theorem dX7_hasRoomForFive_10 : decode cX7_hasRoomForFive 10 = .ok (.if_icmp .gt 7, 3) := by decide +kernel
theorem dX7_hasRoomForFive_13 : decode cX7_hasRoomForFive 13 = .ok (.iconst 1, 1) := by decide +kernel
theorem dX7_hasRoomForFive_14 : decode cX7_hasRoomForFive 14 = .ok (.goto 4, 3) := by decide +kernel
theorem dX7_hasRoomForFive_17 : decode cX7_hasRoomForFive 17 = .ok (.iconst 0, 1) := by decide +kernel
theorem dX7_hasRoomForFive_18 : decode cX7_hasRoomForFive 18 = .ok (.ireturn, 1) := by decide +kernel
theorem dX8_ages_0 : decode cX8_ages 0 = .ok (.aload_n 0, 1) := by decide +kernel
theorem dX8_ages_1 : decode cX8_ages 1 = .ok (.getfield 32, 3) := by decide +kernel
theorem dX8_ages_4 : decode cX8_ages 4 = .ok (.iload_n 1, 1) := by decide +kernel
theorem dX8_ages_5 : decode cX8_ages 5 = .ok (.invokevirtual 127, 3) := by decide +kernel
theorem dX8_ages_8 : decode cX8_ages 8 = .ok (.ifCond .ne 6, 3) := by decide +kernel
theorem dX8_ages_11 : decode cX8_ages 11 = .ok (.bipush (-100), 2) := by decide +kernel
theorem dX8_ages_13 : decode cX8_ages 13 = .ok (.ireturn, 1) := by decide +kernel
theorem dX8_ages_14 : decode cX8_ages 14 = .ok (.aload_n 0, 1) := by decide +kernel
theorem dX8_ages_15 : decode cX8_ages 15 = .ok (.invokevirtual 189, 3) := by decide +kernel
theorem dX8_ages_18 : decode cX8_ages 18 = .ok (.iload_n 1, 1) := by decide +kernel
theorem dX8_ages_19 : decode cX8_ages 19 = .ok (.aload_n 0, 1) := by decide +kernel
theorem dX8_ages_20 : decode cX8_ages 20 = .ok (.getfield 32, 3) := by decide +kernel
theorem dX8_ages_23 : decode cX8_ages 23 = .ok (.getfield 168, 3) := by decide +kernel
theorem dX8_ages_26 : decode cX8_ages 26 = .ok (.invokevirtual 193, 3) := by decide +kernel
theorem dX8_ages_29 : decode cX8_ages 29 = .ok (.aload_n 0, 1) := by decide +kernel
theorem dX8_ages_30 : decode cX8_ages 30 = .ok (.getfield 32, 3) := by decide +kernel
theorem dX8_ages_33 : decode cX8_ages 33 = .ok (.getfield 138, 3) := by decide +kernel
theorem dX8_ages_36 : decode cX8_ages 36 = .ok (.iload_n 1, 1) := by decide +kernel
theorem dX8_ages_37 : decode cX8_ages 37 = .ok (.iaload, 1) := by decide +kernel
theorem dX8_ages_38 : decode cX8_ages 38 = .ok (.isub, 1) := by decide +kernel
theorem dX8_ages_39 : decode cX8_ages 39 = .ok (.ireturn, 1) := by decide +kernel
theorem dX8_air_0 : decode cX8_air 0 = .ok (.aload_n 0, 1) := by decide +kernel
theorem dX8_air_1 : decode cX8_air 1 = .ok (.iload_n 1, 1) := by decide +kernel
theorem dX8_air_2 : decode cX8_air 2 = .ok (.iload_n 2, 1) := by decide +kernel
theorem dX8_air_3 : decode cX8_air 3 = .ok (.invokevirtual 371, 3) := by decide +kernel
theorem dX8_air_6 : decode cX8_air 6 = .ok (.istore_n 3, 1) := by decide +kernel
theorem dX8_air_7 : decode cX8_air 7 = .ok (.iload_n 3, 1) := by decide +kernel
theorem dX8_air_8 : decode cX8_air 8 = .ok (.ifCond .eq 5, 3) := by decide +kernel
theorem dX8_air_11 : decode cX8_air 11 = .ok (.iload_n 3, 1) := by decide +kernel
theorem dX8_air_12 : decode cX8_air 12 = .ok (.ireturn, 1) := by decide +kernel
theorem dX8_air_13 : decode cX8_air 13 = .ok (.aload_n 0, 1) := by decide +kernel
theorem dX8_air_14 : decode cX8_air 14 = .ok (.getfield 32, 3) := by decide +kernel
theorem dX8_air_17 : decode cX8_air 17 = .ok (.iconst 1, 1) := by decide +kernel
theorem dX8_air_18 : decode cX8_air 18 = .ok (.iload_n 1, 1) := by decide +kernel
theorem dX8_air_19 : decode cX8_air 19 = .ok (.iload_n 2, 1) := by decide +kernel
theorem dX8_air_20 : decode cX8_air 20 = .ok (.invokevirtual 374, 3) := by decide +kernel
theorem dX8_air_23 : decode cX8_air 23 = .ok (.aload_n 0, 1) := by decide +kernel
theorem dX8_air_24 : decode cX8_air 24 = .ok (.invokevirtual 115, 3) := by decide +kernel
theorem dX8_air_27 : decode cX8_air 27 = .ok (.aload_n 0, 1) := by decide +kernel
theorem dX8_air_28 : decode cX8_air 28 = .ok (.invokevirtual 189, 3) := by decide +kernel
theorem dX8_air_31 : decode cX8_air 31 = .ok (.iload_n 1, 1) := by decide +kernel
theorem dX8_air_32 : decode cX8_air 32 = .ok (.aload_n 0, 1) := by decide +kernel
theorem dX8_air_33 : decode cX8_air 33 = .ok (.getfield 32, 3) := by decide +kernel
theorem dX8_air_36 : decode cX8_air 36 = .ok (.getfield 168, 3) := by decide +kernel
theorem dX8_air_39 : decode cX8_air 39 = .ok (.invokevirtual 193, 3) := by decide +kernel
theorem dX8_air_42 : decode cX8_air 42 = .ok (.ireturn, 1) := by decide +kernel
theorem dX8_all_0 : decode cX8_all 0 = .ok (.aload_n 0, 1) := by decide +kernel
theorem dX8_all_1 : decode cX8_all 1 = .ok (.getfield 32, 3) := by decide +kernel
theorem dX8_all_4 : decode cX8_all 4 = .ok (.invokevirtual 153, 3) := by decide +kernel
theorem dX8_all_7 : decode cX8_all 7 = .ok (.ifCond .eq 13, 3) := by decide +kernel
theorem dX8_all_10 : decode cX8_all 10 = .ok (.aload_n 0, 1) := by decide +kernel
theorem dX8_all_11 : decode cX8_all 11 = .ok (.invokevirtual 189, 3) := by decide +kernel
theorem dX8_all_14 : decode cX8_all 14 = .ok (.invokevirtual 217, 3) := by decide +kernel
theorem dX8_all_17 : decode cX8_all 17 = .ok (.goto 5, 3) := by decide +kernel
theorem dX8_all_20 : decode cX8_all 20 = .ok (.bipush (-2), 2) := by decide +kernel
theorem dX8_all_22 : decode cX8_all 22 = .ok (.ireturn, 1) := by decide +kernel
theorem dX8_anew_0 : decode cX8_anew 0 = .ok (.aload_n 0, 1) := by decide +kernel
theorem dX8_anew_1 : decode cX8_anew 1 = .ok (.getfield 32, 3) := by decide +kernel
theorem dX8_anew_4 : decode cX8_anew 4 = .ok (.invokevirtual 153, 3) := by decide +kernel
theorem dX8_anew_7 : decode cX8_anew 7 = .ok (.ifCond .ne 6, 3) := by decide +kernel
theorem dX8_anew_10 : decode cX8_anew 10 = .ok (.bipush (-2), 2) := by decide +kernel
theorem dX8_anew_12 : decode cX8_anew 12 = .ok (.ireturn, 1) := by decide +kernel
theorem dX8_anew_13 : decode cX8_anew 13 = .ok (.aload_n 0, 1) := by decide +kernel
theorem dX8_anew_14 : decode cX8_anew 14 = .ok (.getfield 32, 3) := by decide +kernel
theorem dX8_anew_17 : decode cX8_anew 17 = .ok (.getfield 179, 3) := by decide +kernel
theorem dX8_anew_20 : decode cX8_anew 20 = .ok (.istore_n 1, 1) := by decide +kernel
theorem dX8_anew_21 : decode cX8_anew 21 = .ok (.aload_n 0, 1) := by decide +kernel
theorem dX8_anew_22 : decode cX8_anew 22 = .ok (.getfield 32, 3) := by decide +kernel
theorem dX8_anew_25 : decode cX8_anew 25 = .ok (.iconst 0, 1) := by decide +kernel
theorem dX8_anew_26 : decode cX8_anew 26 = .ok (.putfield 179, 3) := by decide +kernel
theorem dX8_anew_29 : decode cX8_anew 29 = .ok (.aload_n 0, 1) := by decide +kernel
theorem dX8_anew_30 : decode cX8_anew 30 = .ok (.invokevirtual 115, 3) := by decide +kernel
theorem dX8_anew_33 : decode cX8_anew 33 = .ok (.iload_n 1, 1) := by decide +kernel
theorem dX8_anew_34 : decode cX8_anew 34 = .ok (.ireturn, 1) := by decide +kernel
theorem dX8_asNow_0 : decode cX8_asNow 0 = .ok (.aload_n 0, 1) := by decide +kernel
theorem dX8_asNow_1 : decode cX8_asNow 1 = .ok (.getfield 59, 3) := by decide +kernel
theorem dX8_asNow_4 : decode cX8_asNow 4 = .ok (.iconst (-1), 1) := by decide +kernel
theorem dX8_asNow_5 : decode cX8_asNow 5 = .ok (.invokevirtual 257, 3) := by decide +kernel
theorem dX8_asNow_8 : decode cX8_asNow 8 = .ok (.aload_n 0, 1) := by decide +kernel
theorem dX8_asNow_9 : decode cX8_asNow 9 = .ok (.getfield 59, 3) := by decide +kernel
theorem dX8_asNow_12 : decode cX8_asNow 12 = .ok (.iload_n 1, 1) := by decide +kernel
theorem dX8_asNow_13 : decode cX8_asNow 13 = .ok (.invokevirtual 329, 3) := by decide +kernel
theorem dX8_asNow_16 : decode cX8_asNow 16 = .ok (.return_, 1) := by decide +kernel
theorem dX8_ask_0 : decode cX8_ask 0 = .ok (.aload_n 0, 1) := by decide +kernel
theorem dX8_ask_1 : decode cX8_ask 1 = .ok (.iload_n 1, 1) := by decide +kernel
theorem dX8_ask_2 : decode cX8_ask 2 = .ok (.iload_n 2, 1) := by decide +kernel
theorem dX8_ask_3 : decode cX8_ask 3 = .ok (.invokevirtual 289, 3) := by decide +kernel
theorem dX8_ask_6 : decode cX8_ask 6 = .ok (.istore_n 3, 1) := by decide +kernel
theorem dX8_ask_7 : decode cX8_ask 7 = .ok (.iload_n 3, 1) := by decide +kernel
theorem dX8_ask_8 : decode cX8_ask 8 = .ok (.ifCond .eq 5, 3) := by decide +kernel
theorem dX8_ask_11 : decode cX8_ask 11 = .ok (.iload_n 3, 1) := by decide +kernel
theorem dX8_ask_12 : decode cX8_ask 12 = .ok (.ireturn, 1) := by decide +kernel
theorem dX8_ask_13 : decode cX8_ask 13 = .ok (.aload_n 0, 1) := by decide +kernel
theorem dX8_ask_14 : decode cX8_ask 14 = .ok (.getfield 83, 3) := by decide +kernel
theorem dX8_ask_17 : decode cX8_ask 17 = .ok (.iload_n 1, 1) := by decide +kernel
theorem dX8_ask_18 : decode cX8_ask 18 = .ok (.iload_n 2, 1) := by decide +kernel
theorem dX8_ask_19 : decode cX8_ask 19 = .ok (.aload_n 0, 1) := by decide +kernel
theorem dX8_ask_20 : decode cX8_ask 20 = .ok (.invokevirtual 189, 3) := by decide +kernel
theorem dX8_ask_23 : decode cX8_ask 23 = .ok (.invokevirtual 302, 3) := by decide +kernel
theorem dX8_ask_26 : decode cX8_ask 26 = .ok (.aload_n 0, 1) := by decide +kernel
theorem dX8_ask_27 : decode cX8_ask 27 = .ok (.getfield 83, 3) := by decide +kernel
theorem dX8_ask_30 : decode cX8_ask 30 = .ok (.getfield 306, 3) := by decide +kernel
theorem dX8_ask_33 : decode cX8_ask 33 = .ok (.ireturn, 1) := by decide +kernel
theorem dX8_back_0 : decode cX8_back 0 = .ok (.iload_n 1, 1) := by decide +kernel
theorem dX8_back_1 : decode cX8_back 1 = .ok (.ifCond .lt 8, 3) := by decide +kernel
theorem dX8_back_4 : decode cX8_back 4 = .ok (.iload_n 1, 1) := by decide +kernel
theorem dX8_back_5 : decode cX8_back 5 = .ok (.iconst 3, 1) := by decide +kernel
theorem dX8_back_6 : decode cX8_back 6 = .ok (.if_icmp .lt 6, 3) := by decide +kernel
theorem dX8_back_9 : decode cX8_back 9 = .ok (.bipush (-2), 2) := by decide +kernel
theorem dX8_back_11 : decode cX8_back 11 = .ok (.ireturn, 1) := by decide +kernel
theorem dX8_back_12 : decode cX8_back 12 = .ok (.aload_n 0, 1) := by decide +kernel
theorem dX8_back_13 : decode cX8_back 13 = .ok (.getfield 39, 3) := by decide +kernel
theorem dX8_back_16 : decode cX8_back 16 = .ok (.iload_n 1, 1) := by decide +kernel
theorem dX8_back_17 : decode cX8_back 17 = .ok (.baload, 1) := by decide +kernel
theorem dX8_back_18 : decode cX8_back 18 = .ok (.ifCond .ne 6, 3) := by decide +kernel
theorem dX8_back_21 : decode cX8_back 21 = .ok (.bipush (-6), 2) := by decide +kernel
theorem dX8_back_23 : decode cX8_back 23 = .ok (.ireturn, 1) := by decide +kernel
theorem dX8_back_24 : decode cX8_back 24 = .ok (.aload_n 0, 1) := by decide +kernel
theorem dX8_back_25 : decode cX8_back 25 = .ok (.getfield 32, 3) := by decide +kernel
theorem dX8_back_28 : decode cX8_back 28 = .ok (.aload_n 0, 1) := by decide +kernel
theorem dX8_back_29 : decode cX8_back 29 = .ok (.getfield 35, 3) := by decide +kernel
theorem dX8_back_32 : decode cX8_back 32 = .ok (.iload_n 1, 1) := by decide +kernel
theorem dX8_back_33 : decode cX8_back 33 = .ok (.aaload, 1) := by decide +kernel
theorem dX8_back_34 : decode cX8_back 34 = .ok (.invokevirtual 112, 3) := by decide +kernel
theorem dX8_back_37 : decode cX8_back 37 = .ok (.aload_n 0, 1) := by decide +kernel
theorem dX8_back_38 : decode cX8_back 38 = .ok (.invokevirtual 115, 3) := by decide +kernel
theorem dX8_back_41 : decode cX8_back 41 = .ok (.iconst 0, 1) := by decide +kernel
theorem dX8_back_42 : decode cX8_back 42 = .ok (.ireturn, 1) := by decide +kernel
theorem dX8_best_0 : decode cX8_best 0 = .ok (.aload_n 0, 1) := by decide +kernel
theorem dX8_best_1 : decode cX8_best 1 = .ok (.getfield 32, 3) := by decide +kernel
theorem dX8_best_4 : decode cX8_best 4 = .ok (.iload_n 1, 1) := by decide +kernel
theorem dX8_best_5 : decode cX8_best 5 = .ok (.invokevirtual 127, 3) := by decide +kernel
theorem dX8_best_8 : decode cX8_best 8 = .ok (.ifCond .ne 6, 3) := by decide +kernel
theorem dX8_best_11 : decode cX8_best 11 = .ok (.bipush (-2), 2) := by decide +kernel
theorem dX8_best_13 : decode cX8_best 13 = .ok (.ireturn, 1) := by decide +kernel
theorem dX8_best_14 : decode cX8_best 14 = .ok (.iconst 0, 1) := by decide +kernel
theorem dX8_best_15 : decode cX8_best 15 = .ok (.istore_n 2, 1) := by decide +kernel
theorem dX8_best_16 : decode cX8_best 16 = .ok (.iconst 0, 1) := by decide +kernel
theorem dX8_best_17 : decode cX8_best 17 = .ok (.istore_n 3, 1) := by decide +kernel
theorem dX8_best_18 : decode cX8_best 18 = .ok (.iload_n 3, 1) := by decide +kernel
theorem dX8_best_19 : decode cX8_best 19 = .ok (.aload_n 0, 1) := by decide +kernel
theorem dX8_best_20 : decode cX8_best 20 = .ok (.getfield 32, 3) := by decide +kernel
theorem dX8_best_23 : decode cX8_best 23 = .ok (.getfield 168, 3) := by decide +kernel
theorem dX8_best_26 : decode cX8_best 26 = .ok (.if_icmp .gt 23, 3) := by decide +kernel
theorem dX8_best_29 : decode cX8_best 29 = .ok (.iload_n 2, 1) := by decide +kernel
theorem dX8_best_30 : decode cX8_best 30 = .ok (.aload_n 0, 1) := by decide +kernel
theorem dX8_best_31 : decode cX8_best 31 = .ok (.invokevirtual 189, 3) := by decide +kernel
theorem dX8_best_34 : decode cX8_best 34 = .ok (.iload_n 1, 1) := by decide +kernel
theorem dX8_best_35 : decode cX8_best 35 = .ok (.iload_n 3, 1) := by decide +kernel
theorem dX8_best_36 : decode cX8_best 36 = .ok (.invokevirtual 220, 3) := by decide +kernel
theorem dX8_best_39 : decode cX8_best 39 = .ok (.invokestatic 223, 3) := by decide +kernel
theorem dX8_best_42 : decode cX8_best 42 = .ok (.istore_n 2, 1) := by decide +kernel
theorem dX8_best_43 : decode cX8_best 43 = .ok (.iinc 3 1, 3) := by decide +kernel
theorem dX8_best_46 : decode cX8_best 46 = .ok (.goto (-28), 3) := by decide +kernel
theorem dX8_best_49 : decode cX8_best 49 = .ok (.iload_n 2, 1) := by decide +kernel
theorem dX8_best_50 : decode cX8_best 50 = .ok (.ireturn, 1) := by decide +kernel
theorem dX8_blunt_0 : decode cX8_blunt 0 = .ok (.aload_n 0, 1) := by decide +kernel
theorem dX8_blunt_1 : decode cX8_blunt 1 = .ok (.getfield 32, 3) := by decide +kernel
theorem dX8_blunt_4 : decode cX8_blunt 4 = .ok (.invokevirtual 153, 3) := by decide +kernel
theorem dX8_blunt_7 : decode cX8_blunt 7 = .ok (.ifCond .ne 6, 3) := by decide +kernel
theorem dX8_blunt_10 : decode cX8_blunt 10 = .ok (.bipush (-2), 2) := by decide +kernel
theorem dX8_blunt_12 : decode cX8_blunt 12 = .ok (.ireturn, 1) := by decide +kernel
theorem dX8_blunt_13 : decode cX8_blunt 13 = .ok (.iconst (-1), 1) := by decide +kernel
theorem dX8_blunt_14 : decode cX8_blunt 14 = .ok (.istore_n 1, 1) := by decide +kernel
theorem dX8_blunt_15 : decode cX8_blunt 15 = .ok (.aload_n 0, 1) := by decide +kernel
theorem dX8_blunt_16 : decode cX8_blunt 16 = .ok (.invokevirtual 189, 3) := by decide +kernel
theorem dX8_blunt_19 : decode cX8_blunt 19 = .ok (.invokevirtual 217, 3) := by decide +kernel
theorem dX8_blunt_22 : decode cX8_blunt 22 = .ok (.istore_n 2, 1) := by decide +kernel
theorem dX8_blunt_23 : decode cX8_blunt 23 = .ok (.iconst 0, 1) := by decide +kernel
theorem dX8_blunt_24 : decode cX8_blunt 24 = .ok (.istore_n 3, 1) := by decide +kernel
theorem dX8_blunt_25 : decode cX8_blunt 25 = .ok (.iload_n 3, 1) := by decide +kernel
theorem dX8_blunt_26 : decode cX8_blunt 26 = .ok (.aload_n 0, 1) := by decide +kernel
theorem dX8_blunt_27 : decode cX8_blunt 27 = .ok (.getfield 32, 3) := by decide +kernel
theorem dX8_blunt_30 : decode cX8_blunt 30 = .ok (.getfield 162, 3) := by decide +kernel
theorem dX8_blunt_33 : decode cX8_blunt 33 = .ok (.if_icmp .ge 46, 3) := by decide +kernel
theorem dX8_blunt_36 : decode cX8_blunt 36 = .ok (.aload_n 0, 1) := by decide +kernel
theorem dX8_blunt_37 : decode cX8_blunt 37 = .ok (.aload_n 0, 1) := by decide +kernel
theorem dX8_blunt_38 : decode cX8_blunt 38 = .ok (.getfield 32, 3) := by decide +kernel
theorem dX8_blunt_41 : decode cX8_blunt 41 = .ok (.invokevirtual 315, 3) := by decide +kernel
theorem dX8_blunt_44 : decode cX8_blunt 44 = .ok (.iconst 1, 1) := by decide +kernel
theorem dX8_blunt_45 : decode cX8_blunt 45 = .ok (.iload_n 3, 1) := by decide +kernel
theorem dX8_blunt_46 : decode cX8_blunt 46 = .ok (.ishl, 1) := by decide +kernel
theorem dX8_blunt_47 : decode cX8_blunt 47 = .ok (.iconst (-1), 1) := by decide +kernel
theorem dX8_blunt_48 : decode cX8_blunt 48 = .ok (.ixor, 1) := by decide +kernel
theorem dX8_blunt_49 : decode cX8_blunt 49 = .ok (.iand, 1) := by decide +kernel
theorem dX8_blunt_50 : decode cX8_blunt 50 = .ok (.invokevirtual 318, 3) := by decide +kernel
theorem dX8_blunt_53 : decode cX8_blunt 53 = .ok (.aload_n 0, 1) := by decide +kernel
theorem dX8_blunt_54 : decode cX8_blunt 54 = .ok (.getfield 59, 3) := by decide +kernel
theorem dX8_blunt_57 : decode cX8_blunt 57 = .ok (.invokevirtual 217, 3) := by decide +kernel
theorem dX8_blunt_60 : decode cX8_blunt 60 = .ok (.istore 4, 2) := by decide +kernel
theorem dX8_blunt_62 : decode cX8_blunt 62 = .ok (.iload 4, 2) := by decide +kernel
theorem dX8_blunt_64 : decode cX8_blunt 64 = .ok (.iload_n 2, 1) := by decide +kernel
theorem dX8_blunt_65 : decode cX8_blunt 65 = .ok (.if_icmp .le 8, 3) := by decide +kernel
theorem dX8_blunt_68 : decode cX8_blunt 68 = .ok (.iload 4, 2) := by decide +kernel
theorem dX8_blunt_70 : decode cX8_blunt 70 = .ok (.istore_n 2, 1) := by decide +kernel
theorem dX8_blunt_71 : decode cX8_blunt 71 = .ok (.iload_n 3, 1) := by decide +kernel
theorem dX8_blunt_72 : decode cX8_blunt 72 = .ok (.istore_n 1, 1) := by decide +kernel
theorem dX8_blunt_73 : decode cX8_blunt 73 = .ok (.iinc 3 1, 3) := by decide +kernel
theorem dX8_blunt_76 : decode cX8_blunt 76 = .ok (.goto (-51), 3) := by decide +kernel
theorem dX8_blunt_79 : decode cX8_blunt 79 = .ok (.iload_n 1, 1) := by decide +kernel
theorem dX8_blunt_80 : decode cX8_blunt 80 = .ok (.ireturn, 1) := by decide +kernel
theorem dX8_by_0 : decode cX8_by 0 = .ok (.aload_n 0, 1) := by decide +kernel
theorem dX8_by_1 : decode cX8_by 1 = .ok (.getfield 32, 3) := by decide +kernel
theorem dX8_by_4 : decode cX8_by 4 = .ok (.invokevirtual 153, 3) := by decide +kernel
theorem dX8_by_7 : decode cX8_by 7 = .ok (.ifCond .eq 20, 3) := by decide +kernel
theorem dX8_by_10 : decode cX8_by 10 = .ok (.iload_n 1, 1) := by decide +kernel
theorem dX8_by_11 : decode cX8_by 11 = .ok (.ifCond .lt 16, 3) := by decide +kernel
theorem dX8_by_14 : decode cX8_by 14 = .ok (.iload_n 1, 1) := by decide +kernel
theorem dX8_by_15 : decode cX8_by 15 = .ok (.iconst 4, 1) := by decide +kernel
theorem dX8_by_16 : decode cX8_by 16 = .ok (.if_icmp .ge 11, 3) := by decide +kernel
theorem dX8_by_19 : decode cX8_by 19 = .ok (.aload_n 0, 1) := by decide +kernel
theorem dX8_by_20 : decode cX8_by 20 = .ok (.iload_n 1, 1) := by decide +kernel
theorem dX8_by_21 : decode cX8_by 21 = .ok (.invokevirtual 326, 3) := by decide +kernel
theorem dX8_by_24 : decode cX8_by 24 = .ok (.goto 5, 3) := by decide +kernel
theorem dX8_by_27 : decode cX8_by 27 = .ok (.bipush (-2), 2) := by decide +kernel
theorem dX8_by_29 : decode cX8_by 29 = .ok (.ireturn, 1) := by decide +kernel
theorem dX8_chance_0 : decode cX8_chance 0 = .ok (.aload_n 0, 1) := by decide +kernel
theorem dX8_chance_1 : decode cX8_chance 1 = .ok (.getfield 32, 3) := by decide +kernel
theorem dX8_chance_4 : decode cX8_chance 4 = .ok (.iload_n 1, 1) := by decide +kernel
theorem dX8_chance_5 : decode cX8_chance 5 = .ok (.invokevirtual 127, 3) := by decide +kernel
theorem dX8_chance_8 : decode cX8_chance 8 = .ok (.ifCond .eq 10, 3) := by decide +kernel
theorem dX8_chance_11 : decode cX8_chance 11 = .ok (.iload_n 2, 1) := by decide +kernel
theorem dX8_chance_12 : decode cX8_chance 12 = .ok (.invokestatic 263, 3) := by decide +kernel
theorem dX8_chance_15 : decode cX8_chance 15 = .ok (.ifCond .ne 6, 3) := by decide +kernel
theorem dX8_chance_18 : decode cX8_chance 18 = .ok (.bipush (-2), 2) := by decide +kernel
theorem dX8_chance_20 : decode cX8_chance 20 = .ok (.ireturn, 1) := by decide +kernel
theorem dX8_chance_21 : decode cX8_chance 21 = .ok (.aload_n 0, 1) := by decide +kernel
theorem dX8_chance_22 : decode cX8_chance 22 = .ok (.invokevirtual 348, 3) := by decide +kernel
theorem dX8_chance_25 : decode cX8_chance 25 = .ok (.aload_n 0, 1) := by decide +kernel
theorem dX8_chance_26 : decode cX8_chance 26 = .ok (.getfield 74, 3) := by decide +kernel
theorem dX8_chance_29 : decode cX8_chance 29 = .ok (.getfield 351, 3) := by decide +kernel
theorem dX8_chance_32 : decode cX8_chance 32 = .ok (.iload_n 1, 1) := by decide +kernel
theorem dX8_chance_33 : decode cX8_chance 33 = .ok (.laload, 1) := by decide +kernel
theorem dX8_chance_34 : decode cX8_chance 34 = .ok (.aload_n 0, 1) := by decide +kernel
theorem dX8_chance_35 : decode cX8_chance 35 = .ok (.getfield 74, 3) := by decide +kernel
theorem dX8_chance_38 : decode cX8_chance 38 = .ok (.getfield 355, 3) := by decide +kernel
theorem dX8_chance_41 : decode cX8_chance 41 = .ok (.iload_n 2, 1) := by decide +kernel
theorem dX8_chance_42 : decode cX8_chance 42 = .ok (.invokestatic 270, 3) := by decide +kernel
theorem dX8_chance_45 : decode cX8_chance 45 = .ok (.l2i, 1) := by decide +kernel
theorem dX8_chance_46 : decode cX8_chance 46 = .ok (.ireturn, 1) := by decide +kernel
theorem dX8_charms_0 : decode cX8_charms 0 = .ok (.aload_n 0, 1) := by decide +kernel
theorem dX8_charms_1 : decode cX8_charms 1 = .ok (.getfield 32, 3) := by decide +kernel
theorem dX8_charms_4 : decode cX8_charms 4 = .ok (.invokevirtual 153, 3) := by decide +kernel
theorem dX8_charms_7 : decode cX8_charms 7 = .ok (.ifCond .ne 6, 3) := by decide +kernel
theorem dX8_charms_10 : decode cX8_charms 10 = .ok (.bipush (-2), 2) := by decide +kernel
theorem dX8_charms_12 : decode cX8_charms 12 = .ok (.ireturn, 1) := by decide +kernel
theorem dX8_charms_13 : decode cX8_charms 13 = .ok (.aload_n 0, 1) := by decide +kernel
theorem dX8_charms_14 : decode cX8_charms 14 = .ok (.invokevirtual 240, 3) := by decide +kernel
theorem dX8_charms_17 : decode cX8_charms 17 = .ok (.istore_n 1, 1) := by decide +kernel
theorem dX8_charms_18 : decode cX8_charms 18 = .ok (.iconst 0, 1) := by decide +kernel
theorem dX8_charms_19 : decode cX8_charms 19 = .ok (.istore_n 2, 1) := by decide +kernel
theorem dX8_charms_20 : decode cX8_charms 20 = .ok (.iconst 0, 1) := by decide +kernel
theorem dX8_charms_21 : decode cX8_charms 21 = .ok (.istore_n 3, 1) := by decide +kernel
theorem dX8_charms_22 : decode cX8_charms 22 = .ok (.iload_n 3, 1) := by decide +kernel
theorem dX8_charms_23 : decode cX8_charms 23 = .ok (.aload_n 0, 1) := by decide +kernel
theorem dX8_charms_24 : decode cX8_charms 24 = .ok (.getfield 32, 3) := by decide +kernel
theorem dX8_charms_27 : decode cX8_charms 27 = .ok (.getfield 156, 3) := by decide +kernel
theorem dX8_charms_30 : decode cX8_charms 30 = .ok (.if_icmp .ge 33, 3) := by decide +kernel
theorem dX8_charms_33 : decode cX8_charms 33 = .ok (.iload_n 2, 1) := by decide +kernel
theorem dX8_charms_34 : decode cX8_charms 34 = .ok (.iload_n 1, 1) := by decide +kernel
theorem dX8_charms_35 : decode cX8_charms 35 = .ok (.iload_n 3, 1) := by decide +kernel
theorem dX8_charms_36 : decode cX8_charms 36 = .ok (.invokestatic 145, 3) := by decide +kernel
theorem dX8_charms_39 : decode cX8_charms 39 = .ok (.ifCond .eq 15, 3) := by decide +kernel
theorem dX8_charms_42 : decode cX8_charms 42 = .ok (.aload_n 0, 1) := by decide +kernel
theorem dX8_charms_43 : decode cX8_charms 43 = .ok (.getfield 32, 3) := by decide +kernel
theorem dX8_charms_46 : decode cX8_charms 46 = .ok (.getfield 131, 3) := by decide +kernel
theorem dX8_charms_49 : decode cX8_charms 49 = .ok (.iload_n 3, 1) := by decide +kernel
theorem dX8_charms_50 : decode cX8_charms 50 = .ok (.iaload, 1) := by decide +kernel
theorem dX8_charms_51 : decode cX8_charms 51 = .ok (.goto 4, 3) := by decide +kernel
theorem dX8_charms_54 : decode cX8_charms 54 = .ok (.iconst 0, 1) := by decide +kernel
theorem dX8_charms_55 : decode cX8_charms 55 = .ok (.iadd, 1) := by decide +kernel
theorem dX8_charms_56 : decode cX8_charms 56 = .ok (.istore_n 2, 1) := by decide +kernel
theorem dX8_charms_57 : decode cX8_charms 57 = .ok (.iinc 3 1, 3) := by decide +kernel
theorem dX8_charms_60 : decode cX8_charms 60 = .ok (.goto (-38), 3) := by decide +kernel
theorem dX8_charms_63 : decode cX8_charms 63 = .ok (.iload_n 2, 1) := by decide +kernel
theorem dX8_charms_64 : decode cX8_charms 64 = .ok (.ireturn, 1) := by decide +kernel
theorem dX8_count_0 : decode cX8_count 0 = .ok (.iload_n 1, 1) := by decide +kernel
theorem dX8_count_1 : decode cX8_count 1 = .ok (.tableswitch 135 0 9 #[55, 63, 71, 79, 87, 95, 103, 111, 119, 127], 55) := by decide +kernel
theorem dX8_count_56 : decode cX8_count 56 = .ok (.aload_n 0, 1) := by decide +kernel
theorem dX8_count_57 : decode cX8_count 57 = .ok (.getfield 32, 3) := by decide +kernel
theorem dX8_count_60 : decode cX8_count 60 = .ok (.getfield 168, 3) := by decide +kernel
theorem dX8_count_63 : decode cX8_count 63 = .ok (.ireturn, 1) := by decide +kernel
theorem dX8_count_64 : decode cX8_count 64 = .ok (.aload_n 0, 1) := by decide +kernel
theorem dX8_count_65 : decode cX8_count 65 = .ok (.getfield 32, 3) := by decide +kernel
theorem dX8_count_68 : decode cX8_count 68 = .ok (.getfield 171, 3) := by decide +kernel
theorem dX8_count_71 : decode cX8_count 71 = .ok (.ireturn, 1) := by decide +kernel
theorem dX8_count_72 : decode cX8_count 72 = .ok (.aload_n 0, 1) := by decide +kernel
theorem dX8_count_73 : decode cX8_count 73 = .ok (.getfield 32, 3) := by decide +kernel
theorem dX8_count_76 : decode cX8_count 76 = .ok (.getfield 174, 3) := by decide +kernel
theorem dX8_count_79 : decode cX8_count 79 = .ok (.ireturn, 1) := by decide +kernel
theorem dX8_count_80 : decode cX8_count 80 = .ok (.aload_n 0, 1) := by decide +kernel
theorem dX8_count_81 : decode cX8_count 81 = .ok (.getfield 32, 3) := by decide +kernel
theorem dX8_count_84 : decode cX8_count 84 = .ok (.getfield 156, 3) := by decide +kernel
theorem dX8_count_87 : decode cX8_count 87 = .ok (.ireturn, 1) := by decide +kernel
theorem dX8_count_88 : decode cX8_count 88 = .ok (.aload_n 0, 1) := by decide +kernel
theorem dX8_count_89 : decode cX8_count 89 = .ok (.getfield 32, 3) := by decide +kernel
theorem dX8_count_92 : decode cX8_count 92 = .ok (.getfield 176, 3) := by decide +kernel
theorem dX8_count_95 : decode cX8_count 95 = .ok (.ireturn, 1) := by decide +kernel
theorem dX8_count_96 : decode cX8_count 96 = .ok (.aload_n 0, 1) := by decide +kernel
theorem dX8_count_97 : decode cX8_count 97 = .ok (.getfield 32, 3) := by decide +kernel
theorem dX8_count_100 : decode cX8_count 100 = .ok (.getfield 162, 3) := by decide +kernel
theorem dX8_count_103 : decode cX8_count 103 = .ok (.ireturn, 1) := by decide +kernel
theorem dX8_count_104 : decode cX8_count 104 = .ok (.aload_n 0, 1) := by decide +kernel
theorem dX8_count_105 : decode cX8_count 105 = .ok (.getfield 32, 3) := by decide +kernel
theorem dX8_count_108 : decode cX8_count 108 = .ok (.getfield 179, 3) := by decide +kernel
theorem dX8_count_111 : decode cX8_count 111 = .ok (.ireturn, 1) := by decide +kernel
theorem dX8_count_112 : decode cX8_count 112 = .ok (.aload_n 0, 1) := by decide +kernel
theorem dX8_count_113 : decode cX8_count 113 = .ok (.getfield 32, 3) := by decide +kernel
theorem dX8_count_116 : decode cX8_count 116 = .ok (.getfield 118, 3) := by decide +kernel
theorem dX8_count_119 : decode cX8_count 119 = .ok (.ireturn, 1) := by decide +kernel
theorem dX8_count_120 : decode cX8_count 120 = .ok (.aload_n 0, 1) := by decide +kernel
theorem dX8_count_121 : decode cX8_count 121 = .ok (.getfield 10, 3) := by decide +kernel
theorem dX8_count_124 : decode cX8_count 124 = .ok (.getfield 106, 3) := by decide +kernel
theorem dX8_count_127 : decode cX8_count 127 = .ok (.ireturn, 1) := by decide +kernel
theorem dX8_count_128 : decode cX8_count 128 = .ok (.aload_n 0, 1) := by decide +kernel
theorem dX8_count_129 : decode cX8_count 129 = .ok (.getfield 46, 3) := by decide +kernel
theorem dX8_count_132 : decode cX8_count 132 = .ok (.invokevirtual 182, 3) := by decide +kernel
theorem dX8_count_135 : decode cX8_count 135 = .ok (.ireturn, 1) := by decide +kernel
theorem dX8_count_136 : decode cX8_count 136 = .ok (.iconst (-1), 1) := by decide +kernel
theorem dX8_count_137 : decode cX8_count 137 = .ok (.ireturn, 1) := by decide +kernel
theorem dX8_current_0 : decode cX8_current 0 = .ok (.aload_n 0, 1) := by decide +kernel
theorem dX8_current_1 : decode cX8_current 1 = .ok (.getfield 87, 3) := by decide +kernel
theorem dX8_current_4 : decode cX8_current 4 = .ok (.ifCond .eq 30, 3) := by decide +kernel
theorem dX8_current_7 : decode cX8_current 7 = .ok (.aload_n 0, 1) := by decide +kernel
theorem dX8_current_8 : decode cX8_current 8 = .ok (.getfield 55, 3) := by decide +kernel
theorem dX8_current_11 : decode cX8_current 11 = .ok (.iconst (-1), 1) := by decide +kernel
theorem dX8_current_12 : decode cX8_current 12 = .ok (.invokevirtual 257, 3) := by decide +kernel
theorem dX8_current_15 : decode cX8_current 15 = .ok (.aload_n 0, 1) := by decide +kernel
theorem dX8_current_16 : decode cX8_current 16 = .ok (.getfield 55, 3) := by decide +kernel
theorem dX8_current_19 : decode cX8_current 19 = .ok (.aload_n 0, 1) := by decide +kernel
theorem dX8_current_20 : decode cX8_current 20 = .ok (.getfield 32, 3) := by decide +kernel
theorem dX8_current_23 : decode cX8_current 23 = .ok (.invokevirtual 315, 3) := by decide +kernel
theorem dX8_current_26 : decode cX8_current 26 = .ok (.invokevirtual 329, 3) := by decide +kernel
theorem dX8_current_29 : decode cX8_current 29 = .ok (.aload_n 0, 1) := by decide +kernel
theorem dX8_current_30 : decode cX8_current 30 = .ok (.iconst 0, 1) := by decide +kernel
theorem dX8_current_31 : decode cX8_current 31 = .ok (.putfield 87, 3) := by decide +kernel
theorem dX8_current_34 : decode cX8_current 34 = .ok (.aload_n 0, 1) := by decide +kernel
theorem dX8_current_35 : decode cX8_current 35 = .ok (.getfield 55, 3) := by decide +kernel
theorem dX8_current_38 : decode cX8_current 38 = .ok (.areturn, 1) := by decide +kernel
theorem dX8_cut_0 : decode cX8_cut 0 = .ok (.aload_n 0, 1) := by decide +kernel
theorem dX8_cut_1 : decode cX8_cut 1 = .ok (.getfield 32, 3) := by decide +kernel
theorem dX8_cut_4 : decode cX8_cut 4 = .ok (.iload_n 1, 1) := by decide +kernel
theorem dX8_cut_5 : decode cX8_cut 5 = .ok (.invokevirtual 196, 3) := by decide +kernel
theorem dX8_cut_8 : decode cX8_cut 8 = .ok (.ifCond .ne 6, 3) := by decide +kernel
theorem dX8_cut_11 : decode cX8_cut 11 = .ok (.bipush (-2), 2) := by decide +kernel
theorem dX8_cut_13 : decode cX8_cut 13 = .ok (.ireturn, 1) := by decide +kernel
theorem dX8_cut_14 : decode cX8_cut 14 = .ok (.aload_n 0, 1) := by decide +kernel
theorem dX8_cut_15 : decode cX8_cut 15 = .ok (.invokevirtual 189, 3) := by decide +kernel
theorem dX8_cut_18 : decode cX8_cut 18 = .ok (.iload_n 1, 1) := by decide +kernel
theorem dX8_cut_19 : decode cX8_cut 19 = .ok (.invokevirtual 199, 3) := by decide +kernel
theorem dX8_cut_22 : decode cX8_cut 22 = .ok (.istore_n 2, 1) := by decide +kernel
theorem dX8_cut_23 : decode cX8_cut 23 = .ok (.iconst 0, 1) := by decide +kernel
theorem dX8_cut_24 : decode cX8_cut 24 = .ok (.istore_n 3, 1) := by decide +kernel
theorem dX8_cut_25 : decode cX8_cut 25 = .ok (.iconst 0, 1) := by decide +kernel
theorem dX8_cut_26 : decode cX8_cut 26 = .ok (.istore 4, 2) := by decide +kernel
theorem dX8_cut_28 : decode cX8_cut 28 = .ok (.iload 4, 2) := by decide +kernel
theorem dX8_cut_30 : decode cX8_cut 30 = .ok (.aload_n 0, 1) := by decide +kernel
theorem dX8_cut_31 : decode cX8_cut 31 = .ok (.getfield 32, 3) := by decide +kernel
theorem dX8_cut_34 : decode cX8_cut 34 = .ok (.getfield 176, 3) := by decide +kernel
theorem dX8_cut_37 : decode cX8_cut 37 = .ok (.if_icmp .ge 50, 3) := by decide +kernel
theorem dX8_cut_40 : decode cX8_cut 40 = .ok (.iload_n 2, 1) := by decide +kernel
theorem dX8_cut_41 : decode cX8_cut 41 = .ok (.aload_n 0, 1) := by decide +kernel
theorem dX8_cut_42 : decode cX8_cut 42 = .ok (.getfield 32, 3) := by decide +kernel
theorem dX8_cut_45 : decode cX8_cut 45 = .ok (.getfield 228, 3) := by decide +kernel
theorem dX8_cut_48 : decode cX8_cut 48 = .ok (.iload 4, 2) := by decide +kernel
theorem dX8_cut_50 : decode cX8_cut 50 = .ok (.iaload, 1) := by decide +kernel
theorem dX8_cut_51 : decode cX8_cut 51 = .ok (.invokestatic 145, 3) := by decide +kernel
theorem dX8_cut_54 : decode cX8_cut 54 = .ok (.ifCond .ne 20, 3) := by decide +kernel
theorem dX8_cut_57 : decode cX8_cut 57 = .ok (.iload_n 2, 1) := by decide +kernel
theorem dX8_cut_58 : decode cX8_cut 58 = .ok (.aload_n 0, 1) := by decide +kernel
theorem dX8_cut_59 : decode cX8_cut 59 = .ok (.getfield 32, 3) := by decide +kernel
theorem dX8_cut_62 : decode cX8_cut 62 = .ok (.getfield 231, 3) := by decide +kernel
theorem dX8_cut_65 : decode cX8_cut 65 = .ok (.iload 4, 2) := by decide +kernel
theorem dX8_cut_67 : decode cX8_cut 67 = .ok (.iaload, 1) := by decide +kernel
theorem dX8_cut_68 : decode cX8_cut 68 = .ok (.invokestatic 145, 3) := by decide +kernel
theorem dX8_cut_71 : decode cX8_cut 71 = .ok (.ifCond .eq 10, 3) := by decide +kernel
theorem dX8_cut_74 : decode cX8_cut 74 = .ok (.iload_n 3, 1) := by decide +kernel
theorem dX8_cut_75 : decode cX8_cut 75 = .ok (.iconst 1, 1) := by decide +kernel
theorem dX8_cut_76 : decode cX8_cut 76 = .ok (.iload 4, 2) := by decide +kernel
theorem dX8_cut_78 : decode cX8_cut 78 = .ok (.ishl, 1) := by decide +kernel
theorem dX8_cut_79 : decode cX8_cut 79 = .ok (.ior, 1) := by decide +kernel
theorem dX8_cut_80 : decode cX8_cut 80 = .ok (.istore_n 3, 1) := by decide +kernel
theorem dX8_cut_81 : decode cX8_cut 81 = .ok (.iinc 4 1, 3) := by decide +kernel
theorem dX8_cut_84 : decode cX8_cut 84 = .ok (.goto (-56), 3) := by decide +kernel
theorem dX8_cut_87 : decode cX8_cut 87 = .ok (.iload_n 3, 1) := by decide +kernel
theorem dX8_cut_88 : decode cX8_cut 88 = .ok (.ireturn, 1) := by decide +kernel
theorem dX8_dies_0 : decode cX8_dies 0 = .ok (.aload_n 0, 1) := by decide +kernel
theorem dX8_dies_1 : decode cX8_dies 1 = .ok (.getfield 32, 3) := by decide +kernel
theorem dX8_dies_4 : decode cX8_dies 4 = .ok (.iload_n 1, 1) := by decide +kernel
theorem dX8_dies_5 : decode cX8_dies 5 = .ok (.invokevirtual 127, 3) := by decide +kernel
theorem dX8_dies_8 : decode cX8_dies 8 = .ok (.ifCond .ne 6, 3) := by decide +kernel
theorem dX8_dies_11 : decode cX8_dies 11 = .ok (.bipush (-2), 2) := by decide +kernel
theorem dX8_dies_13 : decode cX8_dies 13 = .ok (.ireturn, 1) := by decide +kernel
theorem dX8_dies_14 : decode cX8_dies 14 = .ok (.iconst 0, 1) := by decide +kernel
theorem dX8_dies_15 : decode cX8_dies 15 = .ok (.istore_n 2, 1) := by decide +kernel
theorem dX8_dies_16 : decode cX8_dies 16 = .ok (.iload_n 2, 1) := by decide +kernel
theorem dX8_dies_17 : decode cX8_dies 17 = .ok (.aload_n 0, 1) := by decide +kernel
theorem dX8_dies_18 : decode cX8_dies 18 = .ok (.getfield 32, 3) := by decide +kernel
theorem dX8_dies_21 : decode cX8_dies 21 = .ok (.getfield 168, 3) := by decide +kernel
theorem dX8_dies_24 : decode cX8_dies 24 = .ok (.if_icmp .gt 23, 3) := by decide +kernel
theorem dX8_dies_27 : decode cX8_dies 27 = .ok (.aload_n 0, 1) := by decide +kernel
theorem dX8_dies_28 : decode cX8_dies 28 = .ok (.invokevirtual 189, 3) := by decide +kernel
theorem dX8_dies_31 : decode cX8_dies 31 = .ok (.iload_n 1, 1) := by decide +kernel
theorem dX8_dies_32 : decode cX8_dies 32 = .ok (.iload_n 2, 1) := by decide +kernel
theorem dX8_dies_33 : decode cX8_dies 33 = .ok (.invokevirtual 220, 3) := by decide +kernel
theorem dX8_dies_36 : decode cX8_dies 36 = .ok (.ifCond .ne 5, 3) := by decide +kernel
theorem dX8_dies_39 : decode cX8_dies 39 = .ok (.iload_n 2, 1) := by decide +kernel
theorem dX8_dies_40 : decode cX8_dies 40 = .ok (.ireturn, 1) := by decide +kernel
theorem dX8_dies_41 : decode cX8_dies 41 = .ok (.iinc 2 1, 3) := by decide +kernel
theorem dX8_dies_44 : decode cX8_dies 44 = .ok (.goto (-28), 3) := by decide +kernel
theorem dX8_dies_47 : decode cX8_dies 47 = .ok (.iconst (-1), 1) := by decide +kernel
theorem dX8_dies_48 : decode cX8_dies 48 = .ok (.ireturn, 1) := by decide +kernel
theorem dX8_done_0 : decode cX8_done 0 = .ok (.aload_n 0, 1) := by decide +kernel
theorem dX8_done_1 : decode cX8_done 1 = .ok (.getfield 32, 3) := by decide +kernel
theorem dX8_done_4 : decode cX8_done 4 = .ok (.invokevirtual 153, 3) := by decide +kernel
theorem dX8_done_7 : decode cX8_done 7 = .ok (.ifCond .ne 6, 3) := by decide +kernel
theorem dX8_done_10 : decode cX8_done 10 = .ok (.bipush (-2), 2) := by decide +kernel
theorem dX8_done_12 : decode cX8_done 12 = .ok (.ireturn, 1) := by decide +kernel
theorem dX8_done_13 : decode cX8_done 13 = .ok (.iconst 0, 1) := by decide +kernel
theorem dX8_done_14 : decode cX8_done 14 = .ok (.istore_n 1, 1) := by decide +kernel
theorem dX8_done_15 : decode cX8_done 15 = .ok (.iload_n 1, 1) := by decide +kernel
theorem dX8_done_16 : decode cX8_done 16 = .ok (.aload_n 0, 1) := by decide +kernel
theorem dX8_done_17 : decode cX8_done 17 = .ok (.getfield 32, 3) := by decide +kernel
theorem dX8_done_20 : decode cX8_done 20 = .ok (.getfield 168, 3) := by decide +kernel
theorem dX8_done_23 : decode cX8_done 23 = .ok (.if_icmp .gt 39, 3) := by decide +kernel
theorem dX8_done_26 : decode cX8_done 26 = .ok (.aload_n 0, 1) := by decide +kernel
theorem dX8_done_27 : decode cX8_done 27 = .ok (.getfield 32, 3) := by decide +kernel
theorem dX8_done_30 : decode cX8_done 30 = .ok (.getfield 156, 3) := by decide +kernel
theorem dX8_done_33 : decode cX8_done 33 = .ok (.ifCond .le 29, 3) := by decide +kernel
theorem dX8_done_36 : decode cX8_done 36 = .ok (.aload_n 0, 1) := by decide +kernel
theorem dX8_done_37 : decode cX8_done 37 = .ok (.invokevirtual 189, 3) := by decide +kernel
theorem dX8_done_40 : decode cX8_done 40 = .ok (.iload_n 1, 1) := by decide +kernel
theorem dX8_done_41 : decode cX8_done 41 = .ok (.invokevirtual 199, 3) := by decide +kernel
theorem dX8_done_44 : decode cX8_done 44 = .ok (.aload_n 0, 1) := by decide +kernel
theorem dX8_done_45 : decode cX8_done 45 = .ok (.getfield 32, 3) := by decide +kernel
theorem dX8_done_48 : decode cX8_done 48 = .ok (.invokevirtual 243, 3) := by decide +kernel
theorem dX8_done_51 : decode cX8_done 51 = .ok (.if_icmp .ne 5, 3) := by decide +kernel
theorem dX8_done_54 : decode cX8_done 54 = .ok (.iload_n 1, 1) := by decide +kernel
theorem dX8_done_55 : decode cX8_done 55 = .ok (.ireturn, 1) := by decide +kernel
theorem dX8_done_56 : decode cX8_done 56 = .ok (.iinc 1 1, 3) := by decide +kernel
theorem dX8_done_59 : decode cX8_done 59 = .ok (.goto (-44), 3) := by decide +kernel
theorem dX8_done_62 : decode cX8_done 62 = .ok (.iconst (-1), 1) := by decide +kernel
theorem dX8_done_63 : decode cX8_done 63 = .ok (.ireturn, 1) := by decide +kernel
theorem dX8_drawn_0 : decode cX8_drawn 0 = .ok (.aload_n 0, 1) := by decide +kernel
theorem dX8_drawn_1 : decode cX8_drawn 1 = .ok (.getfield 32, 3) := by decide +kernel
theorem dX8_drawn_4 : decode cX8_drawn 4 = .ok (.invokevirtual 153, 3) := by decide +kernel
theorem dX8_drawn_7 : decode cX8_drawn 7 = .ok (.ifCond .eq 19, 3) := by decide +kernel
theorem dX8_drawn_10 : decode cX8_drawn 10 = .ok (.iload_n 1, 1) := by decide +kernel
theorem dX8_drawn_11 : decode cX8_drawn 11 = .ok (.invokestatic 364, 3) := by decide +kernel
theorem dX8_drawn_14 : decode cX8_drawn 14 = .ok (.ifCond .eq 12, 3) := by decide +kernel
theorem dX8_drawn_17 : decode cX8_drawn 17 = .ok (.iload_n 2, 1) := by decide +kernel
theorem dX8_drawn_18 : decode cX8_drawn 18 = .ok (.ifCond .eq 11, 3) := by decide +kernel
theorem dX8_drawn_21 : decode cX8_drawn 21 = .ok (.iload_n 2, 1) := by decide +kernel
theorem dX8_drawn_22 : decode cX8_drawn 22 = .ok (.iconst 1, 1) := by decide +kernel
theorem dX8_drawn_23 : decode cX8_drawn 23 = .ok (.if_icmp .eq 6, 3) := by decide +kernel
theorem dX8_drawn_26 : decode cX8_drawn 26 = .ok (.bipush (-2), 2) := by decide +kernel
theorem dX8_drawn_28 : decode cX8_drawn 28 = .ok (.ireturn, 1) := by decide +kernel
theorem dX8_drawn_29 : decode cX8_drawn 29 = .ok (.aload_n 0, 1) := by decide +kernel
theorem dX8_drawn_30 : decode cX8_drawn 30 = .ok (.iload_n 1, 1) := by decide +kernel
theorem dX8_drawn_31 : decode cX8_drawn 31 = .ok (.i2l, 1) := by decide +kernel
theorem dX8_drawn_32 : decode cX8_drawn 32 = .ok (.invokevirtual 367, 3) := by decide +kernel
theorem dX8_drawn_35 : decode cX8_drawn 35 = .ok (.istore_n 3, 1) := by decide +kernel
theorem dX8_drawn_36 : decode cX8_drawn 36 = .ok (.iload_n 2, 1) := by decide +kernel
theorem dX8_drawn_37 : decode cX8_drawn 37 = .ok (.ifCond .ne 5, 3) := by decide +kernel
theorem dX8_drawn_40 : decode cX8_drawn 40 = .ok (.iload_n 3, 1) := by decide +kernel
theorem dX8_drawn_41 : decode cX8_drawn 41 = .ok (.ireturn, 1) := by decide +kernel
theorem dX8_drawn_42 : decode cX8_drawn 42 = .ok (.aload_n 0, 1) := by decide +kernel
theorem dX8_drawn_43 : decode cX8_drawn 43 = .ok (.iload_n 3, 1) := by decide +kernel
theorem dX8_drawn_44 : decode cX8_drawn 44 = .ok (.invokevirtual 318, 3) := by decide +kernel
theorem dX8_drawn_47 : decode cX8_drawn 47 = .ok (.aload_n 0, 1) := by decide +kernel
theorem dX8_drawn_48 : decode cX8_drawn 48 = .ok (.getfield 59, 3) := by decide +kernel
theorem dX8_drawn_51 : decode cX8_drawn 51 = .ok (.aload_n 0, 1) := by decide +kernel
theorem dX8_drawn_52 : decode cX8_drawn 52 = .ok (.getfield 32, 3) := by decide +kernel
theorem dX8_drawn_55 : decode cX8_drawn 55 = .ok (.getfield 168, 3) := by decide +kernel
theorem dX8_drawn_58 : decode cX8_drawn 58 = .ok (.invokevirtual 199, 3) := by decide +kernel
theorem dX8_drawn_61 : decode cX8_drawn 61 = .ok (.ireturn, 1) := by decide +kernel
theorem dX8_dull_0 : decode cX8_dull 0 = .ok (.aload_n 0, 1) := by decide +kernel
theorem dX8_dull_1 : decode cX8_dull 1 = .ok (.getfield 32, 3) := by decide +kernel
theorem dX8_dull_4 : decode cX8_dull 4 = .ok (.iload_n 1, 1) := by decide +kernel
theorem dX8_dull_5 : decode cX8_dull 5 = .ok (.invokevirtual 196, 3) := by decide +kernel
theorem dX8_dull_8 : decode cX8_dull 8 = .ok (.ifCond .ne 6, 3) := by decide +kernel
theorem dX8_dull_11 : decode cX8_dull 11 = .ok (.bipush (-2), 2) := by decide +kernel
theorem dX8_dull_13 : decode cX8_dull 13 = .ok (.ireturn, 1) := by decide +kernel
theorem dX8_dull_14 : decode cX8_dull 14 = .ok (.iconst 0, 1) := by decide +kernel
theorem dX8_dull_15 : decode cX8_dull 15 = .ok (.istore_n 2, 1) := by decide +kernel
theorem dX8_dull_16 : decode cX8_dull 16 = .ok (.iconst 0, 1) := by decide +kernel
theorem dX8_dull_17 : decode cX8_dull 17 = .ok (.istore_n 3, 1) := by decide +kernel
theorem dX8_dull_18 : decode cX8_dull 18 = .ok (.iload_n 3, 1) := by decide +kernel
theorem dX8_dull_19 : decode cX8_dull 19 = .ok (.aload_n 0, 1) := by decide +kernel
theorem dX8_dull_20 : decode cX8_dull 20 = .ok (.getfield 32, 3) := by decide +kernel
theorem dX8_dull_23 : decode cX8_dull 23 = .ok (.getfield 156, 3) := by decide +kernel
theorem dX8_dull_26 : decode cX8_dull 26 = .ok (.if_icmp .ge 27, 3) := by decide +kernel
theorem dX8_dull_29 : decode cX8_dull 29 = .ok (.aload_n 0, 1) := by decide +kernel
theorem dX8_dull_30 : decode cX8_dull 30 = .ok (.invokevirtual 189, 3) := by decide +kernel
theorem dX8_dull_33 : decode cX8_dull 33 = .ok (.iload_n 3, 1) := by decide +kernel
theorem dX8_dull_34 : decode cX8_dull 34 = .ok (.iload_n 1, 1) := by decide +kernel
theorem dX8_dull_35 : decode cX8_dull 35 = .ok (.invokevirtual 220, 3) := by decide +kernel
theorem dX8_dull_38 : decode cX8_dull 38 = .ok (.ifCond .ne 9, 3) := by decide +kernel
theorem dX8_dull_41 : decode cX8_dull 41 = .ok (.iload_n 2, 1) := by decide +kernel
theorem dX8_dull_42 : decode cX8_dull 42 = .ok (.iconst 1, 1) := by decide +kernel
theorem dX8_dull_43 : decode cX8_dull 43 = .ok (.iload_n 3, 1) := by decide +kernel
theorem dX8_dull_44 : decode cX8_dull 44 = .ok (.ishl, 1) := by decide +kernel
theorem dX8_dull_45 : decode cX8_dull 45 = .ok (.ior, 1) := by decide +kernel
theorem dX8_dull_46 : decode cX8_dull 46 = .ok (.istore_n 2, 1) := by decide +kernel
theorem dX8_dull_47 : decode cX8_dull 47 = .ok (.iinc 3 1, 3) := by decide +kernel
theorem dX8_dull_50 : decode cX8_dull 50 = .ok (.goto (-32), 3) := by decide +kernel
theorem dX8_dull_53 : decode cX8_dull 53 = .ok (.iload_n 2, 1) := by decide +kernel
theorem dX8_dull_54 : decode cX8_dull 54 = .ok (.ireturn, 1) := by decide +kernel
theorem dX8_earChoice_0 : decode cX8_earChoice 0 = .ok (.aload_n 0, 1) := by decide +kernel
theorem dX8_earChoice_1 : decode cX8_earChoice 1 = .ok (.getfield 32, 3) := by decide +kernel
theorem dX8_earChoice_4 : decode cX8_earChoice 4 = .ok (.iconst 1, 1) := by decide +kernel
theorem dX8_earChoice_5 : decode cX8_earChoice 5 = .ok (.invokevirtual 211, 3) := by decide +kernel
theorem dX8_earChoice_8 : decode cX8_earChoice 8 = .ok (.ifCond .ne 5, 3) := by decide +kernel
theorem dX8_earChoice_11 : decode cX8_earChoice 11 = .ok (.iconst (-1), 1) := by decide +kernel
theorem dX8_earChoice_12 : decode cX8_earChoice 12 = .ok (.ireturn, 1) := by decide +kernel
theorem dX8_earChoice_13 : decode cX8_earChoice 13 = .ok (.aload_n 0, 1) := by decide +kernel
theorem dX8_earChoice_14 : decode cX8_earChoice 14 = .ok (.getfield 59, 3) := by decide +kernel
theorem dX8_earChoice_17 : decode cX8_earChoice 17 = .ok (.iconst 1, 1) := by decide +kernel
theorem dX8_earChoice_18 : decode cX8_earChoice 18 = .ok (.iload_n 1, 1) := by decide +kernel
theorem dX8_earChoice_19 : decode cX8_earChoice 19 = .ok (.ishl, 1) := by decide +kernel
theorem dX8_earChoice_20 : decode cX8_earChoice 20 = .ok (.invokevirtual 428, 3) := by decide +kernel
theorem dX8_earChoice_23 : decode cX8_earChoice 23 = .ok (.istore_n 2, 1) := by decide +kernel
theorem dX8_earChoice_24 : decode cX8_earChoice 24 = .ok (.iconst (-1), 1) := by decide +kernel
theorem dX8_earChoice_25 : decode cX8_earChoice 25 = .ok (.istore_n 3, 1) := by decide +kernel
theorem dX8_earChoice_26 : decode cX8_earChoice 26 = .ok (.iconst (-1), 1) := by decide +kernel
theorem dX8_earChoice_27 : decode cX8_earChoice 27 = .ok (.istore 4, 2) := by decide +kernel
theorem dX8_earChoice_29 : decode cX8_earChoice 29 = .ok (.iconst 0, 1) := by decide +kernel
theorem dX8_earChoice_30 : decode cX8_earChoice 30 = .ok (.istore 5, 2) := by decide +kernel
theorem dX8_earChoice_32 : decode cX8_earChoice 32 = .ok (.iload 5, 2) := by decide +kernel
theorem dX8_earChoice_34 : decode cX8_earChoice 34 = .ok (.aload_n 0, 1) := by decide +kernel
theorem dX8_earChoice_35 : decode cX8_earChoice 35 = .ok (.getfield 32, 3) := by decide +kernel
theorem dX8_earChoice_38 : decode cX8_earChoice 38 = .ok (.getfield 156, 3) := by decide +kernel
theorem dX8_earChoice_41 : decode cX8_earChoice 41 = .ok (.if_icmp .ge 56, 3) := by decide +kernel
theorem dX8_earChoice_44 : decode cX8_earChoice 44 = .ok (.iload_n 2, 1) := by decide +kernel
theorem dX8_earChoice_45 : decode cX8_earChoice 45 = .ok (.iload 5, 2) := by decide +kernel
theorem dX8_earChoice_47 : decode cX8_earChoice 47 = .ok (.invokestatic 145, 3) := by decide +kernel
theorem dX8_earChoice_50 : decode cX8_earChoice 50 = .ok (.ifCond .ne 41, 3) := by decide +kernel
theorem dX8_earChoice_53 : decode cX8_earChoice 53 = .ok (.aload_n 0, 1) := by decide +kernel
theorem dX8_earChoice_54 : decode cX8_earChoice 54 = .ok (.getfield 59, 3) := by decide +kernel
theorem dX8_earChoice_57 : decode cX8_earChoice 57 = .ok (.iconst 1, 1) := by decide +kernel
theorem dX8_earChoice_58 : decode cX8_earChoice 58 = .ok (.iload_n 1, 1) := by decide +kernel
theorem dX8_earChoice_59 : decode cX8_earChoice 59 = .ok (.ishl, 1) := by decide +kernel
theorem dX8_earChoice_60 : decode cX8_earChoice 60 = .ok (.iconst 1, 1) := by decide +kernel
theorem dX8_earChoice_61 : decode cX8_earChoice 61 = .ok (.iload 5, 2) := by decide +kernel
theorem dX8_earChoice_63 : decode cX8_earChoice 63 = .ok (.ishl, 1) := by decide +kernel
theorem dX8_earChoice_64 : decode cX8_earChoice 64 = .ok (.invokevirtual 431, 3) := by decide +kernel
theorem dX8_earChoice_67 : decode cX8_earChoice 67 = .ok (.aload_n 0, 1) := by decide +kernel
theorem dX8_earChoice_68 : decode cX8_earChoice 68 = .ok (.getfield 59, 3) := by decide +kernel
theorem dX8_earChoice_71 : decode cX8_earChoice 71 = .ok (.iconst 1, 1) := by decide +kernel
theorem dX8_earChoice_72 : decode cX8_earChoice 72 = .ok (.invokevirtual 214, 3) := by decide +kernel
theorem dX8_earChoice_75 : decode cX8_earChoice 75 = .ok (.istore 6, 2) := by decide +kernel
theorem dX8_earChoice_77 : decode cX8_earChoice 77 = .ok (.iload 6, 2) := by decide +kernel
theorem dX8_earChoice_79 : decode cX8_earChoice 79 = .ok (.iload 4, 2) := by decide +kernel
theorem dX8_earChoice_81 : decode cX8_earChoice 81 = .ok (.if_icmp .le 10, 3) := by decide +kernel
theorem dX8_earChoice_84 : decode cX8_earChoice 84 = .ok (.iload 6, 2) := by decide +kernel
theorem dX8_earChoice_86 : decode cX8_earChoice 86 = .ok (.istore 4, 2) := by decide +kernel
theorem dX8_earChoice_88 : decode cX8_earChoice 88 = .ok (.iload 5, 2) := by decide +kernel
theorem dX8_earChoice_90 : decode cX8_earChoice 90 = .ok (.istore_n 3, 1) := by decide +kernel
theorem dX8_earChoice_91 : decode cX8_earChoice 91 = .ok (.iinc 5 1, 3) := by decide +kernel
theorem dX8_earChoice_94 : decode cX8_earChoice 94 = .ok (.goto (-62), 3) := by decide +kernel
theorem dX8_earChoice_97 : decode cX8_earChoice 97 = .ok (.iload_n 3, 1) := by decide +kernel
theorem dX8_earChoice_98 : decode cX8_earChoice 98 = .ok (.ireturn, 1) := by decide +kernel
theorem dX8_end_0 : decode cX8_end 0 = .ok (.iload_n 1, 1) := by decide +kernel
theorem dX8_end_1 : decode cX8_end 1 = .ok (.ifCond .lt 14, 3) := by decide +kernel
theorem dX8_end_4 : decode cX8_end 4 = .ok (.iload_n 1, 1) := by decide +kernel
theorem dX8_end_5 : decode cX8_end 5 = .ok (.aload_n 0, 1) := by decide +kernel
theorem dX8_end_6 : decode cX8_end 6 = .ok (.getfield 10, 3) := by decide +kernel
theorem dX8_end_9 : decode cX8_end 9 = .ok (.getfield 106, 3) := by decide +kernel
theorem dX8_end_12 : decode cX8_end 12 = .ok (.if_icmp .le 5, 3) := by decide +kernel
theorem dX8_end_15 : decode cX8_end 15 = .ok (.iconst (-1), 1) := by decide +kernel
theorem dX8_end_16 : decode cX8_end 16 = .ok (.ireturn, 1) := by decide +kernel
theorem dX8_end_17 : decode cX8_end 17 = .ok (.aload_n 0, 1) := by decide +kernel
theorem dX8_end_18 : decode cX8_end 18 = .ok (.getfield 10, 3) := by decide +kernel
theorem dX8_end_21 : decode cX8_end 21 = .ok (.iload_n 1, 1) := by decide +kernel
theorem dX8_end_22 : decode cX8_end 22 = .ok (.putfield 106, 3) := by decide +kernel
theorem dX8_end_25 : decode cX8_end 25 = .ok (.iload_n 1, 1) := by decide +kernel
theorem dX8_end_26 : decode cX8_end 26 = .ok (.ireturn, 1) := by decide +kernel
theorem dX8_factorial_0 : decode cX8_factorial 0 = .ok (.iload_n 0, 1) := by decide +kernel
theorem dX8_factorial_1 : decode cX8_factorial 1 = .ok (.ifCond .lt 19, 3) := by decide +kernel
theorem dX8_factorial_4 : decode cX8_factorial 4 = .ok (.iload_n 0, 1) := by decide +kernel
theorem dX8_factorial_5 : decode cX8_factorial 5 = .ok (.getstatic 403, 3) := by decide +kernel
theorem dX8_factorial_8 : decode cX8_factorial 8 = .ok (.arraylength, 1) := by decide +kernel
theorem dX8_factorial_9 : decode cX8_factorial 9 = .ok (.if_icmp .ge 11, 3) := by decide +kernel
theorem dX8_factorial_12 : decode cX8_factorial 12 = .ok (.getstatic 403, 3) := by decide +kernel
theorem dX8_factorial_15 : decode cX8_factorial 15 = .ok (.iload_n 0, 1) := by decide +kernel
theorem dX8_factorial_16 : decode cX8_factorial 16 = .ok (.iaload, 1) := by decide +kernel
theorem dX8_factorial_17 : decode cX8_factorial 17 = .ok (.goto 4, 3) := by decide +kernel
theorem dX8_factorial_20 : decode cX8_factorial 20 = .ok (.iconst 1, 1) := by decide +kernel
theorem dX8_factorial_21 : decode cX8_factorial 21 = .ok (.ireturn, 1) := by decide +kernel
theorem dX8_far_0 : decode cX8_far 0 = .ok (.aload_n 0, 1) := by decide +kernel
theorem dX8_far_1 : decode cX8_far 1 = .ok (.getfield 32, 3) := by decide +kernel
theorem dX8_far_4 : decode cX8_far 4 = .ok (.iload_n 1, 1) := by decide +kernel
theorem dX8_far_5 : decode cX8_far 5 = .ok (.invokevirtual 127, 3) := by decide +kernel
theorem dX8_far_8 : decode cX8_far 8 = .ok (.ifCond .eq 14, 3) := by decide +kernel
theorem dX8_far_11 : decode cX8_far 11 = .ok (.aload_n 0, 1) := by decide +kernel
theorem dX8_far_12 : decode cX8_far 12 = .ok (.getfield 32, 3) := by decide +kernel
theorem dX8_far_15 : decode cX8_far 15 = .ok (.iload_n 2, 1) := by decide +kernel
theorem dX8_far_16 : decode cX8_far 16 = .ok (.invokevirtual 127, 3) := by decide +kernel
theorem dX8_far_19 : decode cX8_far 19 = .ok (.ifCond .ne 6, 3) := by decide +kernel
theorem dX8_far_22 : decode cX8_far 22 = .ok (.bipush (-2), 2) := by decide +kernel
theorem dX8_far_24 : decode cX8_far 24 = .ok (.ireturn, 1) := by decide +kernel
theorem dX8_far_25 : decode cX8_far 25 = .ok (.iconst 1, 1) := by decide +kernel
theorem dX8_far_26 : decode cX8_far 26 = .ok (.iload_n 1, 1) := by decide +kernel
theorem dX8_far_27 : decode cX8_far 27 = .ok (.ishl, 1) := by decide +kernel
theorem dX8_far_28 : decode cX8_far 28 = .ok (.istore_n 3, 1) := by decide +kernel
theorem dX8_far_29 : decode cX8_far 29 = .ok (.iconst 0, 1) := by decide +kernel
theorem dX8_far_30 : decode cX8_far 30 = .ok (.istore 4, 2) := by decide +kernel
theorem dX8_far_32 : decode cX8_far 32 = .ok (.iload 4, 2) := by decide +kernel
theorem dX8_far_34 : decode cX8_far 34 = .ok (.bipush 6, 2) := by decide +kernel
theorem dX8_far_36 : decode cX8_far 36 = .ok (.if_icmp .ge 29, 3) := by decide +kernel
theorem dX8_far_39 : decode cX8_far 39 = .ok (.iload_n 3, 1) := by decide +kernel
theorem dX8_far_40 : decode cX8_far 40 = .ok (.iload_n 2, 1) := by decide +kernel
theorem dX8_far_41 : decode cX8_far 41 = .ok (.invokestatic 145, 3) := by decide +kernel
theorem dX8_far_44 : decode cX8_far 44 = .ok (.ifCond .eq 6, 3) := by decide +kernel
theorem dX8_far_47 : decode cX8_far 47 = .ok (.iload 4, 2) := by decide +kernel
theorem dX8_far_49 : decode cX8_far 49 = .ok (.ireturn, 1) := by decide +kernel
theorem dX8_far_50 : decode cX8_far 50 = .ok (.aload_n 0, 1) := by decide +kernel
theorem dX8_far_51 : decode cX8_far 51 = .ok (.getfield 32, 3) := by decide +kernel
theorem dX8_far_54 : decode cX8_far 54 = .ok (.iload_n 3, 1) := by decide +kernel
theorem dX8_far_55 : decode cX8_far 55 = .ok (.invokevirtual 149, 3) := by decide +kernel
theorem dX8_far_58 : decode cX8_far 58 = .ok (.istore_n 3, 1) := by decide +kernel
theorem dX8_far_59 : decode cX8_far 59 = .ok (.iinc 4 1, 3) := by decide +kernel
theorem dX8_far_62 : decode cX8_far 62 = .ok (.goto (-30), 3) := by decide +kernel
theorem dX8_far_65 : decode cX8_far 65 = .ok (.iconst (-1), 1) := by decide +kernel
theorem dX8_far_66 : decode cX8_far 66 = .ok (.ireturn, 1) := by decide +kernel
theorem dX8_fault_0 : decode cX8_fault 0 = .ok (.iload_n 1, 1) := by decide +kernel
theorem dX8_fault_1 : decode cX8_fault 1 = .ok (.lookupswitch 43 #[(0, 27), (1, 35)], 27) := by decide +kernel
theorem dX8_fault_28 : decode cX8_fault 28 = .ok (.aload_n 0, 1) := by decide +kernel
theorem dX8_fault_29 : decode cX8_fault 29 = .ok (.getfield 28, 3) := by decide +kernel
theorem dX8_fault_32 : decode cX8_fault 32 = .ok (.getfield 121, 3) := by decide +kernel
theorem dX8_fault_35 : decode cX8_fault 35 = .ok (.ireturn, 1) := by decide +kernel
theorem dX8_fault_36 : decode cX8_fault 36 = .ok (.aload_n 0, 1) := by decide +kernel
theorem dX8_fault_37 : decode cX8_fault 37 = .ok (.getfield 28, 3) := by decide +kernel
theorem dX8_fault_40 : decode cX8_fault 40 = .ok (.getfield 124, 3) := by decide +kernel
theorem dX8_fault_43 : decode cX8_fault 43 = .ok (.ireturn, 1) := by decide +kernel
theorem dX8_fault_44 : decode cX8_fault 44 = .ok (.iconst (-1), 1) := by decide +kernel
theorem dX8_fault_45 : decode cX8_fault 45 = .ok (.ireturn, 1) := by decide +kernel
theorem dX8_feed_0 : decode cX8_feed 0 = .ok (.aload_n 0, 1) := by decide +kernel
theorem dX8_feed_1 : decode cX8_feed 1 = .ok (.getfield 10, 3) := by decide +kernel
theorem dX8_feed_4 : decode cX8_feed 4 = .ok (.invokevirtual 98, 3) := by decide +kernel
theorem dX8_feed_7 : decode cX8_feed 7 = .ok (.ifCond .ne 5, 3) := by decide +kernel
theorem dX8_feed_10 : decode cX8_feed 10 = .ok (.iconst (-1), 1) := by decide +kernel
theorem dX8_feed_11 : decode cX8_feed 11 = .ok (.ireturn, 1) := by decide +kernel
theorem dX8_feed_12 : decode cX8_feed 12 = .ok (.aload_n 0, 1) := by decide +kernel
theorem dX8_feed_13 : decode cX8_feed 13 = .ok (.getfield 10, 3) := by decide +kernel
theorem dX8_feed_16 : decode cX8_feed 16 = .ok (.iload_n 1, 1) := by decide +kernel
theorem dX8_feed_17 : decode cX8_feed 17 = .ok (.invokevirtual 102, 3) := by decide +kernel
theorem dX8_feed_20 : decode cX8_feed 20 = .ok (.aload_n 0, 1) := by decide +kernel
theorem dX8_feed_21 : decode cX8_feed 21 = .ok (.getfield 10, 3) := by decide +kernel
theorem dX8_feed_24 : decode cX8_feed 24 = .ok (.iload_n 2, 1) := by decide +kernel
theorem dX8_feed_25 : decode cX8_feed 25 = .ok (.invokevirtual 102, 3) := by decide +kernel
theorem dX8_feed_28 : decode cX8_feed 28 = .ok (.aload_n 0, 1) := by decide +kernel
theorem dX8_feed_29 : decode cX8_feed 29 = .ok (.getfield 10, 3) := by decide +kernel
theorem dX8_feed_32 : decode cX8_feed 32 = .ok (.iload_n 3, 1) := by decide +kernel
theorem dX8_feed_33 : decode cX8_feed 33 = .ok (.invokevirtual 102, 3) := by decide +kernel
theorem dX8_feed_36 : decode cX8_feed 36 = .ok (.aload_n 0, 1) := by decide +kernel
theorem dX8_feed_37 : decode cX8_feed 37 = .ok (.getfield 10, 3) := by decide +kernel
theorem dX8_feed_40 : decode cX8_feed 40 = .ok (.iload 4, 2) := by decide +kernel
theorem dX8_feed_42 : decode cX8_feed 42 = .ok (.invokevirtual 102, 3) := by decide +kernel
theorem dX8_feed_45 : decode cX8_feed 45 = .ok (.aload_n 0, 1) := by decide +kernel
theorem dX8_feed_46 : decode cX8_feed 46 = .ok (.getfield 10, 3) := by decide +kernel
theorem dX8_feed_49 : decode cX8_feed 49 = .ok (.iload 5, 2) := by decide +kernel
theorem dX8_feed_51 : decode cX8_feed 51 = .ok (.invokevirtual 102, 3) := by decide +kernel
theorem dX8_feed_54 : decode cX8_feed 54 = .ok (.aload_n 0, 1) := by decide +kernel
theorem dX8_feed_55 : decode cX8_feed 55 = .ok (.getfield 10, 3) := by decide +kernel
theorem dX8_feed_58 : decode cX8_feed 58 = .ok (.getfield 106, 3) := by decide +kernel
theorem dX8_feed_61 : decode cX8_feed 61 = .ok (.ireturn, 1) := by decide +kernel
theorem dX8_few_0 : decode cX8_few 0 = .ok (.aload_n 0, 1) := by decide +kernel
theorem dX8_few_1 : decode cX8_few 1 = .ok (.getfield 32, 3) := by decide +kernel
theorem dX8_few_4 : decode cX8_few 4 = .ok (.invokevirtual 153, 3) := by decide +kernel
theorem dX8_few_7 : decode cX8_few 7 = .ok (.ifCond .eq 13, 3) := by decide +kernel
theorem dX8_few_10 : decode cX8_few 10 = .ok (.aload_n 0, 1) := by decide +kernel
theorem dX8_few_11 : decode cX8_few 11 = .ok (.invokevirtual 249, 3) := by decide +kernel
theorem dX8_few_14 : decode cX8_few 14 = .ok (.invokestatic 252, 3) := by decide +kernel
theorem dX8_few_17 : decode cX8_few 17 = .ok (.goto 5, 3) := by decide +kernel
theorem dX8_few_20 : decode cX8_few 20 = .ok (.bipush (-2), 2) := by decide +kernel
theorem dX8_few_22 : decode cX8_few 22 = .ok (.ireturn, 1) := by decide +kernel
theorem dX8_fewest_0 : decode cX8_fewest 0 = .ok (.aload_n 0, 1) := by decide +kernel
theorem dX8_fewest_1 : decode cX8_fewest 1 = .ok (.getfield 59, 3) := by decide +kernel
theorem dX8_fewest_4 : decode cX8_fewest 4 = .ok (.iconst (-1), 1) := by decide +kernel
theorem dX8_fewest_5 : decode cX8_fewest 5 = .ok (.invokevirtual 257, 3) := by decide +kernel
theorem dX8_fewest_8 : decode cX8_fewest 8 = .ok (.aload_n 0, 1) := by decide +kernel
theorem dX8_fewest_9 : decode cX8_fewest 9 = .ok (.getfield 32, 3) := by decide +kernel
theorem dX8_fewest_12 : decode cX8_fewest 12 = .ok (.invokevirtual 243, 3) := by decide +kernel
theorem dX8_fewest_15 : decode cX8_fewest 15 = .ok (.istore_n 1, 1) := by decide +kernel
theorem dX8_fewest_16 : decode cX8_fewest 16 = .ok (.iconst 0, 1) := by decide +kernel
theorem dX8_fewest_17 : decode cX8_fewest 17 = .ok (.istore_n 2, 1) := by decide +kernel
theorem dX8_fewest_18 : decode cX8_fewest 18 = .ok (.iload_n 2, 1) := by decide +kernel
theorem dX8_fewest_19 : decode cX8_fewest 19 = .ok (.aload_n 0, 1) := by decide +kernel
theorem dX8_fewest_20 : decode cX8_fewest 20 = .ok (.getfield 32, 3) := by decide +kernel
theorem dX8_fewest_23 : decode cX8_fewest 23 = .ok (.invokevirtual 243, 3) := by decide +kernel
theorem dX8_fewest_26 : decode cX8_fewest 26 = .ok (.if_icmp .gt 50, 3) := by decide +kernel
theorem dX8_fewest_29 : decode cX8_fewest 29 = .ok (.aload_n 0, 1) := by decide +kernel
theorem dX8_fewest_30 : decode cX8_fewest 30 = .ok (.getfield 59, 3) := by decide +kernel
theorem dX8_fewest_33 : decode cX8_fewest 33 = .ok (.iload_n 2, 1) := by decide +kernel
theorem dX8_fewest_34 : decode cX8_fewest 34 = .ok (.invokevirtual 428, 3) := by decide +kernel
theorem dX8_fewest_37 : decode cX8_fewest 37 = .ok (.aload_n 0, 1) := by decide +kernel
theorem dX8_fewest_38 : decode cX8_fewest 38 = .ok (.getfield 32, 3) := by decide +kernel
theorem dX8_fewest_41 : decode cX8_fewest 41 = .ok (.invokevirtual 243, 3) := by decide +kernel
theorem dX8_fewest_44 : decode cX8_fewest 44 = .ok (.if_icmp .ne 7, 3) := by decide +kernel
theorem dX8_fewest_47 : decode cX8_fewest 47 = .ok (.iconst 1, 1) := by decide +kernel
theorem dX8_fewest_48 : decode cX8_fewest 48 = .ok (.goto 4, 3) := by decide +kernel
theorem dX8_fewest_51 : decode cX8_fewest 51 = .ok (.iconst 0, 1) := by decide +kernel
theorem dX8_fewest_52 : decode cX8_fewest 52 = .ok (.istore_n 3, 1) := by decide +kernel
theorem dX8_fewest_53 : decode cX8_fewest 53 = .ok (.iload_n 3, 1) := by decide +kernel
theorem dX8_fewest_54 : decode cX8_fewest 54 = .ok (.ifCond .eq 16, 3) := by decide +kernel
theorem dX8_fewest_57 : decode cX8_fewest 57 = .ok (.iload_n 2, 1) := by decide +kernel
theorem dX8_fewest_58 : decode cX8_fewest 58 = .ok (.invokestatic 252, 3) := by decide +kernel
theorem dX8_fewest_61 : decode cX8_fewest 61 = .ok (.iload_n 1, 1) := by decide +kernel
theorem dX8_fewest_62 : decode cX8_fewest 62 = .ok (.invokestatic 252, 3) := by decide +kernel
theorem dX8_fewest_65 : decode cX8_fewest 65 = .ok (.if_icmp .ge 5, 3) := by decide +kernel
theorem dX8_fewest_68 : decode cX8_fewest 68 = .ok (.iload_n 2, 1) := by decide +kernel
theorem dX8_fewest_69 : decode cX8_fewest 69 = .ok (.istore_n 1, 1) := by decide +kernel
theorem dX8_fewest_70 : decode cX8_fewest 70 = .ok (.iinc 2 1, 3) := by decide +kernel
theorem dX8_fewest_73 : decode cX8_fewest 73 = .ok (.goto (-55), 3) := by decide +kernel
theorem dX8_fewest_76 : decode cX8_fewest 76 = .ok (.iload_n 1, 1) := by decide +kernel
theorem dX8_fewest_77 : decode cX8_fewest 77 = .ok (.ireturn, 1) := by decide +kernel
