theorem dX9_peak_0 : decode cX9_peak 0 = .ok (.aload_n 0, 1) := by decide +kernel
theorem dX9_peak_1 : decode cX9_peak 1 = .ok (.iconst 0, 1) := by decide +kernel
theorem dX9_peak_2 : decode cX9_peak 2 = .ok (.putfield 83, 3) := by decide +kernel
theorem dX9_peak_5 : decode cX9_peak 5 = .ok (.aload_n 0, 1) := by decide +kernel
theorem dX9_peak_6 : decode cX9_peak 6 = .ok (.invokevirtual 248, 3) := by decide +kernel
theorem dX9_peak_9 : decode cX9_peak 9 = .ok (.ifCond .ne 6, 3) := by decide +kernel
theorem dX9_peak_12 : decode cX9_peak 12 = .ok (.bipush (-2), 2) := by decide +kernel
theorem dX9_peak_14 : decode cX9_peak 14 = .ok (.ireturn, 1) := by decide +kernel
theorem dX9_peak_15 : decode cX9_peak 15 = .ok (.aload_n 0, 1) := by decide +kernel
theorem dX9_peak_16 : decode cX9_peak 16 = .ok (.invokevirtual 330, 3) := by decide +kernel
theorem dX9_peak_19 : decode cX9_peak 19 = .ok (.iconst 0, 1) := by decide +kernel
theorem dX9_peak_20 : decode cX9_peak 20 = .ok (.istore_n 1, 1) := by decide +kernel
theorem dX9_peak_21 : decode cX9_peak 21 = .ok (.iconst 1, 1) := by decide +kernel
theorem dX9_peak_22 : decode cX9_peak 22 = .ok (.istore_n 2, 1) := by decide +kernel
theorem dX9_peak_23 : decode cX9_peak 23 = .ok (.iload_n 2, 1) := by decide +kernel
theorem dX9_peak_24 : decode cX9_peak 24 = .ok (.aload_n 0, 1) := by decide +kernel
theorem dX9_peak_25 : decode cX9_peak 25 = .ok (.invokevirtual 251, 3) := by decide +kernel
theorem dX9_peak_28 : decode cX9_peak 28 = .ok (.if_icmp .ge 24, 3) := by decide +kernel
theorem dX9_peak_31 : decode cX9_peak 31 = .ok (.aload_n 0, 1) := by decide +kernel
theorem dX9_peak_32 : decode cX9_peak 32 = .ok (.iload_n 2, 1) := by decide +kernel
theorem dX9_peak_33 : decode cX9_peak 33 = .ok (.invokevirtual 336, 3) := by decide +kernel
theorem dX9_peak_36 : decode cX9_peak 36 = .ok (.aload_n 0, 1) := by decide +kernel
theorem dX9_peak_37 : decode cX9_peak 37 = .ok (.iload_n 1, 1) := by decide +kernel
theorem dX9_peak_38 : decode cX9_peak 38 = .ok (.invokevirtual 336, 3) := by decide +kernel
theorem dX9_peak_41 : decode cX9_peak 41 = .ok (.if_icmp .le 5, 3) := by decide +kernel
theorem dX9_peak_44 : decode cX9_peak 44 = .ok (.iload_n 2, 1) := by decide +kernel
theorem dX9_peak_45 : decode cX9_peak 45 = .ok (.istore_n 1, 1) := by decide +kernel
theorem dX9_peak_46 : decode cX9_peak 46 = .ok (.iinc 2 1, 3) := by decide +kernel
theorem dX9_peak_49 : decode cX9_peak 49 = .ok (.goto (-26), 3) := by decide +kernel
theorem dX9_peak_52 : decode cX9_peak 52 = .ok (.iload_n 1, 1) := by decide +kernel
theorem dX9_peak_53 : decode cX9_peak 53 = .ok (.ireturn, 1) := by decide +kernel
theorem dX9_pieces_0 : decode cX9_pieces 0 = .ok (.aload_n 0, 1) := by decide +kernel
theorem dX9_pieces_1 : decode cX9_pieces 1 = .ok (.iconst 0, 1) := by decide +kernel
theorem dX9_pieces_2 : decode cX9_pieces 2 = .ok (.putfield 83, 3) := by decide +kernel
theorem dX9_pieces_5 : decode cX9_pieces 5 = .ok (.aload_n 0, 1) := by decide +kernel
theorem dX9_pieces_6 : decode cX9_pieces 6 = .ok (.invokevirtual 248, 3) := by decide +kernel
theorem dX9_pieces_9 : decode cX9_pieces 9 = .ok (.ifCond .ne 6, 3) := by decide +kernel
theorem dX9_pieces_12 : decode cX9_pieces 12 = .ok (.bipush (-2), 2) := by decide +kernel
theorem dX9_pieces_14 : decode cX9_pieces 14 = .ok (.ireturn, 1) := by decide +kernel
theorem dX9_pieces_15 : decode cX9_pieces 15 = .ok (.aload_n 0, 1) := by decide +kernel
theorem dX9_pieces_16 : decode cX9_pieces 16 = .ok (.invokevirtual 319, 3) := by decide +kernel
theorem dX9_pieces_19 : decode cX9_pieces 19 = .ok (.iconst 0, 1) := by decide +kernel
theorem dX9_pieces_20 : decode cX9_pieces 20 = .ok (.istore_n 1, 1) := by decide +kernel
theorem dX9_pieces_21 : decode cX9_pieces 21 = .ok (.iconst 0, 1) := by decide +kernel
theorem dX9_pieces_22 : decode cX9_pieces 22 = .ok (.istore_n 2, 1) := by decide +kernel
theorem dX9_pieces_23 : decode cX9_pieces 23 = .ok (.iconst 0, 1) := by decide +kernel
theorem dX9_pieces_24 : decode cX9_pieces 24 = .ok (.istore_n 3, 1) := by decide +kernel
theorem dX9_pieces_25 : decode cX9_pieces 25 = .ok (.iload_n 3, 1) := by decide +kernel
theorem dX9_pieces_26 : decode cX9_pieces 26 = .ok (.aload_n 0, 1) := by decide +kernel
theorem dX9_pieces_27 : decode cX9_pieces 27 = .ok (.invokevirtual 245, 3) := by decide +kernel
theorem dX9_pieces_30 : decode cX9_pieces 30 = .ok (.if_icmp .ge 96, 3) := by decide +kernel
theorem dX9_pieces_33 : decode cX9_pieces 33 = .ok (.iload_n 1, 1) := by decide +kernel
theorem dX9_pieces_34 : decode cX9_pieces 34 = .ok (.iload_n 2, 1) := by decide +kernel
theorem dX9_pieces_35 : decode cX9_pieces 35 = .ok (.iload_n 3, 1) := by decide +kernel
theorem dX9_pieces_36 : decode cX9_pieces 36 = .ok (.invokestatic 282, 3) := by decide +kernel
theorem dX9_pieces_39 : decode cX9_pieces 39 = .ok (.ifCond .eq 7, 3) := by decide +kernel
theorem dX9_pieces_42 : decode cX9_pieces 42 = .ok (.iconst 0, 1) := by decide +kernel
theorem dX9_pieces_43 : decode cX9_pieces 43 = .ok (.goto 4, 3) := by decide +kernel
theorem dX9_pieces_46 : decode cX9_pieces 46 = .ok (.iconst 1, 1) := by decide +kernel
theorem dX9_pieces_47 : decode cX9_pieces 47 = .ok (.iadd, 1) := by decide +kernel
theorem dX9_pieces_48 : decode cX9_pieces 48 = .ok (.istore_n 1, 1) := by decide +kernel
theorem dX9_pieces_49 : decode cX9_pieces 49 = .ok (.iconst 1, 1) := by decide +kernel
theorem dX9_pieces_50 : decode cX9_pieces 50 = .ok (.iload_n 3, 1) := by decide +kernel
theorem dX9_pieces_51 : decode cX9_pieces 51 = .ok (.ishl, 1) := by decide +kernel
theorem dX9_pieces_52 : decode cX9_pieces 52 = .ok (.istore 4, 2) := by decide +kernel
theorem dX9_pieces_54 : decode cX9_pieces 54 = .ok (.iconst 0, 1) := by decide +kernel
theorem dX9_pieces_55 : decode cX9_pieces 55 = .ok (.istore 5, 2) := by decide +kernel
theorem dX9_pieces_57 : decode cX9_pieces 57 = .ok (.iload 5, 2) := by decide +kernel
theorem dX9_pieces_59 : decode cX9_pieces 59 = .ok (.aload_n 0, 1) := by decide +kernel
theorem dX9_pieces_60 : decode cX9_pieces 60 = .ok (.invokevirtual 245, 3) := by decide +kernel
theorem dX9_pieces_63 : decode cX9_pieces 63 = .ok (.if_icmp .ge 52, 3) := by decide +kernel
theorem dX9_pieces_66 : decode cX9_pieces 66 = .ok (.iconst 0, 1) := by decide +kernel
theorem dX9_pieces_67 : decode cX9_pieces 67 = .ok (.istore 6, 2) := by decide +kernel
theorem dX9_pieces_69 : decode cX9_pieces 69 = .ok (.iload 6, 2) := by decide +kernel
theorem dX9_pieces_71 : decode cX9_pieces 71 = .ok (.aload_n 0, 1) := by decide +kernel
theorem dX9_pieces_72 : decode cX9_pieces 72 = .ok (.invokevirtual 245, 3) := by decide +kernel
theorem dX9_pieces_75 : decode cX9_pieces 75 = .ok (.if_icmp .ge 34, 3) := by decide +kernel
theorem dX9_pieces_78 : decode cX9_pieces 78 = .ok (.iload 4, 2) := by decide +kernel
theorem dX9_pieces_80 : decode cX9_pieces 80 = .ok (.iload 4, 2) := by decide +kernel
theorem dX9_pieces_82 : decode cX9_pieces 82 = .ok (.iload 6, 2) := by decide +kernel
theorem dX9_pieces_84 : decode cX9_pieces 84 = .ok (.invokestatic 282, 3) := by decide +kernel
theorem dX9_pieces_87 : decode cX9_pieces 87 = .ok (.ifCond .eq 12, 3) := by decide +kernel
theorem dX9_pieces_90 : decode cX9_pieces 90 = .ok (.aload_n 0, 1) := by decide +kernel
theorem dX9_pieces_91 : decode cX9_pieces 91 = .ok (.iload 6, 2) := by decide +kernel
theorem dX9_pieces_93 : decode cX9_pieces 93 = .ok (.invokevirtual 292, 3) := by decide +kernel
theorem dX9_pieces_96 : decode cX9_pieces 96 = .ok (.goto 4, 3) := by decide +kernel
theorem dX9_pieces_99 : decode cX9_pieces 99 = .ok (.iconst 0, 1) := by decide +kernel
theorem dX9_pieces_100 : decode cX9_pieces 100 = .ok (.ior, 1) := by decide +kernel
theorem dX9_pieces_101 : decode cX9_pieces 101 = .ok (.istore 4, 2) := by decide +kernel
theorem dX9_pieces_103 : decode cX9_pieces 103 = .ok (.iinc 6 1, 3) := by decide +kernel
theorem dX9_pieces_106 : decode cX9_pieces 106 = .ok (.goto (-37), 3) := by decide +kernel
theorem dX9_pieces_109 : decode cX9_pieces 109 = .ok (.iinc 5 1, 3) := by decide +kernel
theorem dX9_pieces_112 : decode cX9_pieces 112 = .ok (.goto (-55), 3) := by decide +kernel
theorem dX9_pieces_115 : decode cX9_pieces 115 = .ok (.iload_n 2, 1) := by decide +kernel
theorem dX9_pieces_116 : decode cX9_pieces 116 = .ok (.iload 4, 2) := by decide +kernel
theorem dX9_pieces_118 : decode cX9_pieces 118 = .ok (.ior, 1) := by decide +kernel
theorem dX9_pieces_119 : decode cX9_pieces 119 = .ok (.istore_n 2, 1) := by decide +kernel
theorem dX9_pieces_120 : decode cX9_pieces 120 = .ok (.iinc 3 1, 3) := by decide +kernel
theorem dX9_pieces_123 : decode cX9_pieces 123 = .ok (.goto (-98), 3) := by decide +kernel
theorem dX9_pieces_126 : decode cX9_pieces 126 = .ok (.iload_n 1, 1) := by decide +kernel
theorem dX9_pieces_127 : decode cX9_pieces 127 = .ok (.ireturn, 1) := by decide +kernel
theorem dX9_plan_0 : decode cX9_plan 0 = .ok (.aload_n 0, 1) := by decide +kernel
theorem dX9_plan_1 : decode cX9_plan 1 = .ok (.iconst 0, 1) := by decide +kernel
theorem dX9_plan_2 : decode cX9_plan 2 = .ok (.putfield 83, 3) := by decide +kernel
theorem dX9_plan_5 : decode cX9_plan 5 = .ok (.aload_n 0, 1) := by decide +kernel
theorem dX9_plan_6 : decode cX9_plan 6 = .ok (.iload_n 1, 1) := by decide +kernel
theorem dX9_plan_7 : decode cX9_plan 7 = .ok (.invokevirtual 384, 3) := by decide +kernel
theorem dX9_plan_10 : decode cX9_plan 10 = .ok (.ifCond .ne 6, 3) := by decide +kernel
theorem dX9_plan_13 : decode cX9_plan 13 = .ok (.bipush (-2), 2) := by decide +kernel
theorem dX9_plan_15 : decode cX9_plan 15 = .ok (.ireturn, 1) := by decide +kernel
theorem dX9_plan_16 : decode cX9_plan 16 = .ok (.aload_n 0, 1) := by decide +kernel
theorem dX9_plan_17 : decode cX9_plan 17 = .ok (.iload_n 1, 1) := by decide +kernel
theorem dX9_plan_18 : decode cX9_plan 18 = .ok (.invokevirtual 387, 3) := by decide +kernel
theorem dX9_plan_21 : decode cX9_plan 21 = .ok (.aload_n 0, 1) := by decide +kernel
theorem dX9_plan_22 : decode cX9_plan 22 = .ok (.getfield 375, 3) := by decide +kernel
theorem dX9_plan_25 : decode cX9_plan 25 = .ok (.ireturn, 1) := by decide +kernel
theorem dX9_planFrom_0 : decode cX9_planFrom 0 = .ok (.aload_n 0, 1) := by decide +kernel
theorem dX9_planFrom_1 : decode cX9_planFrom 1 = .ok (.iload_n 1, 1) := by decide +kernel
theorem dX9_planFrom_2 : decode cX9_planFrom 2 = .ok (.invokevirtual 372, 3) := by decide +kernel
theorem dX9_planFrom_5 : decode cX9_planFrom 5 = .ok (.iload_n 1, 1) := by decide +kernel
theorem dX9_planFrom_6 : decode cX9_planFrom 6 = .ok (.iload_n 2, 1) := by decide +kernel
theorem dX9_planFrom_7 : decode cX9_planFrom 7 = .ok (.if_icmp .ne 78, 3) := by decide +kernel
theorem dX9_planFrom_10 : decode cX9_planFrom 10 = .ok (.aload_n 0, 1) := by decide +kernel
theorem dX9_planFrom_11 : decode cX9_planFrom 11 = .ok (.invokevirtual 339, 3) := by decide +kernel
theorem dX9_planFrom_14 : decode cX9_planFrom 14 = .ok (.istore_n 3, 1) := by decide +kernel
theorem dX9_planFrom_15 : decode cX9_planFrom 15 = .ok (.iload_n 3, 1) := by decide +kernel
theorem dX9_planFrom_16 : decode cX9_planFrom 16 = .ok (.aload_n 0, 1) := by decide +kernel
theorem dX9_planFrom_17 : decode cX9_planFrom 17 = .ok (.getfield 375, 3) := by decide +kernel
theorem dX9_planFrom_20 : decode cX9_planFrom 20 = .ok (.if_icmp .le 42, 3) := by decide +kernel
theorem dX9_planFrom_23 : decode cX9_planFrom 23 = .ok (.aload_n 0, 1) := by decide +kernel
theorem dX9_planFrom_24 : decode cX9_planFrom 24 = .ok (.iload_n 3, 1) := by decide +kernel
theorem dX9_planFrom_25 : decode cX9_planFrom 25 = .ok (.putfield 375, 3) := by decide +kernel
theorem dX9_planFrom_28 : decode cX9_planFrom 28 = .ok (.aload_n 0, 1) := by decide +kernel
theorem dX9_planFrom_29 : decode cX9_planFrom 29 = .ok (.iconst 0, 1) := by decide +kernel
theorem dX9_planFrom_30 : decode cX9_planFrom 30 = .ok (.putfield 378, 3) := by decide +kernel
theorem dX9_planFrom_33 : decode cX9_planFrom 33 = .ok (.iconst 0, 1) := by decide +kernel
theorem dX9_planFrom_34 : decode cX9_planFrom 34 = .ok (.istore 4, 2) := by decide +kernel
theorem dX9_planFrom_36 : decode cX9_planFrom 36 = .ok (.iload 4, 2) := by decide +kernel
theorem dX9_planFrom_38 : decode cX9_planFrom 38 = .ok (.iload_n 2, 1) := by decide +kernel
theorem dX9_planFrom_39 : decode cX9_planFrom 39 = .ok (.if_icmp .ge 23, 3) := by decide +kernel
theorem dX9_planFrom_42 : decode cX9_planFrom 42 = .ok (.aload_n 0, 1) := by decide +kernel
theorem dX9_planFrom_43 : decode cX9_planFrom 43 = .ok (.getfield 74, 3) := by decide +kernel
theorem dX9_planFrom_46 : decode cX9_planFrom 46 = .ok (.iload 4, 2) := by decide +kernel
theorem dX9_planFrom_48 : decode cX9_planFrom 48 = .ok (.aload_n 0, 1) := by decide +kernel
theorem dX9_planFrom_49 : decode cX9_planFrom 49 = .ok (.getfield 77, 3) := by decide +kernel
theorem dX9_planFrom_52 : decode cX9_planFrom 52 = .ok (.iload 4, 2) := by decide +kernel
theorem dX9_planFrom_54 : decode cX9_planFrom 54 = .ok (.iaload, 1) := by decide +kernel
theorem dX9_planFrom_55 : decode cX9_planFrom 55 = .ok (.iastore, 1) := by decide +kernel
theorem dX9_planFrom_56 : decode cX9_planFrom 56 = .ok (.iinc 4 1, 3) := by decide +kernel
theorem dX9_planFrom_59 : decode cX9_planFrom 59 = .ok (.goto (-23), 3) := by decide +kernel
theorem dX9_planFrom_62 : decode cX9_planFrom 62 = .ok (.aload_n 0, 1) := by decide +kernel
theorem dX9_planFrom_63 : decode cX9_planFrom 63 = .ok (.dup, 1) := by decide +kernel
theorem dX9_planFrom_64 : decode cX9_planFrom 64 = .ok (.getfield 378, 3) := by decide +kernel
theorem dX9_planFrom_67 : decode cX9_planFrom 67 = .ok (.iload_n 3, 1) := by decide +kernel
theorem dX9_planFrom_68 : decode cX9_planFrom 68 = .ok (.aload_n 0, 1) := by decide +kernel
theorem dX9_planFrom_69 : decode cX9_planFrom 69 = .ok (.getfield 375, 3) := by decide +kernel
theorem dX9_planFrom_72 : decode cX9_planFrom 72 = .ok (.if_icmp .ne 7, 3) := by decide +kernel
theorem dX9_planFrom_75 : decode cX9_planFrom 75 = .ok (.iconst 1, 1) := by decide +kernel
theorem dX9_planFrom_76 : decode cX9_planFrom 76 = .ok (.goto 4, 3) := by decide +kernel
theorem dX9_planFrom_79 : decode cX9_planFrom 79 = .ok (.iconst 0, 1) := by decide +kernel
theorem dX9_planFrom_80 : decode cX9_planFrom 80 = .ok (.iadd, 1) := by decide +kernel
theorem dX9_planFrom_81 : decode cX9_planFrom 81 = .ok (.putfield 378, 3) := by decide +kernel
theorem dX9_planFrom_84 : decode cX9_planFrom 84 = .ok (.return_, 1) := by decide +kernel
theorem dX9_planFrom_85 : decode cX9_planFrom 85 = .ok (.aload_n 0, 1) := by decide +kernel
theorem dX9_planFrom_86 : decode cX9_planFrom 86 = .ok (.invokevirtual 345, 3) := by decide +kernel
theorem dX9_planFrom_89 : decode cX9_planFrom 89 = .ok (.aload_n 0, 1) := by decide +kernel
theorem dX9_planFrom_90 : decode cX9_planFrom 90 = .ok (.getfield 62, 3) := by decide +kernel
theorem dX9_planFrom_93 : decode cX9_planFrom 93 = .ok (.iload_n 1, 1) := by decide +kernel
theorem dX9_planFrom_94 : decode cX9_planFrom 94 = .ok (.iaload, 1) := by decide +kernel
theorem dX9_planFrom_95 : decode cX9_planFrom 95 = .ok (.iconst (-1), 1) := by decide +kernel
theorem dX9_planFrom_96 : decode cX9_planFrom 96 = .ok (.ixor, 1) := by decide +kernel
theorem dX9_planFrom_97 : decode cX9_planFrom 97 = .ok (.iand, 1) := by decide +kernel
theorem dX9_planFrom_98 : decode cX9_planFrom 98 = .ok (.istore_n 3, 1) := by decide +kernel
theorem dX9_planFrom_99 : decode cX9_planFrom 99 = .ok (.iconst (-1), 1) := by decide +kernel
theorem dX9_planFrom_100 : decode cX9_planFrom 100 = .ok (.istore 4, 2) := by decide +kernel
theorem dX9_planFrom_102 : decode cX9_planFrom 102 = .ok (.iload 4, 2) := by decide +kernel
theorem dX9_planFrom_104 : decode cX9_planFrom 104 = .ok (.aload_n 0, 1) := by decide +kernel
theorem dX9_planFrom_105 : decode cX9_planFrom 105 = .ok (.invokevirtual 245, 3) := by decide +kernel
theorem dX9_planFrom_108 : decode cX9_planFrom 108 = .ok (.if_icmp .ge 43, 3) := by decide +kernel
theorem dX9_planFrom_111 : decode cX9_planFrom 111 = .ok (.iload 4, 2) := by decide +kernel
theorem dX9_planFrom_113 : decode cX9_planFrom 113 = .ok (.iconst (-1), 1) := by decide +kernel
theorem dX9_planFrom_114 : decode cX9_planFrom 114 = .ok (.if_icmp .eq 15, 3) := by decide +kernel
theorem dX9_planFrom_117 : decode cX9_planFrom 117 = .ok (.iload_n 3, 1) := by decide +kernel
theorem dX9_planFrom_118 : decode cX9_planFrom 118 = .ok (.iload 4, 2) := by decide +kernel
theorem dX9_planFrom_120 : decode cX9_planFrom 120 = .ok (.invokestatic 282, 3) := by decide +kernel
theorem dX9_planFrom_123 : decode cX9_planFrom 123 = .ok (.ifCond .ne 6, 3) := by decide +kernel
theorem dX9_planFrom_126 : decode cX9_planFrom 126 = .ok (.goto 19, 3) := by decide +kernel
theorem dX9_planFrom_129 : decode cX9_planFrom 129 = .ok (.aload_n 0, 1) := by decide +kernel
theorem dX9_planFrom_130 : decode cX9_planFrom 130 = .ok (.getfield 77, 3) := by decide +kernel
theorem dX9_planFrom_133 : decode cX9_planFrom 133 = .ok (.iload_n 1, 1) := by decide +kernel
theorem dX9_planFrom_134 : decode cX9_planFrom 134 = .ok (.iload 4, 2) := by decide +kernel
theorem dX9_planFrom_136 : decode cX9_planFrom 136 = .ok (.iastore, 1) := by decide +kernel
theorem dX9_planFrom_137 : decode cX9_planFrom 137 = .ok (.aload_n 0, 1) := by decide +kernel
theorem dX9_planFrom_138 : decode cX9_planFrom 138 = .ok (.iload_n 1, 1) := by decide +kernel
theorem dX9_planFrom_139 : decode cX9_planFrom 139 = .ok (.iconst 1, 1) := by decide +kernel
theorem dX9_planFrom_140 : decode cX9_planFrom 140 = .ok (.iadd, 1) := by decide +kernel
theorem dX9_planFrom_141 : decode cX9_planFrom 141 = .ok (.iload_n 2, 1) := by decide +kernel
theorem dX9_planFrom_142 : decode cX9_planFrom 142 = .ok (.invokevirtual 381, 3) := by decide +kernel
theorem dX9_planFrom_145 : decode cX9_planFrom 145 = .ok (.iinc 4 1, 3) := by decide +kernel
theorem dX9_planFrom_148 : decode cX9_planFrom 148 = .ok (.goto (-46), 3) := by decide +kernel
theorem dX9_planFrom_151 : decode cX9_planFrom 151 = .ok (.return_, 1) := by decide +kernel
theorem dX9_planned_0 : decode cX9_planned 0 = .ok (.aload_n 0, 1) := by decide +kernel
theorem dX9_planned_1 : decode cX9_planned 1 = .ok (.iconst 0, 1) := by decide +kernel
theorem dX9_planned_2 : decode cX9_planned 2 = .ok (.putfield 83, 3) := by decide +kernel
theorem dX9_planned_5 : decode cX9_planned 5 = .ok (.aload_n 0, 1) := by decide +kernel
theorem dX9_planned_6 : decode cX9_planned 6 = .ok (.iload_n 1, 1) := by decide +kernel
theorem dX9_planned_7 : decode cX9_planned 7 = .ok (.invokevirtual 384, 3) := by decide +kernel
theorem dX9_planned_10 : decode cX9_planned 10 = .ok (.ifCond .eq 16, 3) := by decide +kernel
theorem dX9_planned_13 : decode cX9_planned 13 = .ok (.iload_n 2, 1) := by decide +kernel
theorem dX9_planned_14 : decode cX9_planned 14 = .ok (.i2l, 1) := by decide +kernel
theorem dX9_planned_15 : decode cX9_planned 15 = .ok (.lconst 0, 1) := by decide +kernel
theorem dX9_planned_16 : decode cX9_planned 16 = .ok (.iload_n 1, 1) := by decide +kernel
theorem dX9_planned_17 : decode cX9_planned 17 = .ok (.i2l, 1) := by decide +kernel
theorem dX9_planned_18 : decode cX9_planned 18 = .ok (.lconst 1, 1) := by decide +kernel
theorem dX9_planned_19 : decode cX9_planned 19 = .ok (.lsub, 1) := by decide +kernel
theorem dX9_planned_20 : decode cX9_planned 20 = .ok (.invokestatic 88, 3) := by decide +kernel
theorem dX9_planned_23 : decode cX9_planned 23 = .ok (.ifCond .ne 6, 3) := by decide +kernel
theorem dX9_planned_26 : decode cX9_planned 26 = .ok (.bipush (-2), 2) := by decide +kernel
theorem dX9_planned_28 : decode cX9_planned 28 = .ok (.ireturn, 1) := by decide +kernel
theorem dX9_planned_29 : decode cX9_planned 29 = .ok (.aload_n 0, 1) := by decide +kernel
theorem dX9_planned_30 : decode cX9_planned 30 = .ok (.iload_n 1, 1) := by decide +kernel
theorem dX9_planned_31 : decode cX9_planned 31 = .ok (.invokevirtual 387, 3) := by decide +kernel
theorem dX9_planned_34 : decode cX9_planned 34 = .ok (.aload_n 0, 1) := by decide +kernel
theorem dX9_planned_35 : decode cX9_planned 35 = .ok (.getfield 74, 3) := by decide +kernel
theorem dX9_planned_38 : decode cX9_planned 38 = .ok (.iload_n 2, 1) := by decide +kernel
theorem dX9_planned_39 : decode cX9_planned 39 = .ok (.iaload, 1) := by decide +kernel
theorem dX9_planned_40 : decode cX9_planned 40 = .ok (.ireturn, 1) := by decide +kernel
theorem dX9_plans_0 : decode cX9_plans 0 = .ok (.aload_n 0, 1) := by decide +kernel
theorem dX9_plans_1 : decode cX9_plans 1 = .ok (.iconst 0, 1) := by decide +kernel
theorem dX9_plans_2 : decode cX9_plans 2 = .ok (.putfield 83, 3) := by decide +kernel
theorem dX9_plans_5 : decode cX9_plans 5 = .ok (.aload_n 0, 1) := by decide +kernel
theorem dX9_plans_6 : decode cX9_plans 6 = .ok (.iload_n 1, 1) := by decide +kernel
theorem dX9_plans_7 : decode cX9_plans 7 = .ok (.invokevirtual 384, 3) := by decide +kernel
theorem dX9_plans_10 : decode cX9_plans 10 = .ok (.ifCond .ne 6, 3) := by decide +kernel
theorem dX9_plans_13 : decode cX9_plans 13 = .ok (.bipush (-2), 2) := by decide +kernel
theorem dX9_plans_15 : decode cX9_plans 15 = .ok (.ireturn, 1) := by decide +kernel
theorem dX9_plans_16 : decode cX9_plans 16 = .ok (.aload_n 0, 1) := by decide +kernel
theorem dX9_plans_17 : decode cX9_plans 17 = .ok (.iload_n 1, 1) := by decide +kernel
theorem dX9_plans_18 : decode cX9_plans 18 = .ok (.invokevirtual 387, 3) := by decide +kernel
theorem dX9_plans_21 : decode cX9_plans 21 = .ok (.aload_n 0, 1) := by decide +kernel
theorem dX9_plans_22 : decode cX9_plans 22 = .ok (.getfield 378, 3) := by decide +kernel
theorem dX9_plans_25 : decode cX9_plans 25 = .ok (.ireturn, 1) := by decide +kernel
theorem dX9_power_0 : decode cX9_power 0 = .ok (.iload_n 2, 1) := by decide +kernel
theorem dX9_power_1 : decode cX9_power 1 = .ok (.ifCond .ne 7, 3) := by decide +kernel
theorem dX9_power_4 : decode cX9_power 4 = .ok (.lconst 1, 1) := by decide +kernel
theorem dX9_power_5 : decode cX9_power 5 = .ok (.goto 12, 3) := by decide +kernel
theorem dX9_power_8 : decode cX9_power 8 = .ok (.lload_n 0, 1) := by decide +kernel
theorem dX9_power_9 : decode cX9_power 9 = .ok (.lload_n 0, 1) := by decide +kernel
theorem dX9_power_10 : decode cX9_power 10 = .ok (.iload_n 2, 1) := by decide +kernel
theorem dX9_power_11 : decode cX9_power 11 = .ok (.iconst 1, 1) := by decide +kernel
theorem dX9_power_12 : decode cX9_power 12 = .ok (.isub, 1) := by decide +kernel
theorem dX9_power_13 : decode cX9_power 13 = .ok (.invokestatic 445, 3) := by decide +kernel
theorem dX9_power_16 : decode cX9_power 16 = .ok (.lmul, 1) := by decide +kernel
theorem dX9_power_17 : decode cX9_power 17 = .ok (.lreturn, 1) := by decide +kernel
theorem dX9_quiet_0 : decode cX9_quiet 0 = .ok (.aload_n 0, 1) := by decide +kernel
theorem dX9_quiet_1 : decode cX9_quiet 1 = .ok (.iconst 0, 1) := by decide +kernel
theorem dX9_quiet_2 : decode cX9_quiet 2 = .ok (.putfield 83, 3) := by decide +kernel
theorem dX9_quiet_5 : decode cX9_quiet 5 = .ok (.aload_n 0, 1) := by decide +kernel
theorem dX9_quiet_6 : decode cX9_quiet 6 = .ok (.invokevirtual 248, 3) := by decide +kernel
theorem dX9_quiet_9 : decode cX9_quiet 9 = .ok (.ifCond .ne 6, 3) := by decide +kernel
theorem dX9_quiet_12 : decode cX9_quiet 12 = .ok (.bipush (-2), 2) := by decide +kernel
theorem dX9_quiet_14 : decode cX9_quiet 14 = .ok (.ireturn, 1) := by decide +kernel
theorem dX9_quiet_15 : decode cX9_quiet 15 = .ok (.aload_n 0, 1) := by decide +kernel
theorem dX9_quiet_16 : decode cX9_quiet 16 = .ok (.invokevirtual 330, 3) := by decide +kernel
theorem dX9_quiet_19 : decode cX9_quiet 19 = .ok (.iconst 0, 1) := by decide +kernel
theorem dX9_quiet_20 : decode cX9_quiet 20 = .ok (.istore_n 1, 1) := by decide +kernel
theorem dX9_quiet_21 : decode cX9_quiet 21 = .ok (.iconst 0, 1) := by decide +kernel
theorem dX9_quiet_22 : decode cX9_quiet 22 = .ok (.istore_n 2, 1) := by decide +kernel
theorem dX9_quiet_23 : decode cX9_quiet 23 = .ok (.iload_n 2, 1) := by decide +kernel
theorem dX9_quiet_24 : decode cX9_quiet 24 = .ok (.aload_n 0, 1) := by decide +kernel
theorem dX9_quiet_25 : decode cX9_quiet 25 = .ok (.invokevirtual 251, 3) := by decide +kernel
theorem dX9_quiet_28 : decode cX9_quiet 28 = .ok (.if_icmp .ge 25, 3) := by decide +kernel
theorem dX9_quiet_31 : decode cX9_quiet 31 = .ok (.iload_n 1, 1) := by decide +kernel
theorem dX9_quiet_32 : decode cX9_quiet 32 = .ok (.aload_n 0, 1) := by decide +kernel
theorem dX9_quiet_33 : decode cX9_quiet 33 = .ok (.iload_n 2, 1) := by decide +kernel
theorem dX9_quiet_34 : decode cX9_quiet 34 = .ok (.invokevirtual 348, 3) := by decide +kernel
theorem dX9_quiet_37 : decode cX9_quiet 37 = .ok (.ifCond .ne 7, 3) := by decide +kernel
theorem dX9_quiet_40 : decode cX9_quiet 40 = .ok (.iconst 1, 1) := by decide +kernel
theorem dX9_quiet_41 : decode cX9_quiet 41 = .ok (.goto 4, 3) := by decide +kernel
theorem dX9_quiet_44 : decode cX9_quiet 44 = .ok (.iconst 0, 1) := by decide +kernel
theorem dX9_quiet_45 : decode cX9_quiet 45 = .ok (.iadd, 1) := by decide +kernel
theorem dX9_quiet_46 : decode cX9_quiet 46 = .ok (.istore_n 1, 1) := by decide +kernel
theorem dX9_quiet_47 : decode cX9_quiet 47 = .ok (.iinc 2 1, 3) := by decide +kernel
theorem dX9_quiet_50 : decode cX9_quiet 50 = .ok (.goto (-27), 3) := by decide +kernel
theorem dX9_quiet_53 : decode cX9_quiet 53 = .ok (.iload_n 1, 1) := by decide +kernel
theorem dX9_quiet_54 : decode cX9_quiet 54 = .ok (.ireturn, 1) := by decide +kernel
theorem dX9_rate_0 : decode cX9_rate 0 = .ok (.aload_n 0, 1) := by decide +kernel
theorem dX9_rate_1 : decode cX9_rate 1 = .ok (.iconst 0, 1) := by decide +kernel
theorem dX9_rate_2 : decode cX9_rate 2 = .ok (.putfield 83, 3) := by decide +kernel
theorem dX9_rate_5 : decode cX9_rate 5 = .ok (.aload_n 0, 1) := by decide +kernel
theorem dX9_rate_6 : decode cX9_rate 6 = .ok (.iload_n 1, 1) := by decide +kernel
theorem dX9_rate_7 : decode cX9_rate 7 = .ok (.i2l, 1) := by decide +kernel
theorem dX9_rate_8 : decode cX9_rate 8 = .ok (.invokevirtual 254, 3) := by decide +kernel
theorem dX9_rate_11 : decode cX9_rate 11 = .ok (.ifCond .eq 15, 3) := by decide +kernel
theorem dX9_rate_14 : decode cX9_rate 14 = .ok (.iload_n 2, 1) := by decide +kernel
theorem dX9_rate_15 : decode cX9_rate 15 = .ok (.i2l, 1) := by decide +kernel
theorem dX9_rate_16 : decode cX9_rate 16 = .ok (.lconst 0, 1) := by decide +kernel
theorem dX9_rate_17 : decode cX9_rate 17 = .ok (.ldc2_w 478, 3) := by decide +kernel
theorem dX9_rate_20 : decode cX9_rate 20 = .ok (.invokestatic 88, 3) := by decide +kernel
theorem dX9_rate_23 : decode cX9_rate 23 = .ok (.ifCond .ne 6, 3) := by decide +kernel
theorem dX9_rate_26 : decode cX9_rate 26 = .ok (.bipush (-2), 2) := by decide +kernel
theorem dX9_rate_28 : decode cX9_rate 28 = .ok (.ireturn, 1) := by decide +kernel
theorem dX9_rate_29 : decode cX9_rate 29 = .ok (.aload_n 0, 1) := by decide +kernel
theorem dX9_rate_30 : decode cX9_rate 30 = .ok (.getfield 34, 3) := by decide +kernel
theorem dX9_rate_33 : decode cX9_rate 33 = .ok (.bipush 6, 2) := by decide +kernel
theorem dX9_rate_35 : decode cX9_rate 35 = .ok (.iaload, 1) := by decide +kernel
theorem dX9_rate_36 : decode cX9_rate 36 = .ok (.ifCond .le 6, 3) := by decide +kernel
theorem dX9_rate_39 : decode cX9_rate 39 = .ok (.bipush (-5), 2) := by decide +kernel
theorem dX9_rate_41 : decode cX9_rate 41 = .ok (.ireturn, 1) := by decide +kernel
theorem dX9_rate_42 : decode cX9_rate 42 = .ok (.aload_n 0, 1) := by decide +kernel
theorem dX9_rate_43 : decode cX9_rate 43 = .ok (.getfield 37, 3) := by decide +kernel
theorem dX9_rate_46 : decode cX9_rate 46 = .ok (.iconst 3, 1) := by decide +kernel
theorem dX9_rate_47 : decode cX9_rate 47 = .ok (.iload_n 1, 1) := by decide +kernel
theorem dX9_rate_48 : decode cX9_rate 48 = .ok (.imul, 1) := by decide +kernel
theorem dX9_rate_49 : decode cX9_rate 49 = .ok (.iaload, 1) := by decide +kernel
theorem dX9_rate_50 : decode cX9_rate 50 = .ok (.istore_n 3, 1) := by decide +kernel
theorem dX9_rate_51 : decode cX9_rate 51 = .ok (.aload_n 0, 1) := by decide +kernel
theorem dX9_rate_52 : decode cX9_rate 52 = .ok (.getfield 37, 3) := by decide +kernel
theorem dX9_rate_55 : decode cX9_rate 55 = .ok (.iconst 3, 1) := by decide +kernel
theorem dX9_rate_56 : decode cX9_rate 56 = .ok (.iload_n 1, 1) := by decide +kernel
theorem dX9_rate_57 : decode cX9_rate 57 = .ok (.imul, 1) := by decide +kernel
theorem dX9_rate_58 : decode cX9_rate 58 = .ok (.iload_n 2, 1) := by decide +kernel
theorem dX9_rate_59 : decode cX9_rate 59 = .ok (.iastore, 1) := by decide +kernel
theorem dX9_rate_60 : decode cX9_rate 60 = .ok (.iload_n 3, 1) := by decide +kernel
theorem dX9_rate_61 : decode cX9_rate 61 = .ok (.ireturn, 1) := by decide +kernel
theorem dX9_read_0 : decode cX9_read 0 = .ok (.aload_n 0, 1) := by decide +kernel
theorem dX9_read_1 : decode cX9_read 1 = .ok (.iconst 0, 1) := by decide +kernel
theorem dX9_read_2 : decode cX9_read 2 = .ok (.putfield 83, 3) := by decide +kernel
theorem dX9_read_5 : decode cX9_read 5 = .ok (.aload_n 0, 1) := by decide +kernel
theorem dX9_read_6 : decode cX9_read 6 = .ok (.iload_n 1, 1) := by decide +kernel
theorem dX9_read_7 : decode cX9_read 7 = .ok (.i2l, 1) := by decide +kernel
theorem dX9_read_8 : decode cX9_read 8 = .ok (.invokevirtual 254, 3) := by decide +kernel
theorem dX9_read_11 : decode cX9_read 11 = .ok (.ifCond .ne 6, 3) := by decide +kernel
theorem dX9_read_14 : decode cX9_read 14 = .ok (.bipush (-2), 2) := by decide +kernel
theorem dX9_read_16 : decode cX9_read 16 = .ok (.ireturn, 1) := by decide +kernel
theorem dX9_read_17 : decode cX9_read 17 = .ok (.aload_n 0, 1) := by decide +kernel
theorem dX9_read_18 : decode cX9_read 18 = .ok (.invokevirtual 330, 3) := by decide +kernel
theorem dX9_read_21 : decode cX9_read 21 = .ok (.aload_n 0, 1) := by decide +kernel
theorem dX9_read_22 : decode cX9_read 22 = .ok (.getfield 71, 3) := by decide +kernel
theorem dX9_read_25 : decode cX9_read 25 = .ok (.iload_n 1, 1) := by decide +kernel
theorem dX9_read_26 : decode cX9_read 26 = .ok (.iaload, 1) := by decide +kernel
theorem dX9_read_27 : decode cX9_read 27 = .ok (.ireturn, 1) := by decide +kernel
theorem dX9_readAll_0 : decode cX9_readAll 0 = .ok (.iconst 0, 1) := by decide +kernel
theorem dX9_readAll_1 : decode cX9_readAll 1 = .ok (.istore_n 1, 1) := by decide +kernel
theorem dX9_readAll_2 : decode cX9_readAll 2 = .ok (.iconst 0, 1) := by decide +kernel
theorem dX9_readAll_3 : decode cX9_readAll 3 = .ok (.istore_n 2, 1) := by decide +kernel
theorem dX9_readAll_4 : decode cX9_readAll 4 = .ok (.iload_n 2, 1) := by decide +kernel
theorem dX9_readAll_5 : decode cX9_readAll 5 = .ok (.aload_n 0, 1) := by decide +kernel
theorem dX9_readAll_6 : decode cX9_readAll 6 = .ok (.invokevirtual 245, 3) := by decide +kernel
theorem dX9_readAll_9 : decode cX9_readAll 9 = .ok (.if_icmp .ge 32, 3) := by decide +kernel
theorem dX9_readAll_12 : decode cX9_readAll 12 = .ok (.iload_n 1, 1) := by decide +kernel
theorem dX9_readAll_13 : decode cX9_readAll 13 = .ok (.aload_n 0, 1) := by decide +kernel
theorem dX9_readAll_14 : decode cX9_readAll 14 = .ok (.getfield 71, 3) := by decide +kernel
theorem dX9_readAll_17 : decode cX9_readAll 17 = .ok (.iload_n 2, 1) := by decide +kernel
theorem dX9_readAll_18 : decode cX9_readAll 18 = .ok (.iaload, 1) := by decide +kernel
theorem dX9_readAll_19 : decode cX9_readAll 19 = .ok (.iconst (-1), 1) := by decide +kernel
theorem dX9_readAll_20 : decode cX9_readAll 20 = .ok (.if_icmp .ne 7, 3) := by decide +kernel
theorem dX9_readAll_23 : decode cX9_readAll 23 = .ok (.iconst 0, 1) := by decide +kernel
theorem dX9_readAll_24 : decode cX9_readAll 24 = .ok (.goto 9, 3) := by decide +kernel
theorem dX9_readAll_27 : decode cX9_readAll 27 = .ok (.aload_n 0, 1) := by decide +kernel
theorem dX9_readAll_28 : decode cX9_readAll 28 = .ok (.getfield 71, 3) := by decide +kernel
theorem dX9_readAll_31 : decode cX9_readAll 31 = .ok (.iload_n 2, 1) := by decide +kernel
theorem dX9_readAll_32 : decode cX9_readAll 32 = .ok (.iaload, 1) := by decide +kernel
theorem dX9_readAll_33 : decode cX9_readAll 33 = .ok (.iadd, 1) := by decide +kernel
theorem dX9_readAll_34 : decode cX9_readAll 34 = .ok (.istore_n 1, 1) := by decide +kernel
theorem dX9_readAll_35 : decode cX9_readAll 35 = .ok (.iinc 2 1, 3) := by decide +kernel
theorem dX9_readAll_38 : decode cX9_readAll 38 = .ok (.goto (-34), 3) := by decide +kernel
theorem dX9_readAll_41 : decode cX9_readAll 41 = .ok (.iload_n 1, 1) := by decide +kernel
theorem dX9_readAll_42 : decode cX9_readAll 42 = .ok (.ireturn, 1) := by decide +kernel
theorem dX9_readIn_0 : decode cX9_readIn 0 = .ok (.iconst 0, 1) := by decide +kernel
theorem dX9_readIn_1 : decode cX9_readIn 1 = .ok (.istore_n 2, 1) := by decide +kernel
theorem dX9_readIn_2 : decode cX9_readIn 2 = .ok (.iconst 0, 1) := by decide +kernel
theorem dX9_readIn_3 : decode cX9_readIn 3 = .ok (.istore_n 3, 1) := by decide +kernel
theorem dX9_readIn_4 : decode cX9_readIn 4 = .ok (.iload_n 3, 1) := by decide +kernel
theorem dX9_readIn_5 : decode cX9_readIn 5 = .ok (.aload_n 0, 1) := by decide +kernel
theorem dX9_readIn_6 : decode cX9_readIn 6 = .ok (.invokevirtual 245, 3) := by decide +kernel
theorem dX9_readIn_9 : decode cX9_readIn 9 = .ok (.if_icmp .ge 32, 3) := by decide +kernel
theorem dX9_readIn_12 : decode cX9_readIn 12 = .ok (.iload_n 2, 1) := by decide +kernel
theorem dX9_readIn_13 : decode cX9_readIn 13 = .ok (.aload_n 0, 1) := by decide +kernel
theorem dX9_readIn_14 : decode cX9_readIn 14 = .ok (.getfield 65, 3) := by decide +kernel
theorem dX9_readIn_17 : decode cX9_readIn 17 = .ok (.iload_n 3, 1) := by decide +kernel
theorem dX9_readIn_18 : decode cX9_readIn 18 = .ok (.iaload, 1) := by decide +kernel
theorem dX9_readIn_19 : decode cX9_readIn 19 = .ok (.iload_n 1, 1) := by decide +kernel
theorem dX9_readIn_20 : decode cX9_readIn 20 = .ok (.if_icmp .ne 12, 3) := by decide +kernel
theorem dX9_readIn_23 : decode cX9_readIn 23 = .ok (.aload_n 0, 1) := by decide +kernel
theorem dX9_readIn_24 : decode cX9_readIn 24 = .ok (.getfield 71, 3) := by decide +kernel
theorem dX9_readIn_27 : decode cX9_readIn 27 = .ok (.iload_n 3, 1) := by decide +kernel
theorem dX9_readIn_28 : decode cX9_readIn 28 = .ok (.iaload, 1) := by decide +kernel
theorem dX9_readIn_29 : decode cX9_readIn 29 = .ok (.goto 4, 3) := by decide +kernel
theorem dX9_readIn_32 : decode cX9_readIn 32 = .ok (.iconst 0, 1) := by decide +kernel
theorem dX9_readIn_33 : decode cX9_readIn 33 = .ok (.iadd, 1) := by decide +kernel
theorem dX9_readIn_34 : decode cX9_readIn 34 = .ok (.istore_n 2, 1) := by decide +kernel
theorem dX9_readIn_35 : decode cX9_readIn 35 = .ok (.iinc 3 1, 3) := by decide +kernel
theorem dX9_readIn_38 : decode cX9_readIn 38 = .ok (.goto (-34), 3) := by decide +kernel
theorem dX9_readIn_41 : decode cX9_readIn 41 = .ok (.iload_n 2, 1) := by decide +kernel
theorem dX9_readIn_42 : decode cX9_readIn 42 = .ok (.ireturn, 1) := by decide +kernel
theorem dX9_reads_0 : decode cX9_reads 0 = .ok (.aload_n 0, 1) := by decide +kernel
theorem dX9_reads_1 : decode cX9_reads 1 = .ok (.iconst 0, 1) := by decide +kernel
theorem dX9_reads_2 : decode cX9_reads 2 = .ok (.putfield 83, 3) := by decide +kernel
theorem dX9_reads_5 : decode cX9_reads 5 = .ok (.aload_n 0, 1) := by decide +kernel
theorem dX9_reads_6 : decode cX9_reads 6 = .ok (.iload_n 1, 1) := by decide +kernel
theorem dX9_reads_7 : decode cX9_reads 7 = .ok (.invokevirtual 333, 3) := by decide +kernel
theorem dX9_reads_10 : decode cX9_reads 10 = .ok (.ifCond .ne 6, 3) := by decide +kernel
theorem dX9_reads_13 : decode cX9_reads 13 = .ok (.bipush (-2), 2) := by decide +kernel
theorem dX9_reads_15 : decode cX9_reads 15 = .ok (.ireturn, 1) := by decide +kernel
theorem dX9_reads_16 : decode cX9_reads 16 = .ok (.aload_n 0, 1) := by decide +kernel
theorem dX9_reads_17 : decode cX9_reads 17 = .ok (.invokevirtual 330, 3) := by decide +kernel
theorem dX9_reads_20 : decode cX9_reads 20 = .ok (.aload_n 0, 1) := by decide +kernel
theorem dX9_reads_21 : decode cX9_reads 21 = .ok (.iload_n 1, 1) := by decide +kernel
theorem dX9_reads_22 : decode cX9_reads 22 = .ok (.invokevirtual 336, 3) := by decide +kernel
theorem dX9_reads_25 : decode cX9_reads 25 = .ok (.ireturn, 1) := by decide +kernel
theorem dX9_replies_0 : decode cX9_replies 0 = .ok (.aload_n 0, 1) := by decide +kernel
theorem dX9_replies_1 : decode cX9_replies 1 = .ok (.iconst 0, 1) := by decide +kernel
theorem dX9_replies_2 : decode cX9_replies 2 = .ok (.putfield 83, 3) := by decide +kernel
theorem dX9_replies_5 : decode cX9_replies 5 = .ok (.aload_n 0, 1) := by decide +kernel
theorem dX9_replies_6 : decode cX9_replies 6 = .ok (.iload_n 1, 1) := by decide +kernel
theorem dX9_replies_7 : decode cX9_replies 7 = .ok (.i2l, 1) := by decide +kernel
theorem dX9_replies_8 : decode cX9_replies 8 = .ok (.invokevirtual 254, 3) := by decide +kernel
theorem dX9_replies_11 : decode cX9_replies 11 = .ok (.ifCond .ne 6, 3) := by decide +kernel
theorem dX9_replies_14 : decode cX9_replies 14 = .ok (.bipush (-2), 2) := by decide +kernel
theorem dX9_replies_16 : decode cX9_replies 16 = .ok (.ireturn, 1) := by decide +kernel
theorem dX9_replies_17 : decode cX9_replies 17 = .ok (.aload_n 0, 1) := by decide +kernel
theorem dX9_replies_18 : decode cX9_replies 18 = .ok (.iload_n 1, 1) := by decide +kernel
theorem dX9_replies_19 : decode cX9_replies 19 = .ok (.invokevirtual 432, 3) := by decide +kernel
theorem dX9_replies_22 : decode cX9_replies 22 = .ok (.aload_n 0, 1) := by decide +kernel
theorem dX9_replies_23 : decode cX9_replies 23 = .ok (.getfield 420, 3) := by decide +kernel
theorem dX9_replies_26 : decode cX9_replies 26 = .ok (.ireturn, 1) := by decide +kernel
theorem dX9_rests_0 : decode cX9_rests 0 = .ok (.aload_n 0, 1) := by decide +kernel
theorem dX9_rests_1 : decode cX9_rests 1 = .ok (.iconst 0, 1) := by decide +kernel
theorem dX9_rests_2 : decode cX9_rests 2 = .ok (.putfield 83, 3) := by decide +kernel
theorem dX9_rests_5 : decode cX9_rests 5 = .ok (.aload_n 0, 1) := by decide +kernel
theorem dX9_rests_6 : decode cX9_rests 6 = .ok (.iload_n 1, 1) := by decide +kernel
theorem dX9_rests_7 : decode cX9_rests 7 = .ok (.iload_n 2, 1) := by decide +kernel
theorem dX9_rests_8 : decode cX9_rests 8 = .ok (.invokevirtual 438, 3) := by decide +kernel
theorem dX9_rests_11 : decode cX9_rests 11 = .ok (.ifCond .ne 6, 3) := by decide +kernel
theorem dX9_rests_14 : decode cX9_rests 14 = .ok (.bipush (-2), 2) := by decide +kernel
theorem dX9_rests_16 : decode cX9_rests 16 = .ok (.ireturn, 1) := by decide +kernel
theorem dX9_rests_17 : decode cX9_rests 17 = .ok (.iconst 0, 1) := by decide +kernel
theorem dX9_rests_18 : decode cX9_rests 18 = .ok (.istore_n 3, 1) := by decide +kernel
theorem dX9_rests_19 : decode cX9_rests 19 = .ok (.iconst 0, 1) := by decide +kernel
theorem dX9_rests_20 : decode cX9_rests 20 = .ok (.istore 4, 2) := by decide +kernel
theorem dX9_rests_22 : decode cX9_rests 22 = .ok (.iload 4, 2) := by decide +kernel
theorem dX9_rests_24 : decode cX9_rests 24 = .ok (.iconst 4, 1) := by decide +kernel
theorem dX9_rests_25 : decode cX9_rests 25 = .ok (.if_icmp .ge 98, 3) := by decide +kernel
theorem dX9_rests_28 : decode cX9_rests 28 = .ok (.iload 4, 2) := by decide +kernel
theorem dX9_rests_30 : decode cX9_rests 30 = .ok (.iconst 2, 1) := by decide +kernel
theorem dX9_rests_31 : decode cX9_rests 31 = .ok (.irem, 1) := by decide +kernel
theorem dX9_rests_32 : decode cX9_rests 32 = .ok (.istore 5, 2) := by decide +kernel
theorem dX9_rests_34 : decode cX9_rests 34 = .ok (.iload 4, 2) := by decide +kernel
theorem dX9_rests_36 : decode cX9_rests 36 = .ok (.iconst 2, 1) := by decide +kernel
theorem dX9_rests_37 : decode cX9_rests 37 = .ok (.idiv, 1) := by decide +kernel
theorem dX9_rests_38 : decode cX9_rests 38 = .ok (.istore 6, 2) := by decide +kernel
theorem dX9_rests_40 : decode cX9_rests 40 = .ok (.aload_n 0, 1) := by decide +kernel
theorem dX9_rests_41 : decode cX9_rests 41 = .ok (.iload_n 1, 1) := by decide +kernel
theorem dX9_rests_42 : decode cX9_rests 42 = .ok (.iload_n 1, 1) := by decide +kernel
theorem dX9_rests_43 : decode cX9_rests 43 = .ok (.iload_n 2, 1) := by decide +kernel
theorem dX9_rests_44 : decode cX9_rests 44 = .ok (.iconst 1, 1) := by decide +kernel
theorem dX9_rests_45 : decode cX9_rests 45 = .ok (.iload 5, 2) := by decide +kernel
theorem dX9_rests_47 : decode cX9_rests 47 = .ok (.isub, 1) := by decide +kernel
theorem dX9_rests_48 : decode cX9_rests 48 = .ok (.iload 6, 2) := by decide +kernel
theorem dX9_rests_50 : decode cX9_rests 50 = .ok (.invokevirtual 441, 3) := by decide +kernel
theorem dX9_rests_53 : decode cX9_rests 53 = .ok (.aload_n 0, 1) := by decide +kernel
theorem dX9_rests_54 : decode cX9_rests 54 = .ok (.iload_n 1, 1) := by decide +kernel
theorem dX9_rests_55 : decode cX9_rests 55 = .ok (.iload_n 1, 1) := by decide +kernel
theorem dX9_rests_56 : decode cX9_rests 56 = .ok (.iload_n 2, 1) := by decide +kernel
theorem dX9_rests_57 : decode cX9_rests 57 = .ok (.iload 5, 2) := by decide +kernel
theorem dX9_rests_59 : decode cX9_rests 59 = .ok (.iload 6, 2) := by decide +kernel
theorem dX9_rests_61 : decode cX9_rests 61 = .ok (.invokevirtual 441, 3) := by decide +kernel
theorem dX9_rests_64 : decode cX9_rests 64 = .ok (.if_icmp .gt 34, 3) := by decide +kernel
theorem dX9_rests_67 : decode cX9_rests 67 = .ok (.aload_n 0, 1) := by decide +kernel
theorem dX9_rests_68 : decode cX9_rests 68 = .ok (.iload_n 2, 1) := by decide +kernel
theorem dX9_rests_69 : decode cX9_rests 69 = .ok (.iload_n 1, 1) := by decide +kernel
theorem dX9_rests_70 : decode cX9_rests 70 = .ok (.iload_n 2, 1) := by decide +kernel
theorem dX9_rests_71 : decode cX9_rests 71 = .ok (.iload 5, 2) := by decide +kernel
theorem dX9_rests_73 : decode cX9_rests 73 = .ok (.iconst 1, 1) := by decide +kernel
theorem dX9_rests_74 : decode cX9_rests 74 = .ok (.iload 6, 2) := by decide +kernel
theorem dX9_rests_76 : decode cX9_rests 76 = .ok (.isub, 1) := by decide +kernel
theorem dX9_rests_77 : decode cX9_rests 77 = .ok (.invokevirtual 441, 3) := by decide +kernel
theorem dX9_rests_80 : decode cX9_rests 80 = .ok (.aload_n 0, 1) := by decide +kernel
theorem dX9_rests_81 : decode cX9_rests 81 = .ok (.iload_n 2, 1) := by decide +kernel
theorem dX9_rests_82 : decode cX9_rests 82 = .ok (.iload_n 1, 1) := by decide +kernel
theorem dX9_rests_83 : decode cX9_rests 83 = .ok (.iload_n 2, 1) := by decide +kernel
theorem dX9_rests_84 : decode cX9_rests 84 = .ok (.iload 5, 2) := by decide +kernel
theorem dX9_rests_86 : decode cX9_rests 86 = .ok (.iload 6, 2) := by decide +kernel
theorem dX9_rests_88 : decode cX9_rests 88 = .ok (.invokevirtual 441, 3) := by decide +kernel
theorem dX9_rests_91 : decode cX9_rests 91 = .ok (.if_icmp .gt 7, 3) := by decide +kernel
theorem dX9_rests_94 : decode cX9_rests 94 = .ok (.iconst 1, 1) := by decide +kernel
theorem dX9_rests_95 : decode cX9_rests 95 = .ok (.goto 4, 3) := by decide +kernel
theorem dX9_rests_98 : decode cX9_rests 98 = .ok (.iconst 0, 1) := by decide +kernel
theorem dX9_rests_99 : decode cX9_rests 99 = .ok (.istore 7, 2) := by decide +kernel
theorem dX9_rests_101 : decode cX9_rests 101 = .ok (.iload_n 3, 1) := by decide +kernel
theorem dX9_rests_102 : decode cX9_rests 102 = .ok (.iload 7, 2) := by decide +kernel
theorem dX9_rests_104 : decode cX9_rests 104 = .ok (.ifCond .eq 10, 3) := by decide +kernel
theorem dX9_rests_107 : decode cX9_rests 107 = .ok (.iconst 1, 1) := by decide +kernel
theorem dX9_rests_108 : decode cX9_rests 108 = .ok (.iload 4, 2) := by decide +kernel
theorem dX9_rests_110 : decode cX9_rests 110 = .ok (.ishl, 1) := by decide +kernel
theorem dX9_rests_111 : decode cX9_rests 111 = .ok (.goto 4, 3) := by decide +kernel
theorem dX9_rests_114 : decode cX9_rests 114 = .ok (.iconst 0, 1) := by decide +kernel
theorem dX9_rests_115 : decode cX9_rests 115 = .ok (.ior, 1) := by decide +kernel
theorem dX9_rests_116 : decode cX9_rests 116 = .ok (.istore_n 3, 1) := by decide +kernel
theorem dX9_rests_117 : decode cX9_rests 117 = .ok (.iinc 4 1, 3) := by decide +kernel
theorem dX9_rests_120 : decode cX9_rests 120 = .ok (.goto (-98), 3) := by decide +kernel
theorem dX9_rests_123 : decode cX9_rests 123 = .ok (.iload_n 3, 1) := by decide +kernel
theorem dX9_rests_124 : decode cX9_rests 124 = .ok (.ireturn, 1) := by decide +kernel
theorem dX9_row_0 : decode cX9_row 0 = .ok (.aload_n 0, 1) := by decide +kernel
theorem dX9_row_1 : decode cX9_row 1 = .ok (.iconst 0, 1) := by decide +kernel
theorem dX9_row_2 : decode cX9_row 2 = .ok (.putfield 83, 3) := by decide +kernel
theorem dX9_row_5 : decode cX9_row 5 = .ok (.iload_n 1, 1) := by decide +kernel
theorem dX9_row_6 : decode cX9_row 6 = .ok (.invokestatic 92, 3) := by decide +kernel
theorem dX9_row_9 : decode cX9_row 9 = .ok (.ifCond .eq 21, 3) := by decide +kernel
theorem dX9_row_12 : decode cX9_row 12 = .ok (.iload_n 2, 1) := by decide +kernel
theorem dX9_row_13 : decode cX9_row 13 = .ok (.i2l, 1) := by decide +kernel
theorem dX9_row_14 : decode cX9_row 14 = .ok (.lconst 0, 1) := by decide +kernel
theorem dX9_row_15 : decode cX9_row 15 = .ok (.ldc2_w 86, 3) := by decide +kernel
theorem dX9_row_18 : decode cX9_row 18 = .ok (.invokestatic 88, 3) := by decide +kernel
theorem dX9_row_21 : decode cX9_row 21 = .ok (.ifCond .eq 9, 3) := by decide +kernel
theorem dX9_row_24 : decode cX9_row 24 = .ok (.iload_n 3, 1) := by decide +kernel
theorem dX9_row_25 : decode cX9_row 25 = .ok (.bipush 60, 2) := by decide +kernel
theorem dX9_row_27 : decode cX9_row 27 = .ok (.if_icmp .le 6, 3) := by decide +kernel
theorem dX9_row_30 : decode cX9_row 30 = .ok (.bipush (-2), 2) := by decide +kernel
theorem dX9_row_32 : decode cX9_row 32 = .ok (.ireturn, 1) := by decide +kernel
theorem dX9_row_33 : decode cX9_row 33 = .ok (.iload_n 3, 1) := by decide +kernel
theorem dX9_row_34 : decode cX9_row 34 = .ok (.ifCond .ge 6, 3) := by decide +kernel
theorem dX9_row_37 : decode cX9_row 37 = .ok (.bipush (-3), 2) := by decide +kernel
theorem dX9_row_39 : decode cX9_row 39 = .ok (.ireturn, 1) := by decide +kernel
theorem dX9_row_40 : decode cX9_row 40 = .ok (.aload_n 0, 1) := by decide +kernel
theorem dX9_row_41 : decode cX9_row 41 = .ok (.getfield 7, 3) := by decide +kernel
theorem dX9_row_44 : decode cX9_row 44 = .ok (.iload_n 1, 1) := by decide +kernel
theorem dX9_row_45 : decode cX9_row 45 = .ok (.iload_n 2, 1) := by decide +kernel
theorem dX9_row_46 : decode cX9_row 46 = .ok (.iastore, 1) := by decide +kernel
theorem dX9_row_47 : decode cX9_row 47 = .ok (.aload_n 0, 1) := by decide +kernel
theorem dX9_row_48 : decode cX9_row 48 = .ok (.getfield 13, 3) := by decide +kernel
theorem dX9_row_51 : decode cX9_row 51 = .ok (.iload_n 1, 1) := by decide +kernel
theorem dX9_row_52 : decode cX9_row 52 = .ok (.iload_n 3, 1) := by decide +kernel
theorem dX9_row_53 : decode cX9_row 53 = .ok (.iastore, 1) := by decide +kernel
theorem dX9_row_54 : decode cX9_row 54 = .ok (.iconst 0, 1) := by decide +kernel
theorem dX9_row_55 : decode cX9_row 55 = .ok (.istore 4, 2) := by decide +kernel
theorem dX9_row_57 : decode cX9_row 57 = .ok (.iload 4, 2) := by decide +kernel
theorem dX9_row_59 : decode cX9_row 59 = .ok (.iload_n 3, 1) := by decide +kernel
theorem dX9_row_60 : decode cX9_row 60 = .ok (.if_icmp .ge 22, 3) := by decide +kernel
theorem dX9_row_63 : decode cX9_row 63 = .ok (.aload_n 0, 1) := by decide +kernel
theorem dX9_row_64 : decode cX9_row 64 = .ok (.getfield 16, 3) := by decide +kernel
theorem dX9_row_67 : decode cX9_row 67 = .ok (.bipush 60, 2) := by decide +kernel
theorem dX9_row_69 : decode cX9_row 69 = .ok (.iload_n 1, 1) := by decide +kernel
theorem dX9_row_70 : decode cX9_row 70 = .ok (.imul, 1) := by decide +kernel
theorem dX9_row_71 : decode cX9_row 71 = .ok (.iload 4, 2) := by decide +kernel
theorem dX9_row_73 : decode cX9_row 73 = .ok (.iadd, 1) := by decide +kernel
theorem dX9_row_74 : decode cX9_row 74 = .ok (.lconst 0, 1) := by decide +kernel
theorem dX9_row_75 : decode cX9_row 75 = .ok (.lastore, 1) := by decide +kernel
theorem dX9_row_76 : decode cX9_row 76 = .ok (.iinc 4 1, 3) := by decide +kernel
theorem dX9_row_79 : decode cX9_row 79 = .ok (.goto (-22), 3) := by decide +kernel
theorem dX9_row_82 : decode cX9_row 82 = .ok (.iconst 0, 1) := by decide +kernel
theorem dX9_row_83 : decode cX9_row 83 = .ok (.ireturn, 1) := by decide +kernel
theorem dX9_runs_0 : decode cX9_runs 0 = .ok (.aload_n 0, 1) := by decide +kernel
theorem dX9_runs_1 : decode cX9_runs 1 = .ok (.iconst 0, 1) := by decide +kernel
theorem dX9_runs_2 : decode cX9_runs 2 = .ok (.putfield 276, 3) := by decide +kernel
theorem dX9_runs_5 : decode cX9_runs 5 = .ok (.aload_n 0, 1) := by decide +kernel
theorem dX9_runs_6 : decode cX9_runs 6 = .ok (.iconst 0, 1) := by decide +kernel
theorem dX9_runs_7 : decode cX9_runs 7 = .ok (.putfield 285, 3) := by decide +kernel
theorem dX9_runs_10 : decode cX9_runs 10 = .ok (.aload_n 0, 1) := by decide +kernel
theorem dX9_runs_11 : decode cX9_runs 11 = .ok (.getfield 62, 3) := by decide +kernel
theorem dX9_runs_14 : decode cX9_runs 14 = .ok (.iconst 0, 1) := by decide +kernel
theorem dX9_runs_15 : decode cX9_runs 15 = .ok (.iconst 0, 1) := by decide +kernel
theorem dX9_runs_16 : decode cX9_runs 16 = .ok (.iastore, 1) := by decide +kernel
theorem dX9_runs_17 : decode cX9_runs 17 = .ok (.iconst 0, 1) := by decide +kernel
theorem dX9_runs_18 : decode cX9_runs 18 = .ok (.istore_n 1, 1) := by decide +kernel
theorem dX9_runs_19 : decode cX9_runs 19 = .ok (.iload_n 1, 1) := by decide +kernel
theorem dX9_runs_20 : decode cX9_runs 20 = .ok (.aload_n 0, 1) := by decide +kernel
theorem dX9_runs_21 : decode cX9_runs 21 = .ok (.invokevirtual 245, 3) := by decide +kernel
theorem dX9_runs_24 : decode cX9_runs 24 = .ok (.if_icmp .ge 42, 3) := by decide +kernel
theorem dX9_runs_27 : decode cX9_runs 27 = .ok (.aload_n 0, 1) := by decide +kernel
theorem dX9_runs_28 : decode cX9_runs 28 = .ok (.getfield 59, 3) := by decide +kernel
theorem dX9_runs_31 : decode cX9_runs 31 = .ok (.iload_n 1, 1) := by decide +kernel
theorem dX9_runs_32 : decode cX9_runs 32 = .ok (.aload_n 0, 1) := by decide +kernel
theorem dX9_runs_33 : decode cX9_runs 33 = .ok (.getfield 53, 3) := by decide +kernel
theorem dX9_runs_36 : decode cX9_runs 36 = .ok (.iload_n 1, 1) := by decide +kernel
theorem dX9_runs_37 : decode cX9_runs 37 = .ok (.iaload, 1) := by decide +kernel
theorem dX9_runs_38 : decode cX9_runs 38 = .ok (.iastore, 1) := by decide +kernel
theorem dX9_runs_39 : decode cX9_runs 39 = .ok (.aload_n 0, 1) := by decide +kernel
theorem dX9_runs_40 : decode cX9_runs 40 = .ok (.getfield 65, 3) := by decide +kernel
theorem dX9_runs_43 : decode cX9_runs 43 = .ok (.iload_n 1, 1) := by decide +kernel
theorem dX9_runs_44 : decode cX9_runs 44 = .ok (.iconst (-1), 1) := by decide +kernel
theorem dX9_runs_45 : decode cX9_runs 45 = .ok (.iastore, 1) := by decide +kernel
theorem dX9_runs_46 : decode cX9_runs 46 = .ok (.aload_n 0, 1) := by decide +kernel
theorem dX9_runs_47 : decode cX9_runs 47 = .ok (.getfield 68, 3) := by decide +kernel
theorem dX9_runs_50 : decode cX9_runs 50 = .ok (.iload_n 1, 1) := by decide +kernel
theorem dX9_runs_51 : decode cX9_runs 51 = .ok (.iconst 0, 1) := by decide +kernel
theorem dX9_runs_52 : decode cX9_runs 52 = .ok (.iastore, 1) := by decide +kernel
theorem dX9_runs_53 : decode cX9_runs 53 = .ok (.aload_n 0, 1) := by decide +kernel
theorem dX9_runs_54 : decode cX9_runs 54 = .ok (.getfield 71, 3) := by decide +kernel
theorem dX9_runs_57 : decode cX9_runs 57 = .ok (.iload_n 1, 1) := by decide +kernel
theorem dX9_runs_58 : decode cX9_runs 58 = .ok (.iconst (-1), 1) := by decide +kernel
theorem dX9_runs_59 : decode cX9_runs 59 = .ok (.iastore, 1) := by decide +kernel
theorem dX9_runs_60 : decode cX9_runs 60 = .ok (.iinc 1 1, 3) := by decide +kernel
theorem dX9_runs_63 : decode cX9_runs 63 = .ok (.goto (-44), 3) := by decide +kernel
theorem dX9_runs_66 : decode cX9_runs 66 = .ok (.iconst 0, 1) := by decide +kernel
theorem dX9_runs_67 : decode cX9_runs 67 = .ok (.istore_n 1, 1) := by decide +kernel
theorem dX9_runs_68 : decode cX9_runs 68 = .ok (.iload_n 1, 1) := by decide +kernel
theorem dX9_runs_69 : decode cX9_runs 69 = .ok (.aload_n 0, 1) := by decide +kernel
theorem dX9_runs_70 : decode cX9_runs 70 = .ok (.invokevirtual 251, 3) := by decide +kernel
theorem dX9_runs_73 : decode cX9_runs 73 = .ok (.if_icmp .ge 132, 3) := by decide +kernel
theorem dX9_runs_76 : decode cX9_runs 76 = .ok (.iconst 0, 1) := by decide +kernel
theorem dX9_runs_77 : decode cX9_runs 77 = .ok (.istore_n 2, 1) := by decide +kernel
theorem dX9_runs_78 : decode cX9_runs 78 = .ok (.iload_n 2, 1) := by decide +kernel
theorem dX9_runs_79 : decode cX9_runs 79 = .ok (.aload_n 0, 1) := by decide +kernel
theorem dX9_runs_80 : decode cX9_runs 80 = .ok (.invokevirtual 245, 3) := by decide +kernel
theorem dX9_runs_83 : decode cX9_runs 83 = .ok (.if_icmp .ge 29, 3) := by decide +kernel
theorem dX9_runs_86 : decode cX9_runs 86 = .ok (.aload_n 0, 1) := by decide +kernel
theorem dX9_runs_87 : decode cX9_runs 87 = .ok (.getfield 59, 3) := by decide +kernel
theorem dX9_runs_90 : decode cX9_runs 90 = .ok (.bipush 6, 2) := by decide +kernel
theorem dX9_runs_92 : decode cX9_runs 92 = .ok (.iload_n 1, 1) := by decide +kernel
theorem dX9_runs_93 : decode cX9_runs 93 = .ok (.imul, 1) := by decide +kernel
theorem dX9_runs_94 : decode cX9_runs 94 = .ok (.bipush 6, 2) := by decide +kernel
theorem dX9_runs_96 : decode cX9_runs 96 = .ok (.iadd, 1) := by decide +kernel
theorem dX9_runs_97 : decode cX9_runs 97 = .ok (.iload_n 2, 1) := by decide +kernel
theorem dX9_runs_98 : decode cX9_runs 98 = .ok (.iadd, 1) := by decide +kernel
theorem dX9_runs_99 : decode cX9_runs 99 = .ok (.aload_n 0, 1) := by decide +kernel
theorem dX9_runs_100 : decode cX9_runs 100 = .ok (.iload_n 2, 1) := by decide +kernel
theorem dX9_runs_101 : decode cX9_runs 101 = .ok (.iload_n 1, 1) := by decide +kernel
theorem dX9_runs_102 : decode cX9_runs 102 = .ok (.invokevirtual 301, 3) := by decide +kernel
theorem dX9_runs_105 : decode cX9_runs 105 = .ok (.iastore, 1) := by decide +kernel
theorem dX9_runs_106 : decode cX9_runs 106 = .ok (.iinc 2 1, 3) := by decide +kernel
theorem dX9_runs_109 : decode cX9_runs 109 = .ok (.goto (-31), 3) := by decide +kernel
theorem dX9_runs_112 : decode cX9_runs 112 = .ok (.aload_n 0, 1) := by decide +kernel
theorem dX9_runs_113 : decode cX9_runs 113 = .ok (.iload_n 1, 1) := by decide +kernel
theorem dX9_runs_114 : decode cX9_runs 114 = .ok (.invokevirtual 304, 3) := by decide +kernel
theorem dX9_runs_117 : decode cX9_runs 117 = .ok (.aload_n 0, 1) := by decide +kernel
theorem dX9_runs_118 : decode cX9_runs 118 = .ok (.iload_n 1, 1) := by decide +kernel
theorem dX9_runs_119 : decode cX9_runs 119 = .ok (.invokevirtual 307, 3) := by decide +kernel
theorem dX9_runs_122 : decode cX9_runs 122 = .ok (.aload_n 0, 1) := by decide +kernel
theorem dX9_runs_123 : decode cX9_runs 123 = .ok (.iload_n 1, 1) := by decide +kernel
theorem dX9_runs_124 : decode cX9_runs 124 = .ok (.invokevirtual 310, 3) := by decide +kernel
theorem dX9_runs_127 : decode cX9_runs 127 = .ok (.aload_n 0, 1) := by decide +kernel
theorem dX9_runs_128 : decode cX9_runs 128 = .ok (.getfield 62, 3) := by decide +kernel
theorem dX9_runs_131 : decode cX9_runs 131 = .ok (.iload_n 1, 1) := by decide +kernel
theorem dX9_runs_132 : decode cX9_runs 132 = .ok (.iconst 1, 1) := by decide +kernel
theorem dX9_runs_133 : decode cX9_runs 133 = .ok (.iadd, 1) := by decide +kernel
theorem dX9_runs_134 : decode cX9_runs 134 = .ok (.aload_n 0, 1) := by decide +kernel
theorem dX9_runs_135 : decode cX9_runs 135 = .ok (.getfield 276, 3) := by decide +kernel
theorem dX9_runs_138 : decode cX9_runs 138 = .ok (.iastore, 1) := by decide +kernel
theorem dX9_runs_139 : decode cX9_runs 139 = .ok (.iconst 0, 1) := by decide +kernel
theorem dX9_runs_140 : decode cX9_runs 140 = .ok (.istore_n 2, 1) := by decide +kernel
theorem dX9_runs_141 : decode cX9_runs 141 = .ok (.iload_n 2, 1) := by decide +kernel
theorem dX9_runs_142 : decode cX9_runs 142 = .ok (.aload_n 0, 1) := by decide +kernel
theorem dX9_runs_143 : decode cX9_runs 143 = .ok (.invokevirtual 245, 3) := by decide +kernel
theorem dX9_runs_146 : decode cX9_runs 146 = .ok (.if_icmp .ge 53, 3) := by decide +kernel
theorem dX9_runs_149 : decode cX9_runs 149 = .ok (.aload_n 0, 1) := by decide +kernel
theorem dX9_runs_150 : decode cX9_runs 150 = .ok (.getfield 276, 3) := by decide +kernel
theorem dX9_runs_153 : decode cX9_runs 153 = .ok (.iload_n 2, 1) := by decide +kernel
theorem dX9_runs_154 : decode cX9_runs 154 = .ok (.invokestatic 282, 3) := by decide +kernel
theorem dX9_runs_157 : decode cX9_runs 157 = .ok (.ifCond .ne 36, 3) := by decide +kernel
theorem dX9_runs_160 : decode cX9_runs 160 = .ok (.aload_n 0, 1) := by decide +kernel
theorem dX9_runs_161 : decode cX9_runs 161 = .ok (.getfield 59, 3) := by decide +kernel
theorem dX9_runs_164 : decode cX9_runs 164 = .ok (.bipush 6, 2) := by decide +kernel
theorem dX9_runs_166 : decode cX9_runs 166 = .ok (.iload_n 1, 1) := by decide +kernel
theorem dX9_runs_167 : decode cX9_runs 167 = .ok (.imul, 1) := by decide +kernel
theorem dX9_runs_168 : decode cX9_runs 168 = .ok (.bipush 6, 2) := by decide +kernel
theorem dX9_runs_170 : decode cX9_runs 170 = .ok (.iadd, 1) := by decide +kernel
theorem dX9_runs_171 : decode cX9_runs 171 = .ok (.iload_n 2, 1) := by decide +kernel
theorem dX9_runs_172 : decode cX9_runs 172 = .ok (.iadd, 1) := by decide +kernel
theorem dX9_runs_173 : decode cX9_runs 173 = .ok (.aload_n 0, 1) := by decide +kernel
theorem dX9_runs_174 : decode cX9_runs 174 = .ok (.iload_n 2, 1) := by decide +kernel
theorem dX9_runs_175 : decode cX9_runs 175 = .ok (.aload_n 0, 1) := by decide +kernel
theorem dX9_runs_176 : decode cX9_runs 176 = .ok (.getfield 59, 3) := by decide +kernel
theorem dX9_runs_179 : decode cX9_runs 179 = .ok (.bipush 6, 2) := by decide +kernel
theorem dX9_runs_181 : decode cX9_runs 181 = .ok (.iload_n 1, 1) := by decide +kernel
theorem dX9_runs_182 : decode cX9_runs 182 = .ok (.imul, 1) := by decide +kernel
theorem dX9_runs_183 : decode cX9_runs 183 = .ok (.bipush 6, 2) := by decide +kernel
theorem dX9_runs_185 : decode cX9_runs 185 = .ok (.iadd, 1) := by decide +kernel
theorem dX9_runs_186 : decode cX9_runs 186 = .ok (.iload_n 2, 1) := by decide +kernel
theorem dX9_runs_187 : decode cX9_runs 187 = .ok (.iadd, 1) := by decide +kernel
theorem dX9_runs_188 : decode cX9_runs 188 = .ok (.iaload, 1) := by decide +kernel
theorem dX9_runs_189 : decode cX9_runs 189 = .ok (.invokevirtual 313, 3) := by decide +kernel
theorem dX9_runs_192 : decode cX9_runs 192 = .ok (.iastore, 1) := by decide +kernel
theorem dX9_runs_193 : decode cX9_runs 193 = .ok (.iinc 2 1, 3) := by decide +kernel
theorem dX9_runs_196 : decode cX9_runs 196 = .ok (.goto (-55), 3) := by decide +kernel
theorem dX9_runs_199 : decode cX9_runs 199 = .ok (.iinc 1 1, 3) := by decide +kernel
theorem dX9_runs_202 : decode cX9_runs 202 = .ok (.goto (-134), 3) := by decide +kernel
theorem dX9_runs_205 : decode cX9_runs 205 = .ok (.return_, 1) := by decide +kernel
theorem dX9_runsPlan_0 : decode cX9_runsPlan 0 = .ok (.aload_n 0, 1) := by decide +kernel
theorem dX9_runsPlan_1 : decode cX9_runsPlan 1 = .ok (.invokevirtual 319, 3) := by decide +kernel
theorem dX9_runsPlan_4 : decode cX9_runsPlan 4 = .ok (.aload_n 0, 1) := by decide +kernel
theorem dX9_runsPlan_5 : decode cX9_runsPlan 5 = .ok (.iconst 1, 1) := by decide +kernel
theorem dX9_runsPlan_6 : decode cX9_runsPlan 6 = .ok (.putfield 272, 3) := by decide +kernel
theorem dX9_runsPlan_9 : decode cX9_runsPlan 9 = .ok (.iconst 0, 1) := by decide +kernel
theorem dX9_runsPlan_10 : decode cX9_runsPlan 10 = .ok (.istore_n 2, 1) := by decide +kernel
theorem dX9_runsPlan_11 : decode cX9_runsPlan 11 = .ok (.iload_n 2, 1) := by decide +kernel
theorem dX9_runsPlan_12 : decode cX9_runsPlan 12 = .ok (.iload_n 1, 1) := by decide +kernel
theorem dX9_runsPlan_13 : decode cX9_runsPlan 13 = .ok (.if_icmp .ge 37, 3) := by decide +kernel
theorem dX9_runsPlan_16 : decode cX9_runsPlan 16 = .ok (.aload_n 0, 1) := by decide +kernel
theorem dX9_runsPlan_17 : decode cX9_runsPlan 17 = .ok (.getfield 56, 3) := by decide +kernel
theorem dX9_runsPlan_20 : decode cX9_runsPlan 20 = .ok (.iload_n 2, 1) := by decide +kernel
theorem dX9_runsPlan_21 : decode cX9_runsPlan 21 = .ok (.aload_n 0, 1) := by decide +kernel
theorem dX9_runsPlan_22 : decode cX9_runsPlan 22 = .ok (.getfield 77, 3) := by decide +kernel
theorem dX9_runsPlan_25 : decode cX9_runsPlan 25 = .ok (.iload_n 2, 1) := by decide +kernel
theorem dX9_runsPlan_26 : decode cX9_runsPlan 26 = .ok (.iaload, 1) := by decide +kernel
theorem dX9_runsPlan_27 : decode cX9_runsPlan 27 = .ok (.iconst (-1), 1) := by decide +kernel
theorem dX9_runsPlan_28 : decode cX9_runsPlan 28 = .ok (.if_icmp .ne 7, 3) := by decide +kernel
theorem dX9_runsPlan_31 : decode cX9_runsPlan 31 = .ok (.iconst 0, 1) := by decide +kernel
theorem dX9_runsPlan_32 : decode cX9_runsPlan 32 = .ok (.goto 11, 3) := by decide +kernel
theorem dX9_runsPlan_35 : decode cX9_runsPlan 35 = .ok (.iconst 1, 1) := by decide +kernel
theorem dX9_runsPlan_36 : decode cX9_runsPlan 36 = .ok (.aload_n 0, 1) := by decide +kernel
theorem dX9_runsPlan_37 : decode cX9_runsPlan 37 = .ok (.getfield 77, 3) := by decide +kernel
theorem dX9_runsPlan_40 : decode cX9_runsPlan 40 = .ok (.iload_n 2, 1) := by decide +kernel
theorem dX9_runsPlan_41 : decode cX9_runsPlan 41 = .ok (.iaload, 1) := by decide +kernel
theorem dX9_runsPlan_42 : decode cX9_runsPlan 42 = .ok (.ishl, 1) := by decide +kernel
theorem dX9_runsPlan_43 : decode cX9_runsPlan 43 = .ok (.iastore, 1) := by decide +kernel
theorem dX9_runsPlan_44 : decode cX9_runsPlan 44 = .ok (.iinc 2 1, 3) := by decide +kernel
theorem dX9_runsPlan_47 : decode cX9_runsPlan 47 = .ok (.goto (-36), 3) := by decide +kernel
theorem dX9_runsPlan_50 : decode cX9_runsPlan 50 = .ok (.aload_n 0, 1) := by decide +kernel
theorem dX9_runsPlan_51 : decode cX9_runsPlan 51 = .ok (.invokevirtual 322, 3) := by decide +kernel
theorem dX9_runsPlan_54 : decode cX9_runsPlan 54 = .ok (.return_, 1) := by decide +kernel
theorem dX9_rush_0 : decode cX9_rush 0 = .ok (.aload_n 0, 1) := by decide +kernel
theorem dX9_rush_1 : decode cX9_rush 1 = .ok (.iconst 0, 1) := by decide +kernel
theorem dX9_rush_2 : decode cX9_rush 2 = .ok (.putfield 83, 3) := by decide +kernel
theorem dX9_rush_5 : decode cX9_rush 5 = .ok (.aload_n 0, 1) := by decide +kernel
theorem dX9_rush_6 : decode cX9_rush 6 = .ok (.invokevirtual 248, 3) := by decide +kernel
theorem dX9_rush_9 : decode cX9_rush 9 = .ok (.ifCond .ne 6, 3) := by decide +kernel
theorem dX9_rush_12 : decode cX9_rush 12 = .ok (.bipush (-2), 2) := by decide +kernel
theorem dX9_rush_14 : decode cX9_rush 14 = .ok (.ireturn, 1) := by decide +kernel
theorem dX9_rush_15 : decode cX9_rush 15 = .ok (.aload_n 0, 1) := by decide +kernel
theorem dX9_rush_16 : decode cX9_rush 16 = .ok (.invokevirtual 330, 3) := by decide +kernel
theorem dX9_rush_19 : decode cX9_rush 19 = .ok (.iconst 0, 1) := by decide +kernel
theorem dX9_rush_20 : decode cX9_rush 20 = .ok (.istore_n 1, 1) := by decide +kernel
theorem dX9_rush_21 : decode cX9_rush 21 = .ok (.iconst 0, 1) := by decide +kernel
theorem dX9_rush_22 : decode cX9_rush 22 = .ok (.istore_n 2, 1) := by decide +kernel
theorem dX9_rush_23 : decode cX9_rush 23 = .ok (.iload_n 2, 1) := by decide +kernel
theorem dX9_rush_24 : decode cX9_rush 24 = .ok (.aload_n 0, 1) := by decide +kernel
theorem dX9_rush_25 : decode cX9_rush 25 = .ok (.invokevirtual 251, 3) := by decide +kernel
theorem dX9_rush_28 : decode cX9_rush 28 = .ok (.if_icmp .ge 22, 3) := by decide +kernel
theorem dX9_rush_31 : decode cX9_rush 31 = .ok (.iload_n 1, 1) := by decide +kernel
theorem dX9_rush_32 : decode cX9_rush 32 = .ok (.aload_n 0, 1) := by decide +kernel
theorem dX9_rush_33 : decode cX9_rush 33 = .ok (.iload_n 2, 1) := by decide +kernel
theorem dX9_rush_34 : decode cX9_rush 34 = .ok (.invokevirtual 348, 3) := by decide +kernel
theorem dX9_rush_37 : decode cX9_rush 37 = .ok (.invokestatic 295, 3) := by decide +kernel
theorem dX9_rush_40 : decode cX9_rush 40 = .ok (.invokestatic 279, 3) := by decide +kernel
theorem dX9_rush_43 : decode cX9_rush 43 = .ok (.istore_n 1, 1) := by decide +kernel
theorem dX9_rush_44 : decode cX9_rush 44 = .ok (.iinc 2 1, 3) := by decide +kernel
theorem dX9_rush_47 : decode cX9_rush 47 = .ok (.goto (-24), 3) := by decide +kernel
theorem dX9_rush_50 : decode cX9_rush 50 = .ok (.iload_n 1, 1) := by decide +kernel
theorem dX9_rush_51 : decode cX9_rush 51 = .ok (.ireturn, 1) := by decide +kernel
theorem dX9_share_0 : decode cX9_share 0 = .ok (.aload_n 0, 1) := by decide +kernel
theorem dX9_share_1 : decode cX9_share 1 = .ok (.iconst 0, 1) := by decide +kernel
theorem dX9_share_2 : decode cX9_share 2 = .ok (.putfield 83, 3) := by decide +kernel
theorem dX9_share_5 : decode cX9_share 5 = .ok (.aload_n 0, 1) := by decide +kernel
theorem dX9_share_6 : decode cX9_share 6 = .ok (.iload_n 1, 1) := by decide +kernel
theorem dX9_share_7 : decode cX9_share 7 = .ok (.i2l, 1) := by decide +kernel
theorem dX9_share_8 : decode cX9_share 8 = .ok (.invokevirtual 254, 3) := by decide +kernel
theorem dX9_share_11 : decode cX9_share 11 = .ok (.ifCond .eq 10, 3) := by decide +kernel
theorem dX9_share_14 : decode cX9_share 14 = .ok (.iload_n 2, 1) := by decide +kernel
theorem dX9_share_15 : decode cX9_share 15 = .ok (.invokestatic 364, 3) := by decide +kernel
theorem dX9_share_18 : decode cX9_share 18 = .ok (.ifCond .ne 7, 3) := by decide +kernel
theorem dX9_share_21 : decode cX9_share 21 = .ok (.ldc_w 367, 3) := by decide +kernel
theorem dX9_share_24 : decode cX9_share 24 = .ok (.ireturn, 1) := by decide +kernel
theorem dX9_share_25 : decode cX9_share 25 = .ok (.iconst 0, 1) := by decide +kernel
theorem dX9_share_26 : decode cX9_share 26 = .ok (.istore_n 3, 1) := by decide +kernel
theorem dX9_share_27 : decode cX9_share 27 = .ok (.iconst 0, 1) := by decide +kernel
theorem dX9_share_28 : decode cX9_share 28 = .ok (.istore 4, 2) := by decide +kernel
theorem dX9_share_30 : decode cX9_share 30 = .ok (.iload 4, 2) := by decide +kernel
theorem dX9_share_32 : decode cX9_share 32 = .ok (.iconst 1, 1) := by decide +kernel
theorem dX9_share_33 : decode cX9_share 33 = .ok (.aload_n 0, 1) := by decide +kernel
theorem dX9_share_34 : decode cX9_share 34 = .ok (.invokevirtual 245, 3) := by decide +kernel
theorem dX9_share_37 : decode cX9_share 37 = .ok (.ishl, 1) := by decide +kernel
theorem dX9_share_38 : decode cX9_share 38 = .ok (.if_icmp .ge 67, 3) := by decide +kernel
theorem dX9_share_41 : decode cX9_share 41 = .ok (.iload 4, 2) := by decide +kernel
theorem dX9_share_43 : decode cX9_share 43 = .ok (.iload_n 1, 1) := by decide +kernel
theorem dX9_share_44 : decode cX9_share 44 = .ok (.invokestatic 282, 3) := by decide +kernel
theorem dX9_share_47 : decode cX9_share 47 = .ok (.ifCond .eq 6, 3) := by decide +kernel
theorem dX9_share_50 : decode cX9_share 50 = .ok (.goto 49, 3) := by decide +kernel
theorem dX9_share_53 : decode cX9_share 53 = .ok (.iload 4, 2) := by decide +kernel
theorem dX9_share_55 : decode cX9_share 55 = .ok (.invokestatic 295, 3) := by decide +kernel
theorem dX9_share_58 : decode cX9_share 58 = .ok (.istore 5, 2) := by decide +kernel
theorem dX9_share_60 : decode cX9_share 60 = .ok (.iload_n 3, 1) := by decide +kernel
theorem dX9_share_61 : decode cX9_share 61 = .ok (.iload 5, 2) := by decide +kernel
theorem dX9_share_63 : decode cX9_share 63 = .ok (.invokestatic 357, 3) := by decide +kernel
theorem dX9_share_66 : decode cX9_share 66 = .ok (.aload_n 0, 1) := by decide +kernel
theorem dX9_share_67 : decode cX9_share 67 = .ok (.invokevirtual 245, 3) := by decide +kernel
theorem dX9_share_70 : decode cX9_share 70 = .ok (.iload 5, 2) := by decide +kernel
theorem dX9_share_72 : decode cX9_share 72 = .ok (.isub, 1) := by decide +kernel
theorem dX9_share_73 : decode cX9_share 73 = .ok (.iconst 1, 1) := by decide +kernel
theorem dX9_share_74 : decode cX9_share 74 = .ok (.isub, 1) := by decide +kernel
theorem dX9_share_75 : decode cX9_share 75 = .ok (.invokestatic 357, 3) := by decide +kernel
theorem dX9_share_78 : decode cX9_share 78 = .ok (.imul, 1) := by decide +kernel
theorem dX9_share_79 : decode cX9_share 79 = .ok (.aload_n 0, 1) := by decide +kernel
theorem dX9_share_80 : decode cX9_share 80 = .ok (.iload 4, 2) := by decide +kernel
theorem dX9_share_82 : decode cX9_share 82 = .ok (.iconst 1, 1) := by decide +kernel
theorem dX9_share_83 : decode cX9_share 83 = .ok (.iload_n 1, 1) := by decide +kernel
theorem dX9_share_84 : decode cX9_share 84 = .ok (.ishl, 1) := by decide +kernel
theorem dX9_share_85 : decode cX9_share 85 = .ok (.ior, 1) := by decide +kernel
theorem dX9_share_86 : decode cX9_share 86 = .ok (.invokevirtual 351, 3) := by decide +kernel
theorem dX9_share_89 : decode cX9_share 89 = .ok (.aload_n 0, 1) := by decide +kernel
theorem dX9_share_90 : decode cX9_share 90 = .ok (.iload 4, 2) := by decide +kernel
theorem dX9_share_92 : decode cX9_share 92 = .ok (.invokevirtual 351, 3) := by decide +kernel
theorem dX9_share_95 : decode cX9_share 95 = .ok (.isub, 1) := by decide +kernel
theorem dX9_share_96 : decode cX9_share 96 = .ok (.imul, 1) := by decide +kernel
theorem dX9_share_97 : decode cX9_share 97 = .ok (.iadd, 1) := by decide +kernel
theorem dX9_share_98 : decode cX9_share 98 = .ok (.istore_n 3, 1) := by decide +kernel
theorem dX9_share_99 : decode cX9_share 99 = .ok (.iinc 4 1, 3) := by decide +kernel
theorem dX9_share_102 : decode cX9_share 102 = .ok (.goto (-72), 3) := by decide +kernel
theorem dX9_share_105 : decode cX9_share 105 = .ok (.iload_n 3, 1) := by decide +kernel
theorem dX9_share_106 : decode cX9_share 106 = .ok (.i2l, 1) := by decide +kernel
theorem dX9_share_107 : decode cX9_share 107 = .ok (.aload_n 0, 1) := by decide +kernel
theorem dX9_share_108 : decode cX9_share 108 = .ok (.invokevirtual 245, 3) := by decide +kernel
theorem dX9_share_111 : decode cX9_share 111 = .ok (.invokestatic 357, 3) := by decide +kernel
theorem dX9_share_114 : decode cX9_share 114 = .ok (.i2l, 1) := by decide +kernel
theorem dX9_share_115 : decode cX9_share 115 = .ok (.iload_n 2, 1) := by decide +kernel
theorem dX9_share_116 : decode cX9_share 116 = .ok (.invokestatic 368, 3) := by decide +kernel
theorem dX9_share_119 : decode cX9_share 119 = .ok (.l2i, 1) := by decide +kernel
theorem dX9_share_120 : decode cX9_share 120 = .ok (.ireturn, 1) := by decide +kernel
theorem dX9_sharp_0 : decode cX9_sharp 0 = .ok (.aload_n 0, 1) := by decide +kernel
theorem dX9_sharp_1 : decode cX9_sharp 1 = .ok (.iconst 0, 1) := by decide +kernel
theorem dX9_sharp_2 : decode cX9_sharp 2 = .ok (.putfield 83, 3) := by decide +kernel
theorem dX9_sharp_5 : decode cX9_sharp 5 = .ok (.aload_n 0, 1) := by decide +kernel
theorem dX9_sharp_6 : decode cX9_sharp 6 = .ok (.invokevirtual 248, 3) := by decide +kernel
theorem dX9_sharp_9 : decode cX9_sharp 9 = .ok (.ifCond .ne 6, 3) := by decide +kernel
theorem dX9_sharp_12 : decode cX9_sharp 12 = .ok (.bipush (-2), 2) := by decide +kernel
theorem dX9_sharp_14 : decode cX9_sharp 14 = .ok (.ireturn, 1) := by decide +kernel
theorem dX9_sharp_15 : decode cX9_sharp 15 = .ok (.aload_n 0, 1) := by decide +kernel
theorem dX9_sharp_16 : decode cX9_sharp 16 = .ok (.invokevirtual 330, 3) := by decide +kernel
theorem dX9_sharp_19 : decode cX9_sharp 19 = .ok (.aload_n 0, 1) := by decide +kernel
theorem dX9_sharp_20 : decode cX9_sharp 20 = .ok (.getfield 285, 3) := by decide +kernel
theorem dX9_sharp_23 : decode cX9_sharp 23 = .ok (.ireturn, 1) := by decide +kernel
theorem dX9_sizeOf_0 : decode cX9_sizeOf 0 = .ok (.iconst 0, 1) := by decide +kernel
theorem dX9_sizeOf_1 : decode cX9_sizeOf 1 = .ok (.istore_n 1, 1) := by decide +kernel
theorem dX9_sizeOf_2 : decode cX9_sizeOf 2 = .ok (.iload_n 0, 1) := by decide +kernel
theorem dX9_sizeOf_3 : decode cX9_sizeOf 3 = .ok (.istore_n 2, 1) := by decide +kernel
theorem dX9_sizeOf_4 : decode cX9_sizeOf 4 = .ok (.iload_n 2, 1) := by decide +kernel
theorem dX9_sizeOf_5 : decode cX9_sizeOf 5 = .ok (.ifCond .eq 15, 3) := by decide +kernel
theorem dX9_sizeOf_8 : decode cX9_sizeOf 8 = .ok (.iinc 1 1, 3) := by decide +kernel
theorem dX9_sizeOf_11 : decode cX9_sizeOf 11 = .ok (.iload_n 2, 1) := by decide +kernel
theorem dX9_sizeOf_12 : decode cX9_sizeOf 12 = .ok (.iload_n 2, 1) := by decide +kernel
theorem dX9_sizeOf_13 : decode cX9_sizeOf 13 = .ok (.iconst 1, 1) := by decide +kernel
theorem dX9_sizeOf_14 : decode cX9_sizeOf 14 = .ok (.isub, 1) := by decide +kernel
theorem dX9_sizeOf_15 : decode cX9_sizeOf 15 = .ok (.iand, 1) := by decide +kernel
theorem dX9_sizeOf_16 : decode cX9_sizeOf 16 = .ok (.istore_n 2, 1) := by decide +kernel
theorem dX9_sizeOf_17 : decode cX9_sizeOf 17 = .ok (.goto (-13), 3) := by decide +kernel
theorem dX9_sizeOf_20 : decode cX9_sizeOf 20 = .ok (.iload_n 1, 1) := by decide +kernel
theorem dX9_sizeOf_21 : decode cX9_sizeOf 21 = .ok (.ireturn, 1) := by decide +kernel
theorem dX9_slit_0 : decode cX9_slit 0 = .ok (.aload_n 0, 1) := by decide +kernel
theorem dX9_slit_1 : decode cX9_slit 1 = .ok (.iconst 0, 1) := by decide +kernel
theorem dX9_slit_2 : decode cX9_slit 2 = .ok (.putfield 83, 3) := by decide +kernel
theorem dX9_slit_5 : decode cX9_slit 5 = .ok (.aload_n 0, 1) := by decide +kernel
theorem dX9_slit_6 : decode cX9_slit 6 = .ok (.invokevirtual 248, 3) := by decide +kernel
theorem dX9_slit_9 : decode cX9_slit 9 = .ok (.ifCond .ne 6, 3) := by decide +kernel
theorem dX9_slit_12 : decode cX9_slit 12 = .ok (.bipush (-2), 2) := by decide +kernel
theorem dX9_slit_14 : decode cX9_slit 14 = .ok (.ireturn, 1) := by decide +kernel
theorem dX9_slit_15 : decode cX9_slit 15 = .ok (.aload_n 0, 1) := by decide +kernel
theorem dX9_slit_16 : decode cX9_slit 16 = .ok (.invokevirtual 330, 3) := by decide +kernel
theorem dX9_slit_19 : decode cX9_slit 19 = .ok (.iconst (-1), 1) := by decide +kernel
theorem dX9_slit_20 : decode cX9_slit 20 = .ok (.istore_n 1, 1) := by decide +kernel
theorem dX9_slit_21 : decode cX9_slit 21 = .ok (.aload_n 0, 1) := by decide +kernel
theorem dX9_slit_22 : decode cX9_slit 22 = .ok (.invokevirtual 339, 3) := by decide +kernel
theorem dX9_slit_25 : decode cX9_slit 25 = .ok (.istore_n 2, 1) := by decide +kernel
theorem dX9_slit_26 : decode cX9_slit 26 = .ok (.iconst 0, 1) := by decide +kernel
theorem dX9_slit_27 : decode cX9_slit 27 = .ok (.istore_n 3, 1) := by decide +kernel
theorem dX9_slit_28 : decode cX9_slit 28 = .ok (.iload_n 3, 1) := by decide +kernel
theorem dX9_slit_29 : decode cX9_slit 29 = .ok (.aload_n 0, 1) := by decide +kernel
theorem dX9_slit_30 : decode cX9_slit 30 = .ok (.getfield 34, 3) := by decide +kernel
theorem dX9_slit_33 : decode cX9_slit 33 = .ok (.iconst 4, 1) := by decide +kernel
theorem dX9_slit_34 : decode cX9_slit 34 = .ok (.iaload, 1) := by decide +kernel
theorem dX9_slit_35 : decode cX9_slit 35 = .ok (.if_icmp .ge 40, 3) := by decide +kernel
theorem dX9_slit_38 : decode cX9_slit 38 = .ok (.aload_n 0, 1) := by decide +kernel
theorem dX9_slit_39 : decode cX9_slit 39 = .ok (.invokevirtual 319, 3) := by decide +kernel
theorem dX9_slit_42 : decode cX9_slit 42 = .ok (.aload_n 0, 1) := by decide +kernel
theorem dX9_slit_43 : decode cX9_slit 43 = .ok (.iload_n 3, 1) := by decide +kernel
theorem dX9_slit_44 : decode cX9_slit 44 = .ok (.putfield 266, 3) := by decide +kernel
theorem dX9_slit_47 : decode cX9_slit 47 = .ok (.aload_n 0, 1) := by decide +kernel
theorem dX9_slit_48 : decode cX9_slit 48 = .ok (.invokevirtual 322, 3) := by decide +kernel
theorem dX9_slit_51 : decode cX9_slit 51 = .ok (.aload_n 0, 1) := by decide +kernel
theorem dX9_slit_52 : decode cX9_slit 52 = .ok (.invokevirtual 339, 3) := by decide +kernel
theorem dX9_slit_55 : decode cX9_slit 55 = .ok (.iload_n 2, 1) := by decide +kernel
theorem dX9_slit_56 : decode cX9_slit 56 = .ok (.if_icmp .gt 6, 3) := by decide +kernel
theorem dX9_slit_59 : decode cX9_slit 59 = .ok (.goto 10, 3) := by decide +kernel
theorem dX9_slit_62 : decode cX9_slit 62 = .ok (.iload_n 3, 1) := by decide +kernel
theorem dX9_slit_63 : decode cX9_slit 63 = .ok (.istore_n 1, 1) := by decide +kernel
theorem dX9_slit_64 : decode cX9_slit 64 = .ok (.aload_n 0, 1) := by decide +kernel
theorem dX9_slit_65 : decode cX9_slit 65 = .ok (.invokevirtual 339, 3) := by decide +kernel
theorem dX9_slit_68 : decode cX9_slit 68 = .ok (.istore_n 2, 1) := by decide +kernel
theorem dX9_slit_69 : decode cX9_slit 69 = .ok (.iinc 3 1, 3) := by decide +kernel
theorem dX9_slit_72 : decode cX9_slit 72 = .ok (.goto (-44), 3) := by decide +kernel
theorem dX9_slit_75 : decode cX9_slit 75 = .ok (.iload_n 1, 1) := by decide +kernel
theorem dX9_slit_76 : decode cX9_slit 76 = .ok (.ireturn, 1) := by decide +kernel
theorem dX9_stalest_0 : decode cX9_stalest 0 = .ok (.aload_n 0, 1) := by decide +kernel
theorem dX9_stalest_1 : decode cX9_stalest 1 = .ok (.iconst 0, 1) := by decide +kernel
theorem dX9_stalest_2 : decode cX9_stalest 2 = .ok (.putfield 83, 3) := by decide +kernel
theorem dX9_stalest_5 : decode cX9_stalest 5 = .ok (.aload_n 0, 1) := by decide +kernel
theorem dX9_stalest_6 : decode cX9_stalest 6 = .ok (.iload_n 1, 1) := by decide +kernel
theorem dX9_stalest_7 : decode cX9_stalest 7 = .ok (.i2l, 1) := by decide +kernel
theorem dX9_stalest_8 : decode cX9_stalest 8 = .ok (.invokevirtual 257, 3) := by decide +kernel
theorem dX9_stalest_11 : decode cX9_stalest 11 = .ok (.ifCond .ne 6, 3) := by decide +kernel
theorem dX9_stalest_14 : decode cX9_stalest 14 = .ok (.bipush (-2), 2) := by decide +kernel
theorem dX9_stalest_16 : decode cX9_stalest 16 = .ok (.ireturn, 1) := by decide +kernel
theorem dX9_stalest_17 : decode cX9_stalest 17 = .ok (.aload_n 0, 1) := by decide +kernel
theorem dX9_stalest_18 : decode cX9_stalest 18 = .ok (.invokevirtual 330, 3) := by decide +kernel
theorem dX9_stalest_21 : decode cX9_stalest 21 = .ok (.iconst (-1), 1) := by decide +kernel
theorem dX9_stalest_22 : decode cX9_stalest 22 = .ok (.istore_n 2, 1) := by decide +kernel
theorem dX9_stalest_23 : decode cX9_stalest 23 = .ok (.iconst 0, 1) := by decide +kernel
theorem dX9_stalest_24 : decode cX9_stalest 24 = .ok (.istore_n 3, 1) := by decide +kernel
theorem dX9_stalest_25 : decode cX9_stalest 25 = .ok (.iload_n 3, 1) := by decide +kernel
theorem dX9_stalest_26 : decode cX9_stalest 26 = .ok (.aload_n 0, 1) := by decide +kernel
theorem dX9_stalest_27 : decode cX9_stalest 27 = .ok (.invokevirtual 245, 3) := by decide +kernel
theorem dX9_stalest_30 : decode cX9_stalest 30 = .ok (.if_icmp .ge 44, 3) := by decide +kernel
theorem dX9_stalest_33 : decode cX9_stalest 33 = .ok (.aload_n 0, 1) := by decide +kernel
theorem dX9_stalest_34 : decode cX9_stalest 34 = .ok (.getfield 62, 3) := by decide +kernel
theorem dX9_stalest_37 : decode cX9_stalest 37 = .ok (.iload_n 1, 1) := by decide +kernel
theorem dX9_stalest_38 : decode cX9_stalest 38 = .ok (.iaload, 1) := by decide +kernel
theorem dX9_stalest_39 : decode cX9_stalest 39 = .ok (.iload_n 3, 1) := by decide +kernel
theorem dX9_stalest_40 : decode cX9_stalest 40 = .ok (.invokestatic 282, 3) := by decide +kernel
theorem dX9_stalest_43 : decode cX9_stalest 43 = .ok (.ifCond .ne 25, 3) := by decide +kernel
theorem dX9_stalest_46 : decode cX9_stalest 46 = .ok (.iload_n 2, 1) := by decide +kernel
theorem dX9_stalest_47 : decode cX9_stalest 47 = .ok (.iconst (-1), 1) := by decide +kernel
theorem dX9_stalest_48 : decode cX9_stalest 48 = .ok (.if_icmp .eq 18, 3) := by decide +kernel
theorem dX9_stalest_51 : decode cX9_stalest 51 = .ok (.aload_n 0, 1) := by decide +kernel
theorem dX9_stalest_52 : decode cX9_stalest 52 = .ok (.iload_n 3, 1) := by decide +kernel
theorem dX9_stalest_53 : decode cX9_stalest 53 = .ok (.iload_n 1, 1) := by decide +kernel
theorem dX9_stalest_54 : decode cX9_stalest 54 = .ok (.invokevirtual 301, 3) := by decide +kernel
theorem dX9_stalest_57 : decode cX9_stalest 57 = .ok (.aload_n 0, 1) := by decide +kernel
theorem dX9_stalest_58 : decode cX9_stalest 58 = .ok (.iload_n 2, 1) := by decide +kernel
theorem dX9_stalest_59 : decode cX9_stalest 59 = .ok (.iload_n 1, 1) := by decide +kernel
theorem dX9_stalest_60 : decode cX9_stalest 60 = .ok (.invokevirtual 301, 3) := by decide +kernel
theorem dX9_stalest_63 : decode cX9_stalest 63 = .ok (.if_icmp .le 5, 3) := by decide +kernel
theorem dX9_stalest_66 : decode cX9_stalest 66 = .ok (.iload_n 3, 1) := by decide +kernel
theorem dX9_stalest_67 : decode cX9_stalest 67 = .ok (.istore_n 2, 1) := by decide +kernel
theorem dX9_stalest_68 : decode cX9_stalest 68 = .ok (.iinc 3 1, 3) := by decide +kernel
theorem dX9_stalest_71 : decode cX9_stalest 71 = .ok (.goto (-46), 3) := by decide +kernel
theorem dX9_stalest_74 : decode cX9_stalest 74 = .ok (.iload_n 2, 1) := by decide +kernel
theorem dX9_stalest_75 : decode cX9_stalest 75 = .ok (.ireturn, 1) := by decide +kernel
theorem dX9_stiff_0 : decode cX9_stiff 0 = .ok (.aload_n 0, 1) := by decide +kernel
theorem dX9_stiff_1 : decode cX9_stiff 1 = .ok (.iconst 0, 1) := by decide +kernel
theorem dX9_stiff_2 : decode cX9_stiff 2 = .ok (.putfield 83, 3) := by decide +kernel
theorem dX9_stiff_5 : decode cX9_stiff 5 = .ok (.aload_n 0, 1) := by decide +kernel
theorem dX9_stiff_6 : decode cX9_stiff 6 = .ok (.iload_n 1, 1) := by decide +kernel
theorem dX9_stiff_7 : decode cX9_stiff 7 = .ok (.iload_n 2, 1) := by decide +kernel
theorem dX9_stiff_8 : decode cX9_stiff 8 = .ok (.invokevirtual 327, 3) := by decide +kernel
theorem dX9_stiff_11 : decode cX9_stiff 11 = .ok (.ifCond .ne 6, 3) := by decide +kernel
theorem dX9_stiff_14 : decode cX9_stiff 14 = .ok (.bipush (-2), 2) := by decide +kernel
theorem dX9_stiff_16 : decode cX9_stiff 16 = .ok (.ireturn, 1) := by decide +kernel
theorem dX9_stiff_17 : decode cX9_stiff 17 = .ok (.aload_n 0, 1) := by decide +kernel
theorem dX9_stiff_18 : decode cX9_stiff 18 = .ok (.invokevirtual 330, 3) := by decide +kernel
theorem dX9_stiff_21 : decode cX9_stiff 21 = .ok (.aload_n 0, 1) := by decide +kernel
theorem dX9_stiff_22 : decode cX9_stiff 22 = .ok (.iload_n 1, 1) := by decide +kernel
theorem dX9_stiff_23 : decode cX9_stiff 23 = .ok (.iload_n 2, 1) := by decide +kernel
theorem dX9_stiff_24 : decode cX9_stiff 24 = .ok (.invokevirtual 301, 3) := by decide +kernel
theorem dX9_stiff_27 : decode cX9_stiff 27 = .ok (.ireturn, 1) := by decide +kernel
theorem dX9_stiffAt_0 : decode cX9_stiffAt 0 = .ok (.aload_n 0, 1) := by decide +kernel
theorem dX9_stiffAt_1 : decode cX9_stiffAt 1 = .ok (.getfield 59, 3) := by decide +kernel
theorem dX9_stiffAt_4 : decode cX9_stiffAt 4 = .ok (.bipush 6, 2) := by decide +kernel
theorem dX9_stiffAt_6 : decode cX9_stiffAt 6 = .ok (.iload_n 2, 1) := by decide +kernel
theorem dX9_stiffAt_7 : decode cX9_stiffAt 7 = .ok (.imul, 1) := by decide +kernel
theorem dX9_stiffAt_8 : decode cX9_stiffAt 8 = .ok (.iload_n 1, 1) := by decide +kernel
theorem dX9_stiffAt_9 : decode cX9_stiffAt 9 = .ok (.iadd, 1) := by decide +kernel
theorem dX9_stiffAt_10 : decode cX9_stiffAt 10 = .ok (.iaload, 1) := by decide +kernel
theorem dX9_stiffAt_11 : decode cX9_stiffAt 11 = .ok (.ireturn, 1) := by decide +kernel
theorem dX9_stiffer_0 : decode cX9_stiffer 0 = .ok (.aload_n 0, 1) := by decide +kernel
theorem dX9_stiffer_1 : decode cX9_stiffer 1 = .ok (.iload_n 1, 1) := by decide +kernel
theorem dX9_stiffer_2 : decode cX9_stiffer 2 = .ok (.invokevirtual 292, 3) := by decide +kernel
theorem dX9_stiffer_5 : decode cX9_stiffer 5 = .ok (.istore_n 3, 1) := by decide +kernel
theorem dX9_stiffer_6 : decode cX9_stiffer 6 = .ok (.aload_n 0, 1) := by decide +kernel
theorem dX9_stiffer_7 : decode cX9_stiffer 7 = .ok (.getfield 37, 3) := by decide +kernel
theorem dX9_stiffer_10 : decode cX9_stiffer 10 = .ok (.iconst 3, 1) := by decide +kernel
theorem dX9_stiffer_11 : decode cX9_stiffer 11 = .ok (.iload_n 1, 1) := by decide +kernel
theorem dX9_stiffer_12 : decode cX9_stiffer 12 = .ok (.imul, 1) := by decide +kernel
theorem dX9_stiffer_13 : decode cX9_stiffer 13 = .ok (.iconst 1, 1) := by decide +kernel
theorem dX9_stiffer_14 : decode cX9_stiffer 14 = .ok (.iadd, 1) := by decide +kernel
theorem dX9_stiffer_15 : decode cX9_stiffer 15 = .ok (.iaload, 1) := by decide +kernel
theorem dX9_stiffer_16 : decode cX9_stiffer 16 = .ok (.istore 4, 2) := by decide +kernel
theorem dX9_stiffer_18 : decode cX9_stiffer 18 = .ok (.aload_n 0, 1) := by decide +kernel
theorem dX9_stiffer_19 : decode cX9_stiffer 19 = .ok (.getfield 260, 3) := by decide +kernel
theorem dX9_stiffer_22 : decode cX9_stiffer 22 = .ok (.iconst 1, 1) := by decide +kernel
theorem dX9_stiffer_23 : decode cX9_stiffer 23 = .ok (.if_icmp .ne 17, 3) := by decide +kernel
theorem dX9_stiffer_26 : decode cX9_stiffer 26 = .ok (.iload 4, 2) := by decide +kernel
theorem dX9_stiffer_28 : decode cX9_stiffer 28 = .ok (.iload_n 3, 1) := by decide +kernel
theorem dX9_stiffer_29 : decode cX9_stiffer 29 = .ok (.aload_n 0, 1) := by decide +kernel
theorem dX9_stiffer_30 : decode cX9_stiffer 30 = .ok (.getfield 276, 3) := by decide +kernel
theorem dX9_stiffer_33 : decode cX9_stiffer 33 = .ok (.iand, 1) := by decide +kernel
theorem dX9_stiffer_34 : decode cX9_stiffer 34 = .ok (.invokestatic 295, 3) := by decide +kernel
theorem dX9_stiffer_37 : decode cX9_stiffer 37 = .ok (.iadd, 1) := by decide +kernel
theorem dX9_stiffer_38 : decode cX9_stiffer 38 = .ok (.istore 4, 2) := by decide +kernel
theorem dX9_stiffer_40 : decode cX9_stiffer 40 = .ok (.aload_n 0, 1) := by decide +kernel
theorem dX9_stiffer_41 : decode cX9_stiffer 41 = .ok (.getfield 260, 3) := by decide +kernel
theorem dX9_stiffer_44 : decode cX9_stiffer 44 = .ok (.iconst 2, 1) := by decide +kernel
theorem dX9_stiffer_45 : decode cX9_stiffer 45 = .ok (.if_icmp .ne 9, 3) := by decide +kernel
theorem dX9_stiffer_48 : decode cX9_stiffer 48 = .ok (.iload 4, 2) := by decide +kernel
theorem dX9_stiffer_50 : decode cX9_stiffer 50 = .ok (.iload_n 2, 1) := by decide +kernel
theorem dX9_stiffer_51 : decode cX9_stiffer 51 = .ok (.iadd, 1) := by decide +kernel
theorem dX9_stiffer_52 : decode cX9_stiffer 52 = .ok (.istore 4, 2) := by decide +kernel
theorem dX9_stiffer_54 : decode cX9_stiffer 54 = .ok (.aload_n 0, 1) := by decide +kernel
theorem dX9_stiffer_55 : decode cX9_stiffer 55 = .ok (.getfield 260, 3) := by decide +kernel
theorem dX9_stiffer_58 : decode cX9_stiffer 58 = .ok (.iconst 3, 1) := by decide +kernel
theorem dX9_stiffer_59 : decode cX9_stiffer 59 = .ok (.if_icmp .ne 17, 3) := by decide +kernel
theorem dX9_stiffer_62 : decode cX9_stiffer 62 = .ok (.iload_n 3, 1) := by decide +kernel
theorem dX9_stiffer_63 : decode cX9_stiffer 63 = .ok (.aload_n 0, 1) := by decide +kernel
theorem dX9_stiffer_64 : decode cX9_stiffer 64 = .ok (.getfield 276, 3) := by decide +kernel
theorem dX9_stiffer_67 : decode cX9_stiffer 67 = .ok (.iconst (-1), 1) := by decide +kernel
theorem dX9_stiffer_68 : decode cX9_stiffer 68 = .ok (.ixor, 1) := by decide +kernel
theorem dX9_stiffer_69 : decode cX9_stiffer 69 = .ok (.iand, 1) := by decide +kernel
theorem dX9_stiffer_70 : decode cX9_stiffer 70 = .ok (.ifCond .eq 6, 3) := by decide +kernel
theorem dX9_stiffer_73 : decode cX9_stiffer 73 = .ok (.iconst 0, 1) := by decide +kernel
theorem dX9_stiffer_74 : decode cX9_stiffer 74 = .ok (.istore 4, 2) := by decide +kernel
theorem dX9_stiffer_76 : decode cX9_stiffer 76 = .ok (.bipush 99, 2) := by decide +kernel
theorem dX9_stiffer_78 : decode cX9_stiffer 78 = .ok (.iload_n 2, 1) := by decide +kernel
theorem dX9_stiffer_79 : decode cX9_stiffer 79 = .ok (.iload 4, 2) := by decide +kernel
theorem dX9_stiffer_81 : decode cX9_stiffer 81 = .ok (.iadd, 1) := by decide +kernel
theorem dX9_stiffer_82 : decode cX9_stiffer 82 = .ok (.invokestatic 298, 3) := by decide +kernel
theorem dX9_stiffer_85 : decode cX9_stiffer 85 = .ok (.ireturn, 1) := by decide +kernel
theorem dX9_stiffs_0 : decode cX9_stiffs 0 = .ok (.aload_n 0, 1) := by decide +kernel
theorem dX9_stiffs_1 : decode cX9_stiffs 1 = .ok (.iconst 0, 1) := by decide +kernel
theorem dX9_stiffs_2 : decode cX9_stiffs 2 = .ok (.putfield 83, 3) := by decide +kernel
theorem dX9_stiffs_5 : decode cX9_stiffs 5 = .ok (.aload_n 0, 1) := by decide +kernel
theorem dX9_stiffs_6 : decode cX9_stiffs 6 = .ok (.iload_n 1, 1) := by decide +kernel
theorem dX9_stiffs_7 : decode cX9_stiffs 7 = .ok (.aload_n 0, 1) := by decide +kernel
theorem dX9_stiffs_8 : decode cX9_stiffs 8 = .ok (.iload_n 2, 1) := by decide +kernel
theorem dX9_stiffs_9 : decode cX9_stiffs 9 = .ok (.i2l, 1) := by decide +kernel
theorem dX9_stiffs_10 : decode cX9_stiffs 10 = .ok (.invokevirtual 254, 3) := by decide +kernel
theorem dX9_stiffs_13 : decode cX9_stiffs 13 = .ok (.invokevirtual 410, 3) := by decide +kernel
theorem dX9_stiffs_16 : decode cX9_stiffs 16 = .ok (.istore_n 3, 1) := by decide +kernel
theorem dX9_stiffs_17 : decode cX9_stiffs 17 = .ok (.iload_n 3, 1) := by decide +kernel
theorem dX9_stiffs_18 : decode cX9_stiffs 18 = .ok (.ifCond .eq 5, 3) := by decide +kernel
theorem dX9_stiffs_21 : decode cX9_stiffs 21 = .ok (.iload_n 3, 1) := by decide +kernel
theorem dX9_stiffs_22 : decode cX9_stiffs 22 = .ok (.ireturn, 1) := by decide +kernel
theorem dX9_stiffs_23 : decode cX9_stiffs 23 = .ok (.aload_n 0, 1) := by decide +kernel
theorem dX9_stiffs_24 : decode cX9_stiffs 24 = .ok (.iload_n 1, 1) := by decide +kernel
theorem dX9_stiffs_25 : decode cX9_stiffs 25 = .ok (.iload_n 2, 1) := by decide +kernel
theorem dX9_stiffs_26 : decode cX9_stiffs 26 = .ok (.invokevirtual 414, 3) := by decide +kernel
theorem dX9_stiffs_29 : decode cX9_stiffs 29 = .ok (.aload_n 0, 1) := by decide +kernel
theorem dX9_stiffs_30 : decode cX9_stiffs 30 = .ok (.getfield 392, 3) := by decide +kernel
theorem dX9_stiffs_33 : decode cX9_stiffs 33 = .ok (.ireturn, 1) := by decide +kernel
theorem dX9_takesWord_0 : decode cX9_takesWord 0 = .ok (.aload_n 0, 1) := by decide +kernel
theorem dX9_takesWord_1 : decode cX9_takesWord 1 = .ok (.lload_n 1, 1) := by decide +kernel
theorem dX9_takesWord_2 : decode cX9_takesWord 2 = .ok (.invokevirtual 141, 3) := by decide +kernel
theorem dX9_takesWord_5 : decode cX9_takesWord 5 = .ok (.ifCond .ne 5, 3) := by decide +kernel
theorem dX9_takesWord_8 : decode cX9_takesWord 8 = .ok (.iconst 0, 1) := by decide +kernel
theorem dX9_takesWord_9 : decode cX9_takesWord 9 = .ok (.ireturn, 1) := by decide +kernel
theorem dX9_takesWord_10 : decode cX9_takesWord 10 = .ok (.aload_n 0, 1) := by decide +kernel
theorem dX9_takesWord_11 : decode cX9_takesWord 11 = .ok (.invokevirtual 145, 3) := by decide +kernel
theorem dX9_takesWord_14 : decode cX9_takesWord 14 = .ok (.iconst 1, 1) := by decide +kernel
theorem dX9_takesWord_15 : decode cX9_takesWord 15 = .ok (.ireturn, 1) := by decide +kernel
theorem dX9_tale_0 : decode cX9_tale 0 = .ok (.aload_n 0, 1) := by decide +kernel
theorem dX9_tale_1 : decode cX9_tale 1 = .ok (.iconst 0, 1) := by decide +kernel
theorem dX9_tale_2 : decode cX9_tale 2 = .ok (.putfield 83, 3) := by decide +kernel
theorem dX9_tale_5 : decode cX9_tale 5 = .ok (.aload_n 0, 1) := by decide +kernel
theorem dX9_tale_6 : decode cX9_tale 6 = .ok (.invokevirtual 211, 3) := by decide +kernel
theorem dX9_tale_9 : decode cX9_tale 9 = .ok (.aload_n 0, 1) := by decide +kernel
theorem dX9_tale_10 : decode cX9_tale 10 = .ok (.invokevirtual 214, 3) := by decide +kernel
theorem dX9_tale_13 : decode cX9_tale 13 = .ok (.aload_n 0, 1) := by decide +kernel
theorem dX9_tale_14 : decode cX9_tale 14 = .ok (.invokevirtual 217, 3) := by decide +kernel
theorem dX9_tale_17 : decode cX9_tale 17 = .ok (.ifCond .eq 101, 3) := by decide +kernel
theorem dX9_tale_20 : decode cX9_tale 20 = .ok (.aload_n 0, 1) := by decide +kernel
theorem dX9_tale_21 : decode cX9_tale 21 = .ok (.getfield 124, 3) := by decide +kernel
theorem dX9_tale_24 : decode cX9_tale 24 = .ok (.ifCond .eq 94, 3) := by decide +kernel
theorem dX9_tale_27 : decode cX9_tale 27 = .ok (.aload_n 0, 1) := by decide +kernel
theorem dX9_tale_28 : decode cX9_tale 28 = .ok (.getfield 31, 3) := by decide +kernel
theorem dX9_tale_31 : decode cX9_tale 31 = .ok (.iconst 4, 1) := by decide +kernel
theorem dX9_tale_32 : decode cX9_tale 32 = .ok (.iaload, 1) := by decide +kernel
theorem dX9_tale_33 : decode cX9_tale 33 = .ok (.ifCond .ne 57, 3) := by decide +kernel
theorem dX9_tale_36 : decode cX9_tale 36 = .ok (.aload_n 0, 1) := by decide +kernel
theorem dX9_tale_37 : decode cX9_tale 37 = .ok (.ldc2_w 221, 3) := by decide +kernel
theorem dX9_tale_40 : decode cX9_tale 40 = .ok (.invokevirtual 154, 3) := by decide +kernel
theorem dX9_tale_43 : decode cX9_tale 43 = .ok (.aload_n 0, 1) := by decide +kernel
theorem dX9_tale_44 : decode cX9_tale 44 = .ok (.iconst 0, 1) := by decide +kernel
theorem dX9_tale_45 : decode cX9_tale 45 = .ok (.aload_n 0, 1) := by decide +kernel
theorem dX9_tale_46 : decode cX9_tale 46 = .ok (.ldc2_w 223, 3) := by decide +kernel
theorem dX9_tale_49 : decode cX9_tale 49 = .ok (.iconst 1, 1) := by decide +kernel
theorem dX9_tale_50 : decode cX9_tale 50 = .ok (.bipush 12, 2) := by decide +kernel
theorem dX9_tale_52 : decode cX9_tale 52 = .ok (.invokevirtual 171, 3) := by decide +kernel
theorem dX9_tale_55 : decode cX9_tale 55 = .ok (.invokevirtual 178, 3) := by decide +kernel
theorem dX9_tale_58 : decode cX9_tale 58 = .ok (.aload_n 0, 1) := by decide +kernel
theorem dX9_tale_59 : decode cX9_tale 59 = .ok (.iconst 1, 1) := by decide +kernel
theorem dX9_tale_60 : decode cX9_tale 60 = .ok (.aload_n 0, 1) := by decide +kernel
theorem dX9_tale_61 : decode cX9_tale 61 = .ok (.ldc2_w 225, 3) := by decide +kernel
theorem dX9_tale_64 : decode cX9_tale 64 = .ok (.iconst 0, 1) := by decide +kernel
theorem dX9_tale_65 : decode cX9_tale 65 = .ok (.iconst 3, 1) := by decide +kernel
theorem dX9_tale_66 : decode cX9_tale 66 = .ok (.invokevirtual 171, 3) := by decide +kernel
theorem dX9_tale_69 : decode cX9_tale 69 = .ok (.invokevirtual 178, 3) := by decide +kernel
theorem dX9_tale_72 : decode cX9_tale 72 = .ok (.aload_n 0, 1) := by decide +kernel
theorem dX9_tale_73 : decode cX9_tale 73 = .ok (.iconst 2, 1) := by decide +kernel
theorem dX9_tale_74 : decode cX9_tale 74 = .ok (.aload_n 0, 1) := by decide +kernel
theorem dX9_tale_75 : decode cX9_tale 75 = .ok (.ldc2_w 227, 3) := by decide +kernel
theorem dX9_tale_78 : decode cX9_tale 78 = .ok (.iconst 0, 1) := by decide +kernel
theorem dX9_tale_79 : decode cX9_tale 79 = .ok (.bipush 10, 2) := by decide +kernel
theorem dX9_tale_81 : decode cX9_tale 81 = .ok (.invokevirtual 171, 3) := by decide +kernel
theorem dX9_tale_84 : decode cX9_tale 84 = .ok (.invokevirtual 178, 3) := by decide +kernel
theorem dX9_tale_87 : decode cX9_tale 87 = .ok (.goto 7, 3) := by decide +kernel
theorem dX9_tale_90 : decode cX9_tale 90 = .ok (.aload_n 0, 1) := by decide +kernel
theorem dX9_tale_91 : decode cX9_tale 91 = .ok (.invokevirtual 229, 3) := by decide +kernel
theorem dX9_tale_94 : decode cX9_tale 94 = .ok (.aload_n 0, 1) := by decide +kernel
theorem dX9_tale_95 : decode cX9_tale 95 = .ok (.invokevirtual 217, 3) := by decide +kernel
theorem dX9_tale_98 : decode cX9_tale 98 = .ok (.ifCond .eq 7, 3) := by decide +kernel
theorem dX9_tale_101 : decode cX9_tale 101 = .ok (.aload_n 0, 1) := by decide +kernel
theorem dX9_tale_102 : decode cX9_tale 102 = .ok (.invokevirtual 232, 3) := by decide +kernel
theorem dX9_tale_105 : decode cX9_tale 105 = .ok (.aload_n 0, 1) := by decide +kernel
theorem dX9_tale_106 : decode cX9_tale 106 = .ok (.getfield 31, 3) := by decide +kernel
theorem dX9_tale_109 : decode cX9_tale 109 = .ok (.iconst 4, 1) := by decide +kernel
theorem dX9_tale_110 : decode cX9_tale 110 = .ok (.dup2, 1) := by decide +kernel
theorem dX9_tale_111 : decode cX9_tale 111 = .ok (.iaload, 1) := by decide +kernel
theorem dX9_tale_112 : decode cX9_tale 112 = .ok (.iconst 1, 1) := by decide +kernel
theorem dX9_tale_113 : decode cX9_tale 113 = .ok (.iadd, 1) := by decide +kernel
theorem dX9_tale_114 : decode cX9_tale 114 = .ok (.iastore, 1) := by decide +kernel
theorem dX9_tale_115 : decode cX9_tale 115 = .ok (.goto (-102), 3) := by decide +kernel
theorem dX9_tale_118 : decode cX9_tale 118 = .ok (.aload_n 0, 1) := by decide +kernel
theorem dX9_tale_119 : decode cX9_tale 119 = .ok (.invokevirtual 235, 3) := by decide +kernel
theorem dX9_tale_122 : decode cX9_tale 122 = .ok (.aload_n 0, 1) := by decide +kernel
theorem dX9_tale_123 : decode cX9_tale 123 = .ok (.getfield 135, 3) := by decide +kernel
theorem dX9_tale_126 : decode cX9_tale 126 = .ok (.ifCond .eq 6, 3) := by decide +kernel
theorem dX9_tale_129 : decode cX9_tale 129 = .ok (.bipush (-4), 2) := by decide +kernel
theorem dX9_tale_131 : decode cX9_tale 131 = .ok (.ireturn, 1) := by decide +kernel
theorem dX9_tale_132 : decode cX9_tale 132 = .ok (.aload_n 0, 1) := by decide +kernel
theorem dX9_tale_133 : decode cX9_tale 133 = .ok (.iconst 4, 1) := by decide +kernel
theorem dX9_tale_134 : decode cX9_tale 134 = .ok (.iconst 0, 1) := by decide +kernel
theorem dX9_tale_135 : decode cX9_tale 135 = .ok (.invokevirtual 238, 3) := by decide +kernel
theorem dX9_tale_138 : decode cX9_tale 138 = .ok (.aload_n 0, 1) := by decide +kernel
theorem dX9_tale_139 : decode cX9_tale 139 = .ok (.getfield 31, 3) := by decide +kernel
theorem dX9_tale_142 : decode cX9_tale 142 = .ok (.iconst 0, 1) := by decide +kernel
theorem dX9_tale_143 : decode cX9_tale 143 = .ok (.iaload, 1) := by decide +kernel
theorem dX9_tale_144 : decode cX9_tale 144 = .ok (.ireturn, 1) := by decide +kernel
theorem dX9_tellsOf_0 : decode cX9_tellsOf 0 = .ok (.aload_n 0, 1) := by decide +kernel
theorem dX9_tellsOf_1 : decode cX9_tellsOf 1 = .ok (.getfield 34, 3) := by decide +kernel
theorem dX9_tellsOf_4 : decode cX9_tellsOf 4 = .ok (.bipush 28, 2) := by decide +kernel
theorem dX9_tellsOf_6 : decode cX9_tellsOf 6 = .ok (.iload_n 1, 1) := by decide +kernel
theorem dX9_tellsOf_7 : decode cX9_tellsOf 7 = .ok (.iadd, 1) := by decide +kernel
theorem dX9_tellsOf_8 : decode cX9_tellsOf 8 = .ok (.iload_n 2, 1) := by decide +kernel
theorem dX9_tellsOf_9 : decode cX9_tellsOf 9 = .ok (.iastore, 1) := by decide +kernel
theorem dX9_tellsOf_10 : decode cX9_tellsOf 10 = .ok (.return_, 1) := by decide +kernel
theorem dX9_times_0 : decode cX9_times 0 = .ok (.iload_n 0, 1) := by decide +kernel
theorem dX9_times_1 : decode cX9_times 1 = .ok (.iconst 2, 1) := by decide +kernel
theorem dX9_times_2 : decode cX9_times 2 = .ok (.if_icmp .ge 7, 3) := by decide +kernel
theorem dX9_times_5 : decode cX9_times 5 = .ok (.iconst 1, 1) := by decide +kernel
theorem dX9_times_6 : decode cX9_times 6 = .ok (.goto 11, 3) := by decide +kernel
theorem dX9_times_9 : decode cX9_times 9 = .ok (.iload_n 0, 1) := by decide +kernel
theorem dX9_times_10 : decode cX9_times 10 = .ok (.iload_n 0, 1) := by decide +kernel
theorem dX9_times_11 : decode cX9_times 11 = .ok (.iconst 1, 1) := by decide +kernel
theorem dX9_times_12 : decode cX9_times 12 = .ok (.isub, 1) := by decide +kernel
theorem dX9_times_13 : decode cX9_times 13 = .ok (.invokestatic 357, 3) := by decide +kernel
theorem dX9_times_16 : decode cX9_times 16 = .ok (.imul, 1) := by decide +kernel
theorem dX9_times_17 : decode cX9_times 17 = .ok (.ireturn, 1) := by decide +kernel
theorem dX9_uncle_0 : decode cX9_uncle 0 = .ok (.aload_n 0, 1) := by decide +kernel
theorem dX9_uncle_1 : decode cX9_uncle 1 = .ok (.iconst 0, 1) := by decide +kernel
theorem dX9_uncle_2 : decode cX9_uncle 2 = .ok (.putfield 83, 3) := by decide +kernel
theorem dX9_uncle_5 : decode cX9_uncle 5 = .ok (.aload_n 0, 1) := by decide +kernel
theorem dX9_uncle_6 : decode cX9_uncle 6 = .ok (.invokevirtual 435, 3) := by decide +kernel
theorem dX9_uncle_9 : decode cX9_uncle 9 = .ok (.aload_n 0, 1) := by decide +kernel
theorem dX9_uncle_10 : decode cX9_uncle 10 = .ok (.getfield 429, 3) := by decide +kernel
theorem dX9_uncle_13 : decode cX9_uncle 13 = .ok (.ireturn, 1) := by decide +kernel
theorem dX9_uncut_0 : decode cX9_uncut 0 = .ok (.aload_n 0, 1) := by decide +kernel
theorem dX9_uncut_1 : decode cX9_uncut 1 = .ok (.iconst 0, 1) := by decide +kernel
theorem dX9_uncut_2 : decode cX9_uncut 2 = .ok (.putfield 83, 3) := by decide +kernel
theorem dX9_uncut_5 : decode cX9_uncut 5 = .ok (.aload_n 0, 1) := by decide +kernel
theorem dX9_uncut_6 : decode cX9_uncut 6 = .ok (.invokevirtual 248, 3) := by decide +kernel
theorem dX9_uncut_9 : decode cX9_uncut 9 = .ok (.ifCond .ne 6, 3) := by decide +kernel
theorem dX9_uncut_12 : decode cX9_uncut 12 = .ok (.bipush (-2), 2) := by decide +kernel
theorem dX9_uncut_14 : decode cX9_uncut 14 = .ok (.ireturn, 1) := by decide +kernel
theorem dX9_uncut_15 : decode cX9_uncut 15 = .ok (.aload_n 0, 1) := by decide +kernel
theorem dX9_uncut_16 : decode cX9_uncut 16 = .ok (.invokevirtual 330, 3) := by decide +kernel
theorem dX9_uncut_19 : decode cX9_uncut 19 = .ok (.aload_n 0, 1) := by decide +kernel
theorem dX9_uncut_20 : decode cX9_uncut 20 = .ok (.invokevirtual 345, 3) := by decide +kernel
theorem dX9_uncut_23 : decode cX9_uncut 23 = .ok (.aload_n 0, 1) := by decide +kernel
theorem dX9_uncut_24 : decode cX9_uncut 24 = .ok (.getfield 62, 3) := by decide +kernel
theorem dX9_uncut_27 : decode cX9_uncut 27 = .ok (.aload_n 0, 1) := by decide +kernel
theorem dX9_uncut_28 : decode cX9_uncut 28 = .ok (.invokevirtual 251, 3) := by decide +kernel
theorem dX9_uncut_31 : decode cX9_uncut 31 = .ok (.iaload, 1) := by decide +kernel
theorem dX9_uncut_32 : decode cX9_uncut 32 = .ok (.iconst (-1), 1) := by decide +kernel
theorem dX9_uncut_33 : decode cX9_uncut 33 = .ok (.ixor, 1) := by decide +kernel
theorem dX9_uncut_34 : decode cX9_uncut 34 = .ok (.iand, 1) := by decide +kernel
theorem dX9_uncut_35 : decode cX9_uncut 35 = .ok (.ireturn, 1) := by decide +kernel
theorem dX9_undo_0 : decode cX9_undo 0 = .ok (.aload_n 0, 1) := by decide +kernel
theorem dX9_undo_1 : decode cX9_undo 1 = .ok (.iconst 0, 1) := by decide +kernel
theorem dX9_undo_2 : decode cX9_undo 2 = .ok (.putfield 83, 3) := by decide +kernel
theorem dX9_undo_5 : decode cX9_undo 5 = .ok (.aload_n 0, 1) := by decide +kernel
theorem dX9_undo_6 : decode cX9_undo 6 = .ok (.invokevirtual 248, 3) := by decide +kernel
theorem dX9_undo_9 : decode cX9_undo 9 = .ok (.ifCond .ne 6, 3) := by decide +kernel
theorem dX9_undo_12 : decode cX9_undo 12 = .ok (.bipush (-2), 2) := by decide +kernel
theorem dX9_undo_14 : decode cX9_undo 14 = .ok (.ireturn, 1) := by decide +kernel
theorem dX9_undo_15 : decode cX9_undo 15 = .ok (.aload_n 0, 1) := by decide +kernel
theorem dX9_undo_16 : decode cX9_undo 16 = .ok (.getfield 34, 3) := by decide +kernel
theorem dX9_undo_19 : decode cX9_undo 19 = .ok (.bipush 6, 2) := by decide +kernel
theorem dX9_undo_21 : decode cX9_undo 21 = .ok (.iaload, 1) := by decide +kernel
theorem dX9_undo_22 : decode cX9_undo 22 = .ok (.ifCond .ne 6, 3) := by decide +kernel
theorem dX9_undo_25 : decode cX9_undo 25 = .ok (.bipush (-5), 2) := by decide +kernel
theorem dX9_undo_27 : decode cX9_undo 27 = .ok (.ireturn, 1) := by decide +kernel
theorem dX9_undo_28 : decode cX9_undo 28 = .ok (.aload_n 0, 1) := by decide +kernel
theorem dX9_undo_29 : decode cX9_undo 29 = .ok (.getfield 34, 3) := by decide +kernel
theorem dX9_undo_32 : decode cX9_undo 32 = .ok (.bipush 6, 2) := by decide +kernel
theorem dX9_undo_34 : decode cX9_undo 34 = .ok (.dup2, 1) := by decide +kernel
theorem dX9_undo_35 : decode cX9_undo 35 = .ok (.iaload, 1) := by decide +kernel
theorem dX9_undo_36 : decode cX9_undo 36 = .ok (.iconst 1, 1) := by decide +kernel
theorem dX9_undo_37 : decode cX9_undo 37 = .ok (.isub, 1) := by decide +kernel
theorem dX9_undo_38 : decode cX9_undo 38 = .ok (.iastore, 1) := by decide +kernel
theorem dX9_undo_39 : decode cX9_undo 39 = .ok (.aload_n 0, 1) := by decide +kernel
theorem dX9_undo_40 : decode cX9_undo 40 = .ok (.getfield 34, 3) := by decide +kernel
theorem dX9_undo_43 : decode cX9_undo 43 = .ok (.bipush 6, 2) := by decide +kernel
theorem dX9_undo_45 : decode cX9_undo 45 = .ok (.iaload, 1) := by decide +kernel
theorem dX9_undo_46 : decode cX9_undo 46 = .ok (.ireturn, 1) := by decide +kernel
theorem dX9_waits_0 : decode cX9_waits 0 = .ok (.aload_n 0, 1) := by decide +kernel
theorem dX9_waits_1 : decode cX9_waits 1 = .ok (.iconst 0, 1) := by decide +kernel
theorem dX9_waits_2 : decode cX9_waits 2 = .ok (.putfield 83, 3) := by decide +kernel
theorem dX9_waits_5 : decode cX9_waits 5 = .ok (.aload_n 0, 1) := by decide +kernel
theorem dX9_waits_6 : decode cX9_waits 6 = .ok (.iload_n 1, 1) := by decide +kernel
theorem dX9_waits_7 : decode cX9_waits 7 = .ok (.i2l, 1) := by decide +kernel
theorem dX9_waits_8 : decode cX9_waits 8 = .ok (.invokevirtual 257, 3) := by decide +kernel
theorem dX9_waits_11 : decode cX9_waits 11 = .ok (.ifCond .ne 6, 3) := by decide +kernel
theorem dX9_waits_14 : decode cX9_waits 14 = .ok (.bipush (-2), 2) := by decide +kernel
theorem dX9_waits_16 : decode cX9_waits 16 = .ok (.ireturn, 1) := by decide +kernel
theorem dX9_waits_17 : decode cX9_waits 17 = .ok (.aload_n 0, 1) := by decide +kernel
theorem dX9_waits_18 : decode cX9_waits 18 = .ok (.invokevirtual 330, 3) := by decide +kernel
theorem dX9_waits_21 : decode cX9_waits 21 = .ok (.iconst 0, 1) := by decide +kernel
theorem dX9_waits_22 : decode cX9_waits 22 = .ok (.istore_n 2, 1) := by decide +kernel
theorem dX9_waits_23 : decode cX9_waits 23 = .ok (.iconst 0, 1) := by decide +kernel
theorem dX9_waits_24 : decode cX9_waits 24 = .ok (.istore_n 3, 1) := by decide +kernel
theorem dX9_waits_25 : decode cX9_waits 25 = .ok (.iload_n 3, 1) := by decide +kernel
theorem dX9_waits_26 : decode cX9_waits 26 = .ok (.aload_n 0, 1) := by decide +kernel
theorem dX9_waits_27 : decode cX9_waits 27 = .ok (.invokevirtual 245, 3) := by decide +kernel
theorem dX9_waits_30 : decode cX9_waits 30 = .ok (.if_icmp .ge 22, 3) := by decide +kernel
theorem dX9_waits_33 : decode cX9_waits 33 = .ok (.iload_n 2, 1) := by decide +kernel
theorem dX9_waits_34 : decode cX9_waits 34 = .ok (.iconst 0, 1) := by decide +kernel
theorem dX9_waits_35 : decode cX9_waits 35 = .ok (.aload_n 0, 1) := by decide +kernel
theorem dX9_waits_36 : decode cX9_waits 36 = .ok (.iload_n 3, 1) := by decide +kernel
theorem dX9_waits_37 : decode cX9_waits 37 = .ok (.iload_n 1, 1) := by decide +kernel
theorem dX9_waits_38 : decode cX9_waits 38 = .ok (.invokevirtual 342, 3) := by decide +kernel
theorem dX9_waits_41 : decode cX9_waits 41 = .ok (.invokestatic 279, 3) := by decide +kernel
theorem dX9_waits_44 : decode cX9_waits 44 = .ok (.iadd, 1) := by decide +kernel
theorem dX9_waits_45 : decode cX9_waits 45 = .ok (.istore_n 2, 1) := by decide +kernel
theorem dX9_waits_46 : decode cX9_waits 46 = .ok (.iinc 3 1, 3) := by decide +kernel
theorem dX9_waits_49 : decode cX9_waits 49 = .ok (.goto (-24), 3) := by decide +kernel
theorem dX9_waits_52 : decode cX9_waits 52 = .ok (.iload_n 2, 1) := by decide +kernel
theorem dX9_waits_53 : decode cX9_waits 53 = .ok (.ireturn, 1) := by decide +kernel
theorem dX9_weightOf_0 : decode cX9_weightOf 0 = .ok (.aload_n 0, 1) := by decide +kernel
theorem dX9_weightOf_1 : decode cX9_weightOf 1 = .ok (.invokevirtual 319, 3) := by decide +kernel
theorem dX9_weightOf_4 : decode cX9_weightOf 4 = .ok (.lconst 0, 1) := by decide +kernel
theorem dX9_weightOf_5 : decode cX9_weightOf 5 = .ok (.lstore_n 2, 1) := by decide +kernel
theorem dX9_weightOf_6 : decode cX9_weightOf 6 = .ok (.aload_n 0, 1) := by decide +kernel
theorem dX9_weightOf_7 : decode cX9_weightOf 7 = .ok (.getfield 34, 3) := by decide +kernel
theorem dX9_weightOf_10 : decode cX9_weightOf 10 = .ok (.iconst 5, 1) := by decide +kernel
theorem dX9_weightOf_11 : decode cX9_weightOf 11 = .ok (.iaload, 1) := by decide +kernel
theorem dX9_weightOf_12 : decode cX9_weightOf 12 = .ok (.istore 4, 2) := by decide +kernel
theorem dX9_weightOf_14 : decode cX9_weightOf 14 = .ok (.iconst 0, 1) := by decide +kernel
theorem dX9_weightOf_15 : decode cX9_weightOf 15 = .ok (.istore 5, 2) := by decide +kernel
theorem dX9_weightOf_17 : decode cX9_weightOf 17 = .ok (.iload 5, 2) := by decide +kernel
theorem dX9_weightOf_19 : decode cX9_weightOf 19 = .ok (.iconst 1, 1) := by decide +kernel
theorem dX9_weightOf_20 : decode cX9_weightOf 20 = .ok (.iload 4, 2) := by decide +kernel
theorem dX9_weightOf_22 : decode cX9_weightOf 22 = .ok (.ishl, 1) := by decide +kernel
theorem dX9_weightOf_23 : decode cX9_weightOf 23 = .ok (.if_icmp .ge 91, 3) := by decide +kernel
theorem dX9_weightOf_26 : decode cX9_weightOf 26 = .ok (.aload_n 0, 1) := by decide +kernel
theorem dX9_weightOf_27 : decode cX9_weightOf 27 = .ok (.iload 5, 2) := by decide +kernel
theorem dX9_weightOf_29 : decode cX9_weightOf 29 = .ok (.putfield 269, 3) := by decide +kernel
theorem dX9_weightOf_32 : decode cX9_weightOf 32 = .ok (.aload_n 0, 1) := by decide +kernel
theorem dX9_weightOf_33 : decode cX9_weightOf 33 = .ok (.invokevirtual 322, 3) := by decide +kernel
theorem dX9_weightOf_36 : decode cX9_weightOf 36 = .ok (.ldc2_w 448, 3) := by decide +kernel
theorem dX9_weightOf_39 : decode cX9_weightOf 39 = .ok (.aload_n 0, 1) := by decide +kernel
theorem dX9_weightOf_40 : decode cX9_weightOf 40 = .ok (.getfield 34, 3) := by decide +kernel
theorem dX9_weightOf_43 : decode cX9_weightOf 43 = .ok (.iconst 2, 1) := by decide +kernel
theorem dX9_weightOf_44 : decode cX9_weightOf 44 = .ok (.iaload, 1) := by decide +kernel
theorem dX9_weightOf_45 : decode cX9_weightOf 45 = .ok (.i2l, 1) := by decide +kernel
theorem dX9_weightOf_46 : decode cX9_weightOf 46 = .ok (.lsub, 1) := by decide +kernel
theorem dX9_weightOf_47 : decode cX9_weightOf 47 = .ok (.iload 5, 2) := by decide +kernel
theorem dX9_weightOf_49 : decode cX9_weightOf 49 = .ok (.invokestatic 295, 3) := by decide +kernel
theorem dX9_weightOf_52 : decode cX9_weightOf 52 = .ok (.invokestatic 445, 3) := by decide +kernel
theorem dX9_weightOf_55 : decode cX9_weightOf 55 = .ok (.aload_n 0, 1) := by decide +kernel
theorem dX9_weightOf_56 : decode cX9_weightOf 56 = .ok (.getfield 34, 3) := by decide +kernel
theorem dX9_weightOf_59 : decode cX9_weightOf 59 = .ok (.iconst 2, 1) := by decide +kernel
theorem dX9_weightOf_60 : decode cX9_weightOf 60 = .ok (.iaload, 1) := by decide +kernel
theorem dX9_weightOf_61 : decode cX9_weightOf 61 = .ok (.i2l, 1) := by decide +kernel
theorem dX9_weightOf_62 : decode cX9_weightOf 62 = .ok (.iload 4, 2) := by decide +kernel
theorem dX9_weightOf_64 : decode cX9_weightOf 64 = .ok (.iload 5, 2) := by decide +kernel
theorem dX9_weightOf_66 : decode cX9_weightOf 66 = .ok (.invokestatic 295, 3) := by decide +kernel
theorem dX9_weightOf_69 : decode cX9_weightOf 69 = .ok (.isub, 1) := by decide +kernel
theorem dX9_weightOf_70 : decode cX9_weightOf 70 = .ok (.invokestatic 445, 3) := by decide +kernel
theorem dX9_weightOf_73 : decode cX9_weightOf 73 = .ok (.lmul, 1) := by decide +kernel
theorem dX9_weightOf_74 : decode cX9_weightOf 74 = .ok (.lstore 6, 2) := by decide +kernel
theorem dX9_weightOf_76 : decode cX9_weightOf 76 = .ok (.lload_n 2, 1) := by decide +kernel
theorem dX9_weightOf_77 : decode cX9_weightOf 77 = .ok (.lload 6, 2) := by decide +kernel
theorem dX9_weightOf_79 : decode cX9_weightOf 79 = .ok (.iload_n 1, 1) := by decide +kernel
theorem dX9_weightOf_80 : decode cX9_weightOf 80 = .ok (.iconst (-1), 1) := by decide +kernel
theorem dX9_weightOf_81 : decode cX9_weightOf 81 = .ok (.if_icmp .ne 10, 3) := by decide +kernel
theorem dX9_weightOf_84 : decode cX9_weightOf 84 = .ok (.aload_n 0, 1) := by decide +kernel
theorem dX9_weightOf_85 : decode cX9_weightOf 85 = .ok (.invokevirtual 339, 3) := by decide +kernel
theorem dX9_weightOf_88 : decode cX9_weightOf 88 = .ok (.goto 16, 3) := by decide +kernel
theorem dX9_weightOf_91 : decode cX9_weightOf 91 = .ok (.aload_n 0, 1) := by decide +kernel
theorem dX9_weightOf_92 : decode cX9_weightOf 92 = .ok (.getfield 62, 3) := by decide +kernel
theorem dX9_weightOf_95 : decode cX9_weightOf 95 = .ok (.aload_n 0, 1) := by decide +kernel
theorem dX9_weightOf_96 : decode cX9_weightOf 96 = .ok (.invokevirtual 251, 3) := by decide +kernel
theorem dX9_weightOf_99 : decode cX9_weightOf 99 = .ok (.iaload, 1) := by decide +kernel
theorem dX9_weightOf_100 : decode cX9_weightOf 100 = .ok (.iload_n 1, 1) := by decide +kernel
theorem dX9_weightOf_101 : decode cX9_weightOf 101 = .ok (.ishr, 1) := by decide +kernel
theorem dX9_weightOf_102 : decode cX9_weightOf 102 = .ok (.iconst 1, 1) := by decide +kernel
theorem dX9_weightOf_103 : decode cX9_weightOf 103 = .ok (.iand, 1) := by decide +kernel
theorem dX9_weightOf_104 : decode cX9_weightOf 104 = .ok (.i2l, 1) := by decide +kernel
theorem dX9_weightOf_105 : decode cX9_weightOf 105 = .ok (.lmul, 1) := by decide +kernel
theorem dX9_weightOf_106 : decode cX9_weightOf 106 = .ok (.ladd, 1) := by decide +kernel
theorem dX9_weightOf_107 : decode cX9_weightOf 107 = .ok (.lstore_n 2, 1) := by decide +kernel
theorem dX9_weightOf_108 : decode cX9_weightOf 108 = .ok (.iinc 5 1, 3) := by decide +kernel
theorem dX9_weightOf_111 : decode cX9_weightOf 111 = .ok (.goto (-94), 3) := by decide +kernel
theorem dX9_weightOf_114 : decode cX9_weightOf 114 = .ok (.lload_n 2, 1) := by decide +kernel
theorem dX9_weightOf_115 : decode cX9_weightOf 115 = .ok (.lreturn, 1) := by decide +kernel
theorem dX9_when_0 : decode cX9_when 0 = .ok (.aload_n 0, 1) := by decide +kernel
theorem dX9_when_1 : decode cX9_when 1 = .ok (.iconst 0, 1) := by decide +kernel
theorem dX9_when_2 : decode cX9_when 2 = .ok (.putfield 83, 3) := by decide +kernel
theorem dX9_when_5 : decode cX9_when 5 = .ok (.aload_n 0, 1) := by decide +kernel
theorem dX9_when_6 : decode cX9_when 6 = .ok (.iload_n 1, 1) := by decide +kernel
theorem dX9_when_7 : decode cX9_when 7 = .ok (.i2l, 1) := by decide +kernel
theorem dX9_when_8 : decode cX9_when 8 = .ok (.invokevirtual 254, 3) := by decide +kernel
theorem dX9_when_11 : decode cX9_when 11 = .ok (.ifCond .ne 6, 3) := by decide +kernel
theorem dX9_when_14 : decode cX9_when 14 = .ok (.bipush (-2), 2) := by decide +kernel
theorem dX9_when_16 : decode cX9_when 16 = .ok (.ireturn, 1) := by decide +kernel
theorem dX9_when_17 : decode cX9_when 17 = .ok (.aload_n 0, 1) := by decide +kernel
theorem dX9_when_18 : decode cX9_when 18 = .ok (.invokevirtual 330, 3) := by decide +kernel
theorem dX9_when_21 : decode cX9_when 21 = .ok (.aload_n 0, 1) := by decide +kernel
theorem dX9_when_22 : decode cX9_when 22 = .ok (.getfield 65, 3) := by decide +kernel
theorem dX9_when_25 : decode cX9_when 25 = .ok (.iload_n 1, 1) := by decide +kernel
theorem dX9_when_26 : decode cX9_when 26 = .ok (.iaload, 1) := by decide +kernel
theorem dX9_when_27 : decode cX9_when 27 = .ok (.ireturn, 1) := by decide +kernel
theorem dX9_whyNot_0 : decode cX9_whyNot 0 = .ok (.iload_n 1, 1) := by decide +kernel
theorem dX9_whyNot_1 : decode cX9_whyNot 1 = .ok (.invokestatic 92, 3) := by decide +kernel
theorem dX9_whyNot_4 : decode cX9_whyNot 4 = .ok (.ifCond .eq 14, 3) := by decide +kernel
theorem dX9_whyNot_7 : decode cX9_whyNot 7 = .ok (.aload_n 0, 1) := by decide +kernel
theorem dX9_whyNot_8 : decode cX9_whyNot 8 = .ok (.invokevirtual 248, 3) := by decide +kernel
theorem dX9_whyNot_11 : decode cX9_whyNot 11 = .ok (.ifCond .eq 7, 3) := by decide +kernel
theorem dX9_whyNot_14 : decode cX9_whyNot 14 = .ok (.iload_n 2, 1) := by decide +kernel
theorem dX9_whyNot_15 : decode cX9_whyNot 15 = .ok (.ifCond .ne 6, 3) := by decide +kernel
theorem dX9_whyNot_18 : decode cX9_whyNot 18 = .ok (.bipush (-2), 2) := by decide +kernel
theorem dX9_whyNot_20 : decode cX9_whyNot 20 = .ok (.ireturn, 1) := by decide +kernel
theorem dX9_whyNot_21 : decode cX9_whyNot 21 = .ok (.aload_n 0, 1) := by decide +kernel
theorem dX9_whyNot_22 : decode cX9_whyNot 22 = .ok (.getfield 7, 3) := by decide +kernel
theorem dX9_whyNot_25 : decode cX9_whyNot 25 = .ok (.iload_n 1, 1) := by decide +kernel
theorem dX9_whyNot_26 : decode cX9_whyNot 26 = .ok (.iaload, 1) := by decide +kernel
theorem dX9_whyNot_27 : decode cX9_whyNot 27 = .ok (.iconst (-1), 1) := by decide +kernel
theorem dX9_whyNot_28 : decode cX9_whyNot 28 = .ok (.if_icmp .ne 6, 3) := by decide +kernel
theorem dX9_whyNot_31 : decode cX9_whyNot 31 = .ok (.bipush (-6), 2) := by decide +kernel
theorem dX9_whyNot_33 : decode cX9_whyNot 33 = .ok (.ireturn, 1) := by decide +kernel
theorem dX9_whyNot_34 : decode cX9_whyNot 34 = .ok (.aload_n 0, 1) := by decide +kernel
theorem dX9_whyNot_35 : decode cX9_whyNot 35 = .ok (.getfield 13, 3) := by decide +kernel
theorem dX9_whyNot_38 : decode cX9_whyNot 38 = .ok (.iload_n 1, 1) := by decide +kernel
theorem dX9_whyNot_39 : decode cX9_whyNot 39 = .ok (.iaload, 1) := by decide +kernel
theorem dX9_whyNot_40 : decode cX9_whyNot 40 = .ok (.iconst 3, 1) := by decide +kernel
theorem dX9_whyNot_41 : decode cX9_whyNot 41 = .ok (.irem, 1) := by decide +kernel
theorem dX9_whyNot_42 : decode cX9_whyNot 42 = .ok (.ifCond .eq 6, 3) := by decide +kernel
theorem dX9_whyNot_45 : decode cX9_whyNot 45 = .ok (.bipush (-2), 2) := by decide +kernel
theorem dX9_whyNot_47 : decode cX9_whyNot 47 = .ok (.ireturn, 1) := by decide +kernel
theorem dX9_whyNot_48 : decode cX9_whyNot 48 = .ok (.iconst 0, 1) := by decide +kernel
theorem dX9_whyNot_49 : decode cX9_whyNot 49 = .ok (.istore_n 3, 1) := by decide +kernel
theorem dX9_whyNot_50 : decode cX9_whyNot 50 = .ok (.iload_n 3, 1) := by decide +kernel
theorem dX9_whyNot_51 : decode cX9_whyNot 51 = .ok (.aload_n 0, 1) := by decide +kernel
theorem dX9_whyNot_52 : decode cX9_whyNot 52 = .ok (.getfield 13, 3) := by decide +kernel
theorem dX9_whyNot_55 : decode cX9_whyNot 55 = .ok (.iload_n 1, 1) := by decide +kernel
theorem dX9_whyNot_56 : decode cX9_whyNot 56 = .ok (.iaload, 1) := by decide +kernel
theorem dX9_whyNot_57 : decode cX9_whyNot 57 = .ok (.if_icmp .ge 69, 3) := by decide +kernel
theorem dX9_whyNot_60 : decode cX9_whyNot 60 = .ok (.bipush 60, 2) := by decide +kernel
theorem dX9_whyNot_62 : decode cX9_whyNot 62 = .ok (.iload_n 1, 1) := by decide +kernel
theorem dX9_whyNot_63 : decode cX9_whyNot 63 = .ok (.imul, 1) := by decide +kernel
theorem dX9_whyNot_64 : decode cX9_whyNot 64 = .ok (.iload_n 3, 1) := by decide +kernel
theorem dX9_whyNot_65 : decode cX9_whyNot 65 = .ok (.iadd, 1) := by decide +kernel
theorem dX9_whyNot_66 : decode cX9_whyNot 66 = .ok (.istore 4, 2) := by decide +kernel
theorem dX9_whyNot_68 : decode cX9_whyNot 68 = .ok (.aload_n 0, 1) := by decide +kernel
theorem dX9_whyNot_69 : decode cX9_whyNot 69 = .ok (.aload_n 0, 1) := by decide +kernel
theorem dX9_whyNot_70 : decode cX9_whyNot 70 = .ok (.getfield 16, 3) := by decide +kernel
theorem dX9_whyNot_73 : decode cX9_whyNot 73 = .ok (.iload 4, 2) := by decide +kernel
theorem dX9_whyNot_75 : decode cX9_whyNot 75 = .ok (.laload, 1) := by decide +kernel
theorem dX9_whyNot_76 : decode cX9_whyNot 76 = .ok (.invokevirtual 254, 3) := by decide +kernel
theorem dX9_whyNot_79 : decode cX9_whyNot 79 = .ok (.ifCond .eq 38, 3) := by decide +kernel
theorem dX9_whyNot_82 : decode cX9_whyNot 82 = .ok (.aload_n 0, 1) := by decide +kernel
theorem dX9_whyNot_83 : decode cX9_whyNot 83 = .ok (.aload_n 0, 1) := by decide +kernel
theorem dX9_whyNot_84 : decode cX9_whyNot 84 = .ok (.getfield 16, 3) := by decide +kernel
theorem dX9_whyNot_87 : decode cX9_whyNot 87 = .ok (.iload 4, 2) := by decide +kernel
theorem dX9_whyNot_89 : decode cX9_whyNot 89 = .ok (.iconst 1, 1) := by decide +kernel
theorem dX9_whyNot_90 : decode cX9_whyNot 90 = .ok (.iadd, 1) := by decide +kernel
theorem dX9_whyNot_91 : decode cX9_whyNot 91 = .ok (.laload, 1) := by decide +kernel
theorem dX9_whyNot_92 : decode cX9_whyNot 92 = .ok (.invokevirtual 257, 3) := by decide +kernel
theorem dX9_whyNot_95 : decode cX9_whyNot 95 = .ok (.ifCond .eq 22, 3) := by decide +kernel
theorem dX9_whyNot_98 : decode cX9_whyNot 98 = .ok (.aload_n 0, 1) := by decide +kernel
theorem dX9_whyNot_99 : decode cX9_whyNot 99 = .ok (.getfield 16, 3) := by decide +kernel
theorem dX9_whyNot_102 : decode cX9_whyNot 102 = .ok (.iload 4, 2) := by decide +kernel
theorem dX9_whyNot_104 : decode cX9_whyNot 104 = .ok (.iconst 2, 1) := by decide +kernel
theorem dX9_whyNot_105 : decode cX9_whyNot 105 = .ok (.iadd, 1) := by decide +kernel
theorem dX9_whyNot_106 : decode cX9_whyNot 106 = .ok (.laload, 1) := by decide +kernel
theorem dX9_whyNot_107 : decode cX9_whyNot 107 = .ok (.lconst 0, 1) := by decide +kernel
theorem dX9_whyNot_108 : decode cX9_whyNot 108 = .ok (.ldc2_w 390, 3) := by decide +kernel
theorem dX9_whyNot_111 : decode cX9_whyNot 111 = .ok (.invokestatic 88, 3) := by decide +kernel
theorem dX9_whyNot_114 : decode cX9_whyNot 114 = .ok (.ifCond .ne 6, 3) := by decide +kernel
theorem dX9_whyNot_117 : decode cX9_whyNot 117 = .ok (.bipush (-2), 2) := by decide +kernel
theorem dX9_whyNot_119 : decode cX9_whyNot 119 = .ok (.ireturn, 1) := by decide +kernel
theorem dX9_whyNot_120 : decode cX9_whyNot 120 = .ok (.iinc 3 3, 3) := by decide +kernel
theorem dX9_whyNot_123 : decode cX9_whyNot 123 = .ok (.goto (-73), 3) := by decide +kernel
theorem dX9_whyNot_126 : decode cX9_whyNot 126 = .ok (.iconst 0, 1) := by decide +kernel
theorem dX9_whyNot_127 : decode cX9_whyNot 127 = .ok (.ireturn, 1) := by decide +kernel
theorem dX9_with_0 : decode cX9_with 0 = .ok (.aload_n 0, 1) := by decide +kernel
theorem dX9_with_1 : decode cX9_with 1 = .ok (.iconst 0, 1) := by decide +kernel
theorem dX9_with_2 : decode cX9_with 2 = .ok (.putfield 83, 3) := by decide +kernel
theorem dX9_with_5 : decode cX9_with 5 = .ok (.aload_n 0, 1) := by decide +kernel
theorem dX9_with_6 : decode cX9_with 6 = .ok (.iload_n 1, 1) := by decide +kernel
theorem dX9_with_7 : decode cX9_with 7 = .ok (.i2l, 1) := by decide +kernel
theorem dX9_with_8 : decode cX9_with 8 = .ok (.invokevirtual 254, 3) := by decide +kernel
theorem dX9_with_11 : decode cX9_with 11 = .ok (.ifCond .ne 6, 3) := by decide +kernel
theorem dX9_with_14 : decode cX9_with 14 = .ok (.bipush (-2), 2) := by decide +kernel
theorem dX9_with_16 : decode cX9_with 16 = .ok (.ireturn, 1) := by decide +kernel
theorem dX9_with_17 : decode cX9_with 17 = .ok (.aload_n 0, 1) := by decide +kernel
theorem dX9_with_18 : decode cX9_with 18 = .ok (.invokevirtual 330, 3) := by decide +kernel
theorem dX9_with_21 : decode cX9_with 21 = .ok (.iconst 0, 1) := by decide +kernel
theorem dX9_with_22 : decode cX9_with 22 = .ok (.istore_n 2, 1) := by decide +kernel
theorem dX9_with_23 : decode cX9_with 23 = .ok (.iconst 0, 1) := by decide +kernel
theorem dX9_with_24 : decode cX9_with 24 = .ok (.istore_n 3, 1) := by decide +kernel
theorem dX9_with_25 : decode cX9_with 25 = .ok (.iload_n 3, 1) := by decide +kernel
theorem dX9_with_26 : decode cX9_with 26 = .ok (.aload_n 0, 1) := by decide +kernel
theorem dX9_with_27 : decode cX9_with 27 = .ok (.invokevirtual 245, 3) := by decide +kernel
theorem dX9_with_30 : decode cX9_with 30 = .ok (.if_icmp .ge 54, 3) := by decide +kernel
theorem dX9_with_33 : decode cX9_with 33 = .ok (.iload_n 2, 1) := by decide +kernel
theorem dX9_with_34 : decode cX9_with 34 = .ok (.aload_n 0, 1) := by decide +kernel
theorem dX9_with_35 : decode cX9_with 35 = .ok (.getfield 65, 3) := by decide +kernel
theorem dX9_with_38 : decode cX9_with 38 = .ok (.iload_n 1, 1) := by decide +kernel
theorem dX9_with_39 : decode cX9_with 39 = .ok (.iaload, 1) := by decide +kernel
theorem dX9_with_40 : decode cX9_with 40 = .ok (.iconst (-1), 1) := by decide +kernel
theorem dX9_with_41 : decode cX9_with 41 = .ok (.if_icmp .eq 34, 3) := by decide +kernel
theorem dX9_with_44 : decode cX9_with 44 = .ok (.aload_n 0, 1) := by decide +kernel
theorem dX9_with_45 : decode cX9_with 45 = .ok (.getfield 65, 3) := by decide +kernel
theorem dX9_with_48 : decode cX9_with 48 = .ok (.iload_n 3, 1) := by decide +kernel
theorem dX9_with_49 : decode cX9_with 49 = .ok (.iaload, 1) := by decide +kernel
theorem dX9_with_50 : decode cX9_with 50 = .ok (.aload_n 0, 1) := by decide +kernel
theorem dX9_with_51 : decode cX9_with 51 = .ok (.getfield 65, 3) := by decide +kernel
theorem dX9_with_54 : decode cX9_with 54 = .ok (.iload_n 1, 1) := by decide +kernel
theorem dX9_with_55 : decode cX9_with 55 = .ok (.iaload, 1) := by decide +kernel
theorem dX9_with_56 : decode cX9_with 56 = .ok (.if_icmp .ne 19, 3) := by decide +kernel
theorem dX9_with_59 : decode cX9_with 59 = .ok (.aload_n 0, 1) := by decide +kernel
theorem dX9_with_60 : decode cX9_with 60 = .ok (.getfield 68, 3) := by decide +kernel
theorem dX9_with_63 : decode cX9_with 63 = .ok (.iload_n 3, 1) := by decide +kernel
theorem dX9_with_64 : decode cX9_with 64 = .ok (.iaload, 1) := by decide +kernel
theorem dX9_with_65 : decode cX9_with 65 = .ok (.iconst 2, 1) := by decide +kernel
theorem dX9_with_66 : decode cX9_with 66 = .ok (.if_icmp .ne 9, 3) := by decide +kernel
theorem dX9_with_69 : decode cX9_with 69 = .ok (.iconst 1, 1) := by decide +kernel
theorem dX9_with_70 : decode cX9_with 70 = .ok (.iload_n 3, 1) := by decide +kernel
theorem dX9_with_71 : decode cX9_with 71 = .ok (.ishl, 1) := by decide +kernel
theorem dX9_with_72 : decode cX9_with 72 = .ok (.goto 4, 3) := by decide +kernel
theorem dX9_with_75 : decode cX9_with 75 = .ok (.iconst 0, 1) := by decide +kernel
theorem dX9_with_76 : decode cX9_with 76 = .ok (.ior, 1) := by decide +kernel
theorem dX9_with_77 : decode cX9_with 77 = .ok (.istore_n 2, 1) := by decide +kernel
theorem dX9_with_78 : decode cX9_with 78 = .ok (.iinc 3 1, 3) := by decide +kernel
theorem dX9_with_81 : decode cX9_with 81 = .ok (.goto (-56), 3) := by decide +kernel
theorem dX9_with_84 : decode cX9_with 84 = .ok (.iload_n 2, 1) := by decide +kernel
theorem dX9_with_85 : decode cX9_with 85 = .ok (.ireturn, 1) := by decide +kernel
theorem dX9_worth_0 : decode cX9_worth 0 = .ok (.aload_n 0, 1) := by decide +kernel
theorem dX9_worth_1 : decode cX9_worth 1 = .ok (.iconst 0, 1) := by decide +kernel
theorem dX9_worth_2 : decode cX9_worth 2 = .ok (.putfield 83, 3) := by decide +kernel
theorem dX9_worth_5 : decode cX9_worth 5 = .ok (.aload_n 0, 1) := by decide +kernel
theorem dX9_worth_6 : decode cX9_worth 6 = .ok (.invokevirtual 248, 3) := by decide +kernel
theorem dX9_worth_9 : decode cX9_worth 9 = .ok (.ifCond .eq 25, 3) := by decide +kernel
theorem dX9_worth_12 : decode cX9_worth 12 = .ok (.iload_n 1, 1) := by decide +kernel
theorem dX9_worth_13 : decode cX9_worth 13 = .ok (.i2l, 1) := by decide +kernel
theorem dX9_worth_14 : decode cX9_worth 14 = .ok (.lconst 0, 1) := by decide +kernel
theorem dX9_worth_15 : decode cX9_worth 15 = .ok (.aload_n 0, 1) := by decide +kernel
theorem dX9_worth_16 : decode cX9_worth 16 = .ok (.invokevirtual 345, 3) := by decide +kernel
theorem dX9_worth_19 : decode cX9_worth 19 = .ok (.i2l, 1) := by decide +kernel
theorem dX9_worth_20 : decode cX9_worth 20 = .ok (.invokestatic 88, 3) := by decide +kernel
theorem dX9_worth_23 : decode cX9_worth 23 = .ok (.ifCond .eq 11, 3) := by decide +kernel
theorem dX9_worth_26 : decode cX9_worth 26 = .ok (.aload_n 0, 1) := by decide +kernel
theorem dX9_worth_27 : decode cX9_worth 27 = .ok (.iload_n 1, 1) := by decide +kernel
theorem dX9_worth_28 : decode cX9_worth 28 = .ok (.invokevirtual 351, 3) := by decide +kernel
theorem dX9_worth_31 : decode cX9_worth 31 = .ok (.goto 5, 3) := by decide +kernel
theorem dX9_worth_34 : decode cX9_worth 34 = .ok (.bipush (-2), 2) := by decide +kernel
theorem dX9_worth_36 : decode cX9_worth 36 = .ok (.ireturn, 1) := by decide +kernel
theorem dX9_worthOf_0 : decode cX9_worthOf 0 = .ok (.aload_n 0, 1) := by decide +kernel
theorem dX9_worthOf_1 : decode cX9_worthOf 1 = .ok (.invokevirtual 319, 3) := by decide +kernel
theorem dX9_worthOf_4 : decode cX9_worthOf 4 = .ok (.aload_n 0, 1) := by decide +kernel
theorem dX9_worthOf_5 : decode cX9_worthOf 5 = .ok (.iconst 1, 1) := by decide +kernel
theorem dX9_worthOf_6 : decode cX9_worthOf 6 = .ok (.putfield 272, 3) := by decide +kernel
theorem dX9_worthOf_9 : decode cX9_worthOf 9 = .ok (.aload_n 0, 1) := by decide +kernel
theorem dX9_worthOf_10 : decode cX9_worthOf 10 = .ok (.getfield 56, 3) := by decide +kernel
theorem dX9_worthOf_13 : decode cX9_worthOf 13 = .ok (.iconst 0, 1) := by decide +kernel
theorem dX9_worthOf_14 : decode cX9_worthOf 14 = .ok (.iload_n 1, 1) := by decide +kernel
theorem dX9_worthOf_15 : decode cX9_worthOf 15 = .ok (.iastore, 1) := by decide +kernel
theorem dX9_worthOf_16 : decode cX9_worthOf 16 = .ok (.aload_n 0, 1) := by decide +kernel
theorem dX9_worthOf_17 : decode cX9_worthOf 17 = .ok (.invokevirtual 322, 3) := by decide +kernel
theorem dX9_worthOf_20 : decode cX9_worthOf 20 = .ok (.aload_n 0, 1) := by decide +kernel
theorem dX9_worthOf_21 : decode cX9_worthOf 21 = .ok (.invokevirtual 339, 3) := by decide +kernel
theorem dX9_worthOf_24 : decode cX9_worthOf 24 = .ok (.ireturn, 1) := by decide +kernel
theorem dX9_write_0 : decode cX9_write 0 = .ok (.aload_n 0, 1) := by decide +kernel
theorem dX9_write_1 : decode cX9_write 1 = .ok (.iconst 0, 1) := by decide +kernel
theorem dX9_write_2 : decode cX9_write 2 = .ok (.putfield 83, 3) := by decide +kernel
theorem dX9_write_5 : decode cX9_write 5 = .ok (.iload_n 1, 1) := by decide +kernel
theorem dX9_write_6 : decode cX9_write 6 = .ok (.invokestatic 92, 3) := by decide +kernel
theorem dX9_write_9 : decode cX9_write 9 = .ok (.ifCond .ne 6, 3) := by decide +kernel
theorem dX9_write_12 : decode cX9_write 12 = .ok (.bipush (-2), 2) := by decide +kernel
theorem dX9_write_14 : decode cX9_write 14 = .ok (.ireturn, 1) := by decide +kernel
theorem dX9_write_15 : decode cX9_write 15 = .ok (.aload_n 0, 1) := by decide +kernel
theorem dX9_write_16 : decode cX9_write 16 = .ok (.getfield 7, 3) := by decide +kernel
theorem dX9_write_19 : decode cX9_write 19 = .ok (.iload_n 1, 1) := by decide +kernel
theorem dX9_write_20 : decode cX9_write 20 = .ok (.iaload, 1) := by decide +kernel
theorem dX9_write_21 : decode cX9_write 21 = .ok (.iconst (-1), 1) := by decide +kernel
theorem dX9_write_22 : decode cX9_write 22 = .ok (.if_icmp .ne 6, 3) := by decide +kernel
theorem dX9_write_25 : decode cX9_write 25 = .ok (.bipush (-6), 2) := by decide +kernel
theorem dX9_write_27 : decode cX9_write 27 = .ok (.ireturn, 1) := by decide +kernel
theorem dX9_write_28 : decode cX9_write 28 = .ok (.iload_n 2, 1) := by decide +kernel
theorem dX9_write_29 : decode cX9_write 29 = .ok (.i2l, 1) := by decide +kernel
theorem dX9_write_30 : decode cX9_write 30 = .ok (.lconst 0, 1) := by decide +kernel
theorem dX9_write_31 : decode cX9_write 31 = .ok (.aload_n 0, 1) := by decide +kernel
theorem dX9_write_32 : decode cX9_write 32 = .ok (.getfield 13, 3) := by decide +kernel
theorem dX9_write_35 : decode cX9_write 35 = .ok (.iload_n 1, 1) := by decide +kernel
theorem dX9_write_36 : decode cX9_write 36 = .ok (.iaload, 1) := by decide +kernel
theorem dX9_write_37 : decode cX9_write 37 = .ok (.iconst 1, 1) := by decide +kernel
theorem dX9_write_38 : decode cX9_write 38 = .ok (.isub, 1) := by decide +kernel
theorem dX9_write_39 : decode cX9_write 39 = .ok (.i2l, 1) := by decide +kernel
theorem dX9_write_40 : decode cX9_write 40 = .ok (.invokestatic 88, 3) := by decide +kernel
theorem dX9_write_43 : decode cX9_write 43 = .ok (.ifCond .ne 6, 3) := by decide +kernel
theorem dX9_write_46 : decode cX9_write 46 = .ok (.bipush (-7), 2) := by decide +kernel
theorem dX9_write_48 : decode cX9_write 48 = .ok (.ireturn, 1) := by decide +kernel
theorem dX9_write_49 : decode cX9_write 49 = .ok (.aload_n 0, 1) := by decide +kernel
theorem dX9_write_50 : decode cX9_write 50 = .ok (.getfield 16, 3) := by decide +kernel
theorem dX9_write_53 : decode cX9_write 53 = .ok (.bipush 60, 2) := by decide +kernel
theorem dX9_write_55 : decode cX9_write 55 = .ok (.iload_n 1, 1) := by decide +kernel
theorem dX9_write_56 : decode cX9_write 56 = .ok (.imul, 1) := by decide +kernel
theorem dX9_write_57 : decode cX9_write 57 = .ok (.iload_n 2, 1) := by decide +kernel
theorem dX9_write_58 : decode cX9_write 58 = .ok (.iadd, 1) := by decide +kernel
theorem dX9_write_59 : decode cX9_write 59 = .ok (.lload_n 3, 1) := by decide +kernel
theorem dX9_write_60 : decode cX9_write 60 = .ok (.aload_n 0, 1) := by decide +kernel
theorem dX9_write_61 : decode cX9_write 61 = .ok (.getfield 7, 3) := by decide +kernel
theorem dX9_write_64 : decode cX9_write 64 = .ok (.iload_n 1, 1) := by decide +kernel
theorem dX9_write_65 : decode cX9_write 65 = .ok (.iaload, 1) := by decide +kernel
theorem dX9_write_66 : decode cX9_write 66 = .ok (.invokestatic 96, 3) := by decide +kernel
theorem dX9_write_69 : decode cX9_write 69 = .ok (.lastore, 1) := by decide +kernel
theorem dX9_write_70 : decode cX9_write 70 = .ok (.iconst 0, 1) := by decide +kernel
theorem dX9_write_71 : decode cX9_write 71 = .ok (.ireturn, 1) := by decide +kernel
theorem dX9_years_0 : decode cX9_years 0 = .ok (.aload_n 0, 1) := by decide +kernel
theorem dX9_years_1 : decode cX9_years 1 = .ok (.getfield 34, 3) := by decide +kernel
theorem dX9_years_4 : decode cX9_years 4 = .ok (.iconst 0, 1) := by decide +kernel
theorem dX9_years_5 : decode cX9_years 5 = .ok (.iaload, 1) := by decide +kernel
theorem dX9_years_6 : decode cX9_years 6 = .ok (.ireturn, 1) := by decide +kernel
