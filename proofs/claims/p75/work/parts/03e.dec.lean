theorem dX9_idle_0 : decode cX9_idle 0 = .ok (.aload_n 0, 1) := by decide +kernel
theorem dX9_idle_1 : decode cX9_idle 1 = .ok (.iconst 0, 1) := by decide +kernel
theorem dX9_idle_2 : decode cX9_idle 2 = .ok (.putfield 83, 3) := by decide +kernel
theorem dX9_idle_5 : decode cX9_idle 5 = .ok (.aload_n 0, 1) := by decide +kernel
theorem dX9_idle_6 : decode cX9_idle 6 = .ok (.invokevirtual 248, 3) := by decide +kernel
theorem dX9_idle_9 : decode cX9_idle 9 = .ok (.ifCond .ne 6, 3) := by decide +kernel
theorem dX9_idle_12 : decode cX9_idle 12 = .ok (.bipush (-2), 2) := by decide +kernel
theorem dX9_idle_14 : decode cX9_idle 14 = .ok (.ireturn, 1) := by decide +kernel
theorem dX9_idle_15 : decode cX9_idle 15 = .ok (.aload_n 0, 1) := by decide +kernel
theorem dX9_idle_16 : decode cX9_idle 16 = .ok (.invokevirtual 330, 3) := by decide +kernel
theorem dX9_idle_19 : decode cX9_idle 19 = .ok (.iconst 0, 1) := by decide +kernel
theorem dX9_idle_20 : decode cX9_idle 20 = .ok (.istore_n 1, 1) := by decide +kernel
theorem dX9_idle_21 : decode cX9_idle 21 = .ok (.iconst 0, 1) := by decide +kernel
theorem dX9_idle_22 : decode cX9_idle 22 = .ok (.istore_n 2, 1) := by decide +kernel
theorem dX9_idle_23 : decode cX9_idle 23 = .ok (.iload_n 2, 1) := by decide +kernel
theorem dX9_idle_24 : decode cX9_idle 24 = .ok (.aload_n 0, 1) := by decide +kernel
theorem dX9_idle_25 : decode cX9_idle 25 = .ok (.getfield 34, 3) := by decide +kernel
theorem dX9_idle_28 : decode cX9_idle 28 = .ok (.iconst 5, 1) := by decide +kernel
theorem dX9_idle_29 : decode cX9_idle 29 = .ok (.iaload, 1) := by decide +kernel
theorem dX9_idle_30 : decode cX9_idle 30 = .ok (.if_icmp .ge 47, 3) := by decide +kernel
theorem dX9_idle_33 : decode cX9_idle 33 = .ok (.iload_n 1, 1) := by decide +kernel
theorem dX9_idle_34 : decode cX9_idle 34 = .ok (.aload_n 0, 1) := by decide +kernel
theorem dX9_idle_35 : decode cX9_idle 35 = .ok (.getfield 43, 3) := by decide +kernel
theorem dX9_idle_38 : decode cX9_idle 38 = .ok (.iconst 2, 1) := by decide +kernel
theorem dX9_idle_39 : decode cX9_idle 39 = .ok (.iload_n 2, 1) := by decide +kernel
theorem dX9_idle_40 : decode cX9_idle 40 = .ok (.imul, 1) := by decide +kernel
theorem dX9_idle_41 : decode cX9_idle 41 = .ok (.iconst 1, 1) := by decide +kernel
theorem dX9_idle_42 : decode cX9_idle 42 = .ok (.iadd, 1) := by decide +kernel
theorem dX9_idle_43 : decode cX9_idle 43 = .ok (.iaload, 1) := by decide +kernel
theorem dX9_idle_44 : decode cX9_idle 44 = .ok (.aload_n 0, 1) := by decide +kernel
theorem dX9_idle_45 : decode cX9_idle 45 = .ok (.invokevirtual 251, 3) := by decide +kernel
theorem dX9_idle_48 : decode cX9_idle 48 = .ok (.if_icmp .ge 20, 3) := by decide +kernel
theorem dX9_idle_51 : decode cX9_idle 51 = .ok (.aload_n 0, 1) := by decide +kernel
theorem dX9_idle_52 : decode cX9_idle 52 = .ok (.getfield 285, 3) := by decide +kernel
theorem dX9_idle_55 : decode cX9_idle 55 = .ok (.iload_n 2, 1) := by decide +kernel
theorem dX9_idle_56 : decode cX9_idle 56 = .ok (.invokestatic 282, 3) := by decide +kernel
theorem dX9_idle_59 : decode cX9_idle 59 = .ok (.ifCond .ne 9, 3) := by decide +kernel
theorem dX9_idle_62 : decode cX9_idle 62 = .ok (.iconst 1, 1) := by decide +kernel
theorem dX9_idle_63 : decode cX9_idle 63 = .ok (.iload_n 2, 1) := by decide +kernel
theorem dX9_idle_64 : decode cX9_idle 64 = .ok (.ishl, 1) := by decide +kernel
theorem dX9_idle_65 : decode cX9_idle 65 = .ok (.goto 4, 3) := by decide +kernel
theorem dX9_idle_68 : decode cX9_idle 68 = .ok (.iconst 0, 1) := by decide +kernel
theorem dX9_idle_69 : decode cX9_idle 69 = .ok (.ior, 1) := by decide +kernel
theorem dX9_idle_70 : decode cX9_idle 70 = .ok (.istore_n 1, 1) := by decide +kernel
theorem dX9_idle_71 : decode cX9_idle 71 = .ok (.iinc 2 1, 3) := by decide +kernel
theorem dX9_idle_74 : decode cX9_idle 74 = .ok (.goto (-51), 3) := by decide +kernel
theorem dX9_idle_77 : decode cX9_idle 77 = .ok (.iload_n 1, 1) := by decide +kernel
theorem dX9_idle_78 : decode cX9_idle 78 = .ok (.ireturn, 1) := by decide +kernel
theorem dX9_image_0 : decode cX9_image 0 = .ok (.aload_n 0, 1) := by decide +kernel
theorem dX9_image_1 : decode cX9_image 1 = .ok (.iconst 0, 1) := by decide +kernel
theorem dX9_image_2 : decode cX9_image 2 = .ok (.putfield 83, 3) := by decide +kernel
theorem dX9_image_5 : decode cX9_image 5 = .ok (.iload_n 1, 1) := by decide +kernel
theorem dX9_image_6 : decode cX9_image 6 = .ok (.i2l, 1) := by decide +kernel
theorem dX9_image_7 : decode cX9_image 7 = .ok (.lconst 0, 1) := by decide +kernel
theorem dX9_image_8 : decode cX9_image 8 = .ok (.ldc2_w 325, 3) := by decide +kernel
theorem dX9_image_11 : decode cX9_image 11 = .ok (.invokestatic 88, 3) := by decide +kernel
theorem dX9_image_14 : decode cX9_image 14 = .ok (.ifCond .ne 6, 3) := by decide +kernel
theorem dX9_image_17 : decode cX9_image 17 = .ok (.bipush (-2), 2) := by decide +kernel
theorem dX9_image_19 : decode cX9_image 19 = .ok (.ireturn, 1) := by decide +kernel
theorem dX9_image_20 : decode cX9_image 20 = .ok (.aload_n 0, 1) := by decide +kernel
theorem dX9_image_21 : decode cX9_image 21 = .ok (.iconst 0, 1) := by decide +kernel
theorem dX9_image_22 : decode cX9_image 22 = .ok (.iconst 1, 1) := by decide +kernel
theorem dX9_image_23 : decode cX9_image 23 = .ok (.iload_n 1, 1) := by decide +kernel
theorem dX9_image_24 : decode cX9_image 24 = .ok (.iadd, 1) := by decide +kernel
theorem dX9_image_25 : decode cX9_image 25 = .ok (.invokevirtual 238, 3) := by decide +kernel
theorem dX9_image_28 : decode cX9_image 28 = .ok (.aload_n 0, 1) := by decide +kernel
theorem dX9_image_29 : decode cX9_image 29 = .ok (.getfield 49, 3) := by decide +kernel
theorem dX9_image_32 : decode cX9_image 32 = .ok (.iload_n 1, 1) := by decide +kernel
theorem dX9_image_33 : decode cX9_image 33 = .ok (.iconst 1, 1) := by decide +kernel
theorem dX9_image_34 : decode cX9_image 34 = .ok (.bastore, 1) := by decide +kernel
theorem dX9_image_35 : decode cX9_image 35 = .ok (.iconst 0, 1) := by decide +kernel
theorem dX9_image_36 : decode cX9_image 36 = .ok (.ireturn, 1) := by decide +kernel
theorem dX9_in_0 : decode cX9_in 0 = .ok (.lload_n 0, 1) := by decide +kernel
theorem dX9_in_1 : decode cX9_in 1 = .ok (.lload_n 2, 1) := by decide +kernel
theorem dX9_in_2 : decode cX9_in 2 = .ok (.lcmp, 1) := by decide +kernel
theorem dX9_in_3 : decode cX9_in 3 = .ok (.ifCond .lt 14, 3) := by decide +kernel
theorem dX9_in_6 : decode cX9_in 6 = .ok (.lload_n 0, 1) := by decide +kernel
theorem dX9_in_7 : decode cX9_in 7 = .ok (.lload 4, 2) := by decide +kernel
theorem dX9_in_9 : decode cX9_in 9 = .ok (.lcmp, 1) := by decide +kernel
theorem dX9_in_10 : decode cX9_in 10 = .ok (.ifCond .gt 7, 3) := by decide +kernel
theorem dX9_in_13 : decode cX9_in 13 = .ok (.iconst 1, 1) := by decide +kernel
theorem dX9_in_14 : decode cX9_in 14 = .ok (.goto 4, 3) := by decide +kernel
theorem dX9_in_17 : decode cX9_in 17 = .ok (.iconst 0, 1) := by decide +kernel
theorem dX9_in_18 : decode cX9_in 18 = .ok (.ireturn, 1) := by decide +kernel
theorem dX9_is_0 : decode cX9_is 0 = .ok (.aload_n 0, 1) := by decide +kernel
theorem dX9_is_1 : decode cX9_is 1 = .ok (.getfield 135, 3) := by decide +kernel
theorem dX9_is_4 : decode cX9_is 4 = .ok (.ifCond .ne 24, 3) := by decide +kernel
theorem dX9_is_7 : decode cX9_is 7 = .ok (.aload_n 0, 1) := by decide +kernel
theorem dX9_is_8 : decode cX9_is 8 = .ok (.getfield 124, 3) := by decide +kernel
theorem dX9_is_11 : decode cX9_is 11 = .ok (.iconst 1, 1) := by decide +kernel
theorem dX9_is_12 : decode cX9_is 12 = .ok (.if_icmp .ne 16, 3) := by decide +kernel
theorem dX9_is_15 : decode cX9_is 15 = .ok (.aload_n 0, 1) := by decide +kernel
theorem dX9_is_16 : decode cX9_is 16 = .ok (.getfield 120, 3) := by decide +kernel
theorem dX9_is_19 : decode cX9_is 19 = .ok (.lload_n 1, 1) := by decide +kernel
theorem dX9_is_20 : decode cX9_is 20 = .ok (.lcmp, 1) := by decide +kernel
theorem dX9_is_21 : decode cX9_is 21 = .ok (.ifCond .ne 7, 3) := by decide +kernel
theorem dX9_is_24 : decode cX9_is 24 = .ok (.iconst 1, 1) := by decide +kernel
theorem dX9_is_25 : decode cX9_is 25 = .ok (.goto 4, 3) := by decide +kernel
theorem dX9_is_28 : decode cX9_is 28 = .ok (.iconst 0, 1) := by decide +kernel
theorem dX9_is_29 : decode cX9_is 29 = .ok (.ireturn, 1) := by decide +kernel
theorem dX9_isAhead_0 : decode cX9_isAhead 0 = .ok (.iload_n 1, 1) := by decide +kernel
theorem dX9_isAhead_1 : decode cX9_isAhead 1 = .ok (.i2l, 1) := by decide +kernel
theorem dX9_isAhead_2 : decode cX9_isAhead 2 = .ok (.lconst 0, 1) := by decide +kernel
theorem dX9_isAhead_3 : decode cX9_isAhead 3 = .ok (.aload_n 0, 1) := by decide +kernel
theorem dX9_isAhead_4 : decode cX9_isAhead 4 = .ok (.invokevirtual 251, 3) := by decide +kernel
theorem dX9_isAhead_7 : decode cX9_isAhead 7 = .ok (.i2l, 1) := by decide +kernel
theorem dX9_isAhead_8 : decode cX9_isAhead 8 = .ok (.lconst 1, 1) := by decide +kernel
theorem dX9_isAhead_9 : decode cX9_isAhead 9 = .ok (.lsub, 1) := by decide +kernel
theorem dX9_isAhead_10 : decode cX9_isAhead 10 = .ok (.invokestatic 88, 3) := by decide +kernel
theorem dX9_isAhead_13 : decode cX9_isAhead 13 = .ok (.ireturn, 1) := by decide +kernel
theorem dX9_isBit_0 : decode cX9_isBit 0 = .ok (.iload_n 0, 1) := by decide +kernel
theorem dX9_isBit_1 : decode cX9_isBit 1 = .ok (.iload_n 1, 1) := by decide +kernel
theorem dX9_isBit_2 : decode cX9_isBit 2 = .ok (.ishr, 1) := by decide +kernel
theorem dX9_isBit_3 : decode cX9_isBit 3 = .ok (.iconst 1, 1) := by decide +kernel
theorem dX9_isBit_4 : decode cX9_isBit 4 = .ok (.iand, 1) := by decide +kernel
theorem dX9_isBit_5 : decode cX9_isBit 5 = .ok (.iconst 1, 1) := by decide +kernel
theorem dX9_isBit_6 : decode cX9_isBit 6 = .ok (.if_icmp .ne 7, 3) := by decide +kernel
theorem dX9_isBit_9 : decode cX9_isBit 9 = .ok (.iconst 1, 1) := by decide +kernel
theorem dX9_isBit_10 : decode cX9_isBit 10 = .ok (.goto 4, 3) := by decide +kernel
theorem dX9_isBit_13 : decode cX9_isBit 13 = .ok (.iconst 0, 1) := by decide +kernel
theorem dX9_isBit_14 : decode cX9_isBit 14 = .ok (.ireturn, 1) := by decide +kernel
theorem dX9_isByte_0 : decode cX9_isByte 0 = .ok (.iload_n 1, 1) := by decide +kernel
theorem dX9_isByte_1 : decode cX9_isByte 1 = .ok (.aload_n 0, 1) := by decide +kernel
theorem dX9_isByte_2 : decode cX9_isByte 2 = .ok (.getfield 100, 3) := by decide +kernel
theorem dX9_isByte_5 : decode cX9_isByte 5 = .ok (.if_icmp .ge 27, 3) := by decide +kernel
theorem dX9_isByte_8 : decode cX9_isByte 8 = .ok (.aload_n 0, 1) := by decide +kernel
theorem dX9_isByte_9 : decode cX9_isByte 9 = .ok (.getfield 23, 3) := by decide +kernel
theorem dX9_isByte_12 : decode cX9_isByte 12 = .ok (.iload_n 1, 1) := by decide +kernel
theorem dX9_isByte_13 : decode cX9_isByte 13 = .ok (.baload, 1) := by decide +kernel
theorem dX9_isByte_14 : decode cX9_isByte 14 = .ok (.iload_n 2, 1) := by decide +kernel
theorem dX9_isByte_15 : decode cX9_isByte 15 = .ok (.if_icmp .lt 17, 3) := by decide +kernel
theorem dX9_isByte_18 : decode cX9_isByte 18 = .ok (.aload_n 0, 1) := by decide +kernel
theorem dX9_isByte_19 : decode cX9_isByte 19 = .ok (.getfield 23, 3) := by decide +kernel
theorem dX9_isByte_22 : decode cX9_isByte 22 = .ok (.iload_n 1, 1) := by decide +kernel
theorem dX9_isByte_23 : decode cX9_isByte 23 = .ok (.baload, 1) := by decide +kernel
theorem dX9_isByte_24 : decode cX9_isByte 24 = .ok (.iload_n 3, 1) := by decide +kernel
theorem dX9_isByte_25 : decode cX9_isByte 25 = .ok (.if_icmp .gt 7, 3) := by decide +kernel
theorem dX9_isByte_28 : decode cX9_isByte 28 = .ok (.iconst 1, 1) := by decide +kernel
theorem dX9_isByte_29 : decode cX9_isByte 29 = .ok (.goto 4, 3) := by decide +kernel
theorem dX9_isByte_32 : decode cX9_isByte 32 = .ok (.iconst 0, 1) := by decide +kernel
theorem dX9_isByte_33 : decode cX9_isByte 33 = .ok (.ireturn, 1) := by decide +kernel
theorem dX9_isGood_0 : decode cX9_isGood 0 = .ok (.aload_n 0, 1) := by decide +kernel
theorem dX9_isGood_1 : decode cX9_isGood 1 = .ok (.getfield 135, 3) := by decide +kernel
theorem dX9_isGood_4 : decode cX9_isGood 4 = .ok (.ifCond .ne 7, 3) := by decide +kernel
theorem dX9_isGood_7 : decode cX9_isGood 7 = .ok (.iconst 1, 1) := by decide +kernel
theorem dX9_isGood_8 : decode cX9_isGood 8 = .ok (.goto 4, 3) := by decide +kernel
theorem dX9_isGood_11 : decode cX9_isGood 11 = .ok (.iconst 0, 1) := by decide +kernel
theorem dX9_isGood_12 : decode cX9_isGood 12 = .ok (.ireturn, 1) := by decide +kernel
theorem dX9_isHalf_0 : decode cX9_isHalf 0 = .ok (.iload_n 0, 1) := by decide +kernel
theorem dX9_isHalf_1 : decode cX9_isHalf 1 = .ok (.i2l, 1) := by decide +kernel
theorem dX9_isHalf_2 : decode cX9_isHalf 2 = .ok (.lconst 0, 1) := by decide +kernel
theorem dX9_isHalf_3 : decode cX9_isHalf 3 = .ok (.lconst 1, 1) := by decide +kernel
theorem dX9_isHalf_4 : decode cX9_isHalf 4 = .ok (.invokestatic 88, 3) := by decide +kernel
theorem dX9_isHalf_7 : decode cX9_isHalf 7 = .ok (.ireturn, 1) := by decide +kernel
theorem dX9_isOver_0 : decode cX9_isOver 0 = .ok (.aload_n 0, 1) := by decide +kernel
theorem dX9_isOver_1 : decode cX9_isOver 1 = .ok (.iconst 0, 1) := by decide +kernel
theorem dX9_isOver_2 : decode cX9_isOver 2 = .ok (.putfield 100, 3) := by decide +kernel
theorem dX9_isOver_5 : decode cX9_isOver 5 = .ok (.aload_n 0, 1) := by decide +kernel
theorem dX9_isOver_6 : decode cX9_isOver 6 = .ok (.aload_n 0, 1) := by decide +kernel
theorem dX9_isOver_7 : decode cX9_isOver 7 = .ok (.getfield 135, 3) := by decide +kernel
theorem dX9_isOver_10 : decode cX9_isOver 10 = .ok (.putfield 162, 3) := by decide +kernel
theorem dX9_isOver_13 : decode cX9_isOver 13 = .ok (.aload_n 0, 1) := by decide +kernel
theorem dX9_isOver_14 : decode cX9_isOver 14 = .ok (.aload_n 0, 1) := by decide +kernel
theorem dX9_isOver_15 : decode cX9_isOver 15 = .ok (.getfield 135, 3) := by decide +kernel
theorem dX9_isOver_18 : decode cX9_isOver 18 = .ok (.ifCond .ne 7, 3) := by decide +kernel
theorem dX9_isOver_21 : decode cX9_isOver 21 = .ok (.iconst (-1), 1) := by decide +kernel
theorem dX9_isOver_22 : decode cX9_isOver 22 = .ok (.goto 7, 3) := by decide +kernel
theorem dX9_isOver_25 : decode cX9_isOver 25 = .ok (.aload_n 0, 1) := by decide +kernel
theorem dX9_isOver_26 : decode cX9_isOver 26 = .ok (.getfield 138, 3) := by decide +kernel
theorem dX9_isOver_29 : decode cX9_isOver 29 = .ok (.putfield 27, 3) := by decide +kernel
theorem dX9_isOver_32 : decode cX9_isOver 32 = .ok (.return_, 1) := by decide +kernel
theorem dX9_isPart_0 : decode cX9_isPart 0 = .ok (.lload_n 1, 1) := by decide +kernel
theorem dX9_isPart_1 : decode cX9_isPart 1 = .ok (.lconst 0, 1) := by decide +kernel
theorem dX9_isPart_2 : decode cX9_isPart 2 = .ok (.aload_n 0, 1) := by decide +kernel
theorem dX9_isPart_3 : decode cX9_isPart 3 = .ok (.invokevirtual 245, 3) := by decide +kernel
theorem dX9_isPart_6 : decode cX9_isPart 6 = .ok (.i2l, 1) := by decide +kernel
theorem dX9_isPart_7 : decode cX9_isPart 7 = .ok (.lconst 1, 1) := by decide +kernel
theorem dX9_isPart_8 : decode cX9_isPart 8 = .ok (.lsub, 1) := by decide +kernel
theorem dX9_isPart_9 : decode cX9_isPart 9 = .ok (.invokestatic 88, 3) := by decide +kernel
theorem dX9_isPart_12 : decode cX9_isPart 12 = .ok (.ireturn, 1) := by decide +kernel
theorem dX9_isPlan_0 : decode cX9_isPlan 0 = .ok (.aload_n 0, 1) := by decide +kernel
theorem dX9_isPlan_1 : decode cX9_isPlan 1 = .ok (.invokevirtual 248, 3) := by decide +kernel
theorem dX9_isPlan_4 : decode cX9_isPlan 4 = .ok (.ifCond .eq 25, 3) := by decide +kernel
theorem dX9_isPlan_7 : decode cX9_isPlan 7 = .ok (.iload_n 1, 1) := by decide +kernel
theorem dX9_isPlan_8 : decode cX9_isPlan 8 = .ok (.i2l, 1) := by decide +kernel
theorem dX9_isPlan_9 : decode cX9_isPlan 9 = .ok (.lconst 1, 1) := by decide +kernel
theorem dX9_isPlan_10 : decode cX9_isPlan 10 = .ok (.iconst 5, 1) := by decide +kernel
theorem dX9_isPlan_11 : decode cX9_isPlan 11 = .ok (.aload_n 0, 1) := by decide +kernel
theorem dX9_isPlan_12 : decode cX9_isPlan 12 = .ok (.invokevirtual 251, 3) := by decide +kernel
theorem dX9_isPlan_15 : decode cX9_isPlan 15 = .ok (.invokestatic 298, 3) := by decide +kernel
theorem dX9_isPlan_18 : decode cX9_isPlan 18 = .ok (.i2l, 1) := by decide +kernel
theorem dX9_isPlan_19 : decode cX9_isPlan 19 = .ok (.invokestatic 88, 3) := by decide +kernel
theorem dX9_isPlan_22 : decode cX9_isPlan 22 = .ok (.ifCond .eq 7, 3) := by decide +kernel
theorem dX9_isPlan_25 : decode cX9_isPlan 25 = .ok (.iconst 1, 1) := by decide +kernel
theorem dX9_isPlan_26 : decode cX9_isPlan 26 = .ok (.goto 4, 3) := by decide +kernel
theorem dX9_isPlan_29 : decode cX9_isPlan 29 = .ok (.iconst 0, 1) := by decide +kernel
theorem dX9_isPlan_30 : decode cX9_isPlan 30 = .ok (.ireturn, 1) := by decide +kernel
theorem dX9_isRoom_0 : decode cX9_isRoom 0 = .ok (.iload_n 1, 1) := by decide +kernel
theorem dX9_isRoom_1 : decode cX9_isRoom 1 = .ok (.ifCond .eq 17, 3) := by decide +kernel
theorem dX9_isRoom_4 : decode cX9_isRoom 4 = .ok (.aload_n 0, 1) := by decide +kernel
theorem dX9_isRoom_5 : decode cX9_isRoom 5 = .ok (.iload_n 2, 1) := by decide +kernel
theorem dX9_isRoom_6 : decode cX9_isRoom 6 = .ok (.invokevirtual 165, 3) := by decide +kernel
theorem dX9_isRoom_9 : decode cX9_isRoom 9 = .ok (.iload_n 3, 1) := by decide +kernel
theorem dX9_isRoom_10 : decode cX9_isRoom 10 = .ok (.if_icmp .ne 8, 3) := by decide +kernel
theorem dX9_isRoom_13 : decode cX9_isRoom 13 = .ok (.aload_n 0, 1) := by decide +kernel
theorem dX9_isRoom_14 : decode cX9_isRoom 14 = .ok (.iconst 3, 1) := by decide +kernel
theorem dX9_isRoom_15 : decode cX9_isRoom 15 = .ok (.invokevirtual 151, 3) := by decide +kernel
theorem dX9_isRoom_18 : decode cX9_isRoom 18 = .ok (.iload_n 1, 1) := by decide +kernel
theorem dX9_isRoom_19 : decode cX9_isRoom 19 = .ok (.ifCond .eq 14, 3) := by decide +kernel
theorem dX9_isRoom_22 : decode cX9_isRoom 22 = .ok (.aload_n 0, 1) := by decide +kernel
theorem dX9_isRoom_23 : decode cX9_isRoom 23 = .ok (.getfield 135, 3) := by decide +kernel
theorem dX9_isRoom_26 : decode cX9_isRoom 26 = .ok (.ifCond .ne 7, 3) := by decide +kernel
theorem dX9_isRoom_29 : decode cX9_isRoom 29 = .ok (.aload_n 0, 1) := by decide +kernel
theorem dX9_isRoom_30 : decode cX9_isRoom 30 = .ok (.invokevirtual 145, 3) := by decide +kernel
theorem dX9_isRoom_33 : decode cX9_isRoom 33 = .ok (.iload_n 1, 1) := by decide +kernel
theorem dX9_isRoom_34 : decode cX9_isRoom 34 = .ok (.ifCond .eq 14, 3) := by decide +kernel
theorem dX9_isRoom_37 : decode cX9_isRoom 37 = .ok (.aload_n 0, 1) := by decide +kernel
theorem dX9_isRoom_38 : decode cX9_isRoom 38 = .ok (.getfield 135, 3) := by decide +kernel
theorem dX9_isRoom_41 : decode cX9_isRoom 41 = .ok (.ifCond .ne 7, 3) := by decide +kernel
theorem dX9_isRoom_44 : decode cX9_isRoom 44 = .ok (.iconst 1, 1) := by decide +kernel
theorem dX9_isRoom_45 : decode cX9_isRoom 45 = .ok (.goto 4, 3) := by decide +kernel
theorem dX9_isRoom_48 : decode cX9_isRoom 48 = .ok (.iconst 0, 1) := by decide +kernel
theorem dX9_isRoom_49 : decode cX9_isRoom 49 = .ok (.ireturn, 1) := by decide +kernel
theorem dX9_isSeed_0 : decode cX9_isSeed 0 = .ok (.iload_n 0, 1) := by decide +kernel
theorem dX9_isSeed_1 : decode cX9_isSeed 1 = .ok (.i2l, 1) := by decide +kernel
theorem dX9_isSeed_2 : decode cX9_isSeed 2 = .ok (.lconst 0, 1) := by decide +kernel
theorem dX9_isSeed_3 : decode cX9_isSeed 3 = .ok (.ldc2_w 464, 3) := by decide +kernel
theorem dX9_isSeed_6 : decode cX9_isSeed 6 = .ok (.invokestatic 88, 3) := by decide +kernel
theorem dX9_isSeed_9 : decode cX9_isSeed 9 = .ok (.ireturn, 1) := by decide +kernel
theorem dX9_isSlot_0 : decode cX9_isSlot 0 = .ok (.iload_n 0, 1) := by decide +kernel
theorem dX9_isSlot_1 : decode cX9_isSlot 1 = .ok (.i2l, 1) := by decide +kernel
theorem dX9_isSlot_2 : decode cX9_isSlot 2 = .ok (.lconst 0, 1) := by decide +kernel
theorem dX9_isSlot_3 : decode cX9_isSlot 3 = .ok (.ldc2_w 86, 3) := by decide +kernel
theorem dX9_isSlot_6 : decode cX9_isSlot 6 = .ok (.invokestatic 88, 3) := by decide +kernel
theorem dX9_isSlot_9 : decode cX9_isSlot 9 = .ok (.ireturn, 1) := by decide +kernel
theorem dX9_isSo_0 : decode cX9_isSo 0 = .ok (.iconst 0, 1) := by decide +kernel
theorem dX9_isSo_1 : decode cX9_isSo 1 = .ok (.istore_n 2, 1) := by decide +kernel
theorem dX9_isSo_2 : decode cX9_isSo 2 = .ok (.iload_n 2, 1) := by decide +kernel
theorem dX9_isSo_3 : decode cX9_isSo 3 = .ok (.aload_n 0, 1) := by decide +kernel
theorem dX9_isSo_4 : decode cX9_isSo 4 = .ok (.getfield 13, 3) := by decide +kernel
theorem dX9_isSo_7 : decode cX9_isSo 7 = .ok (.iload_n 1, 1) := by decide +kernel
theorem dX9_isSo_8 : decode cX9_isSo 8 = .ok (.iaload, 1) := by decide +kernel
theorem dX9_isSo_9 : decode cX9_isSo 9 = .ok (.if_icmp .ge 51, 3) := by decide +kernel
theorem dX9_isSo_12 : decode cX9_isSo 12 = .ok (.bipush 60, 2) := by decide +kernel
theorem dX9_isSo_14 : decode cX9_isSo 14 = .ok (.iload_n 1, 1) := by decide +kernel
theorem dX9_isSo_15 : decode cX9_isSo 15 = .ok (.imul, 1) := by decide +kernel
theorem dX9_isSo_16 : decode cX9_isSo 16 = .ok (.iload_n 2, 1) := by decide +kernel
theorem dX9_isSo_17 : decode cX9_isSo 17 = .ok (.iadd, 1) := by decide +kernel
theorem dX9_isSo_18 : decode cX9_isSo 18 = .ok (.istore_n 3, 1) := by decide +kernel
theorem dX9_isSo_19 : decode cX9_isSo 19 = .ok (.aload_n 0, 1) := by decide +kernel
theorem dX9_isSo_20 : decode cX9_isSo 20 = .ok (.aload_n 0, 1) := by decide +kernel
theorem dX9_isSo_21 : decode cX9_isSo 21 = .ok (.getfield 16, 3) := by decide +kernel
theorem dX9_isSo_24 : decode cX9_isSo 24 = .ok (.iload_n 3, 1) := by decide +kernel
theorem dX9_isSo_25 : decode cX9_isSo 25 = .ok (.laload, 1) := by decide +kernel
theorem dX9_isSo_26 : decode cX9_isSo 26 = .ok (.l2i, 1) := by decide +kernel
theorem dX9_isSo_27 : decode cX9_isSo 27 = .ok (.aload_n 0, 1) := by decide +kernel
theorem dX9_isSo_28 : decode cX9_isSo 28 = .ok (.getfield 16, 3) := by decide +kernel
theorem dX9_isSo_31 : decode cX9_isSo 31 = .ok (.iload_n 3, 1) := by decide +kernel
theorem dX9_isSo_32 : decode cX9_isSo 32 = .ok (.iconst 1, 1) := by decide +kernel
theorem dX9_isSo_33 : decode cX9_isSo 33 = .ok (.iadd, 1) := by decide +kernel
theorem dX9_isSo_34 : decode cX9_isSo 34 = .ok (.laload, 1) := by decide +kernel
theorem dX9_isSo_35 : decode cX9_isSo 35 = .ok (.l2i, 1) := by decide +kernel
theorem dX9_isSo_36 : decode cX9_isSo 36 = .ok (.invokevirtual 301, 3) := by decide +kernel
theorem dX9_isSo_39 : decode cX9_isSo 39 = .ok (.i2l, 1) := by decide +kernel
theorem dX9_isSo_40 : decode cX9_isSo 40 = .ok (.aload_n 0, 1) := by decide +kernel
theorem dX9_isSo_41 : decode cX9_isSo 41 = .ok (.getfield 16, 3) := by decide +kernel
theorem dX9_isSo_44 : decode cX9_isSo 44 = .ok (.iload_n 3, 1) := by decide +kernel
theorem dX9_isSo_45 : decode cX9_isSo 45 = .ok (.iconst 2, 1) := by decide +kernel
theorem dX9_isSo_46 : decode cX9_isSo 46 = .ok (.iadd, 1) := by decide +kernel
theorem dX9_isSo_47 : decode cX9_isSo 47 = .ok (.laload, 1) := by decide +kernel
theorem dX9_isSo_48 : decode cX9_isSo 48 = .ok (.lcmp, 1) := by decide +kernel
theorem dX9_isSo_49 : decode cX9_isSo 49 = .ok (.ifCond .eq 5, 3) := by decide +kernel
theorem dX9_isSo_52 : decode cX9_isSo 52 = .ok (.iconst 0, 1) := by decide +kernel
theorem dX9_isSo_53 : decode cX9_isSo 53 = .ok (.ireturn, 1) := by decide +kernel
theorem dX9_isSo_54 : decode cX9_isSo 54 = .ok (.iinc 2 3, 3) := by decide +kernel
theorem dX9_isSo_57 : decode cX9_isSo 57 = .ok (.goto (-55), 3) := by decide +kernel
theorem dX9_isSo_60 : decode cX9_isSo 60 = .ok (.iconst 1, 1) := by decide +kernel
theorem dX9_isSo_61 : decode cX9_isSo 61 = .ok (.ireturn, 1) := by decide +kernel
theorem dX9_isTale_0 : decode cX9_isTale 0 = .ok (.aload_n 0, 1) := by decide +kernel
theorem dX9_isTale_1 : decode cX9_isTale 1 = .ok (.getfield 31, 3) := by decide +kernel
theorem dX9_isTale_4 : decode cX9_isTale 4 = .ok (.iconst 0, 1) := by decide +kernel
theorem dX9_isTale_5 : decode cX9_isTale 5 = .ok (.iaload, 1) := by decide +kernel
theorem dX9_isTale_6 : decode cX9_isTale 6 = .ok (.ifCond .le 7, 3) := by decide +kernel
theorem dX9_isTale_9 : decode cX9_isTale 9 = .ok (.iconst 1, 1) := by decide +kernel
theorem dX9_isTale_10 : decode cX9_isTale 10 = .ok (.goto 4, 3) := by decide +kernel
theorem dX9_isTale_13 : decode cX9_isTale 13 = .ok (.iconst 0, 1) := by decide +kernel
theorem dX9_isTale_14 : decode cX9_isTale 14 = .ok (.ireturn, 1) := by decide +kernel
theorem dX9_isThen_0 : decode cX9_isThen 0 = .ok (.aload_n 0, 1) := by decide +kernel
theorem dX9_isThen_1 : decode cX9_isThen 1 = .ok (.iload_n 1, 1) := by decide +kernel
theorem dX9_isThen_2 : decode cX9_isThen 2 = .ok (.i2l, 1) := by decide +kernel
theorem dX9_isThen_3 : decode cX9_isThen 3 = .ok (.invokevirtual 254, 3) := by decide +kernel
theorem dX9_isThen_6 : decode cX9_isThen 6 = .ok (.ifCond .eq 16, 3) := by decide +kernel
theorem dX9_isThen_9 : decode cX9_isThen 9 = .ok (.aload_n 0, 1) := by decide +kernel
theorem dX9_isThen_10 : decode cX9_isThen 10 = .ok (.iload_n 2, 1) := by decide +kernel
theorem dX9_isThen_11 : decode cX9_isThen 11 = .ok (.i2l, 1) := by decide +kernel
theorem dX9_isThen_12 : decode cX9_isThen 12 = .ok (.invokevirtual 257, 3) := by decide +kernel
theorem dX9_isThen_15 : decode cX9_isThen 15 = .ok (.ifCond .eq 7, 3) := by decide +kernel
theorem dX9_isThen_18 : decode cX9_isThen 18 = .ok (.iconst 1, 1) := by decide +kernel
theorem dX9_isThen_19 : decode cX9_isThen 19 = .ok (.goto 4, 3) := by decide +kernel
theorem dX9_isThen_22 : decode cX9_isThen 22 = .ok (.iconst 0, 1) := by decide +kernel
theorem dX9_isThen_23 : decode cX9_isThen 23 = .ok (.ireturn, 1) := by decide +kernel
theorem dX9_isYear_0 : decode cX9_isYear 0 = .ok (.aload_n 0, 1) := by decide +kernel
theorem dX9_isYear_1 : decode cX9_isYear 1 = .ok (.invokevirtual 248, 3) := by decide +kernel
theorem dX9_isYear_4 : decode cX9_isYear 4 = .ok (.ifCond .eq 20, 3) := by decide +kernel
theorem dX9_isYear_7 : decode cX9_isYear 7 = .ok (.lload_n 1, 1) := by decide +kernel
theorem dX9_isYear_8 : decode cX9_isYear 8 = .ok (.lconst 0, 1) := by decide +kernel
theorem dX9_isYear_9 : decode cX9_isYear 9 = .ok (.aload_n 0, 1) := by decide +kernel
theorem dX9_isYear_10 : decode cX9_isYear 10 = .ok (.invokevirtual 251, 3) := by decide +kernel
theorem dX9_isYear_13 : decode cX9_isYear 13 = .ok (.i2l, 1) := by decide +kernel
theorem dX9_isYear_14 : decode cX9_isYear 14 = .ok (.invokestatic 88, 3) := by decide +kernel
theorem dX9_isYear_17 : decode cX9_isYear 17 = .ok (.ifCond .eq 7, 3) := by decide +kernel
theorem dX9_isYear_20 : decode cX9_isYear 20 = .ok (.iconst 1, 1) := by decide +kernel
theorem dX9_isYear_21 : decode cX9_isYear 21 = .ok (.goto 4, 3) := by decide +kernel
theorem dX9_isYear_24 : decode cX9_isYear 24 = .ok (.iconst 0, 1) := by decide +kernel
theorem dX9_isYear_25 : decode cX9_isYear 25 = .ok (.ireturn, 1) := by decide +kernel
theorem dX9_keeps_0 : decode cX9_keeps 0 = .ok (.aload_n 0, 1) := by decide +kernel
theorem dX9_keeps_1 : decode cX9_keeps 1 = .ok (.iconst 0, 1) := by decide +kernel
theorem dX9_keeps_2 : decode cX9_keeps 2 = .ok (.putfield 83, 3) := by decide +kernel
theorem dX9_keeps_5 : decode cX9_keeps 5 = .ok (.aload_n 0, 1) := by decide +kernel
theorem dX9_keeps_6 : decode cX9_keeps 6 = .ok (.iload_n 1, 1) := by decide +kernel
theorem dX9_keeps_7 : decode cX9_keeps 7 = .ok (.iload_n 2, 1) := by decide +kernel
theorem dX9_keeps_8 : decode cX9_keeps 8 = .ok (.invokevirtual 327, 3) := by decide +kernel
theorem dX9_keeps_11 : decode cX9_keeps 11 = .ok (.ifCond .ne 6, 3) := by decide +kernel
theorem dX9_keeps_14 : decode cX9_keeps 14 = .ok (.bipush (-2), 2) := by decide +kernel
theorem dX9_keeps_16 : decode cX9_keeps 16 = .ok (.ireturn, 1) := by decide +kernel
theorem dX9_keeps_17 : decode cX9_keeps 17 = .ok (.aload_n 0, 1) := by decide +kernel
theorem dX9_keeps_18 : decode cX9_keeps 18 = .ok (.invokevirtual 330, 3) := by decide +kernel
theorem dX9_keeps_21 : decode cX9_keeps 21 = .ok (.aload_n 0, 1) := by decide +kernel
theorem dX9_keeps_22 : decode cX9_keeps 22 = .ok (.iload_n 1, 1) := by decide +kernel
theorem dX9_keeps_23 : decode cX9_keeps 23 = .ok (.iload_n 2, 1) := by decide +kernel
theorem dX9_keeps_24 : decode cX9_keeps 24 = .ok (.invokevirtual 342, 3) := by decide +kernel
theorem dX9_keeps_27 : decode cX9_keeps 27 = .ok (.ireturn, 1) := by decide +kernel
theorem dX9_keepsOf_0 : decode cX9_keepsOf 0 = .ok (.aload_n 0, 1) := by decide +kernel
theorem dX9_keepsOf_1 : decode cX9_keepsOf 1 = .ok (.getfield 62, 3) := by decide +kernel
theorem dX9_keepsOf_4 : decode cX9_keepsOf 4 = .ok (.iload_n 2, 1) := by decide +kernel
theorem dX9_keepsOf_5 : decode cX9_keepsOf 5 = .ok (.iaload, 1) := by decide +kernel
theorem dX9_keepsOf_6 : decode cX9_keepsOf 6 = .ok (.iload_n 1, 1) := by decide +kernel
theorem dX9_keepsOf_7 : decode cX9_keepsOf 7 = .ok (.invokestatic 282, 3) := by decide +kernel
theorem dX9_keepsOf_10 : decode cX9_keepsOf 10 = .ok (.ifCond .eq 7, 3) := by decide +kernel
theorem dX9_keepsOf_13 : decode cX9_keepsOf 13 = .ok (.iconst (-1), 1) := by decide +kernel
theorem dX9_keepsOf_14 : decode cX9_keepsOf 14 = .ok (.goto 22, 3) := by decide +kernel
theorem dX9_keepsOf_17 : decode cX9_keepsOf 17 = .ok (.iconst 0, 1) := by decide +kernel
theorem dX9_keepsOf_18 : decode cX9_keepsOf 18 = .ok (.aload_n 0, 1) := by decide +kernel
theorem dX9_keepsOf_19 : decode cX9_keepsOf 19 = .ok (.getfield 37, 3) := by decide +kernel
theorem dX9_keepsOf_22 : decode cX9_keepsOf 22 = .ok (.iconst 3, 1) := by decide +kernel
theorem dX9_keepsOf_23 : decode cX9_keepsOf 23 = .ok (.iload_n 1, 1) := by decide +kernel
theorem dX9_keepsOf_24 : decode cX9_keepsOf 24 = .ok (.imul, 1) := by decide +kernel
theorem dX9_keepsOf_25 : decode cX9_keepsOf 25 = .ok (.iaload, 1) := by decide +kernel
theorem dX9_keepsOf_26 : decode cX9_keepsOf 26 = .ok (.aload_n 0, 1) := by decide +kernel
theorem dX9_keepsOf_27 : decode cX9_keepsOf 27 = .ok (.iload_n 1, 1) := by decide +kernel
theorem dX9_keepsOf_28 : decode cX9_keepsOf 28 = .ok (.iload_n 2, 1) := by decide +kernel
theorem dX9_keepsOf_29 : decode cX9_keepsOf 29 = .ok (.invokevirtual 301, 3) := by decide +kernel
theorem dX9_keepsOf_32 : decode cX9_keepsOf 32 = .ok (.isub, 1) := by decide +kernel
theorem dX9_keepsOf_33 : decode cX9_keepsOf 33 = .ok (.invokestatic 279, 3) := by decide +kernel
theorem dX9_keepsOf_36 : decode cX9_keepsOf 36 = .ok (.ireturn, 1) := by decide +kernel
theorem dX9_knife_0 : decode cX9_knife 0 = .ok (.aload_n 0, 1) := by decide +kernel
theorem dX9_knife_1 : decode cX9_knife 1 = .ok (.iconst 0, 1) := by decide +kernel
theorem dX9_knife_2 : decode cX9_knife 2 = .ok (.putfield 83, 3) := by decide +kernel
theorem dX9_knife_5 : decode cX9_knife 5 = .ok (.aload_n 0, 1) := by decide +kernel
theorem dX9_knife_6 : decode cX9_knife 6 = .ok (.iload_n 1, 1) := by decide +kernel
theorem dX9_knife_7 : decode cX9_knife 7 = .ok (.i2l, 1) := by decide +kernel
theorem dX9_knife_8 : decode cX9_knife 8 = .ok (.invokevirtual 254, 3) := by decide +kernel
theorem dX9_knife_11 : decode cX9_knife 11 = .ok (.ifCond .eq 11, 3) := by decide +kernel
theorem dX9_knife_14 : decode cX9_knife 14 = .ok (.aload_n 0, 1) := by decide +kernel
theorem dX9_knife_15 : decode cX9_knife 15 = .ok (.iload_n 2, 1) := by decide +kernel
theorem dX9_knife_16 : decode cX9_knife 16 = .ok (.invokevirtual 333, 3) := by decide +kernel
theorem dX9_knife_19 : decode cX9_knife 19 = .ok (.ifCond .ne 6, 3) := by decide +kernel
theorem dX9_knife_22 : decode cX9_knife 22 = .ok (.bipush (-2), 2) := by decide +kernel
theorem dX9_knife_24 : decode cX9_knife 24 = .ok (.ireturn, 1) := by decide +kernel
theorem dX9_knife_25 : decode cX9_knife 25 = .ok (.aload_n 0, 1) := by decide +kernel
theorem dX9_knife_26 : decode cX9_knife 26 = .ok (.getfield 34, 3) := by decide +kernel
theorem dX9_knife_29 : decode cX9_knife 29 = .ok (.bipush 6, 2) := by decide +kernel
theorem dX9_knife_31 : decode cX9_knife 31 = .ok (.iaload, 1) := by decide +kernel
theorem dX9_knife_32 : decode cX9_knife 32 = .ok (.bipush 20, 2) := by decide +kernel
theorem dX9_knife_34 : decode cX9_knife 34 = .ok (.if_icmp .ne 6, 3) := by decide +kernel
theorem dX9_knife_37 : decode cX9_knife 37 = .ok (.bipush (-5), 2) := by decide +kernel
theorem dX9_knife_39 : decode cX9_knife 39 = .ok (.ireturn, 1) := by decide +kernel
theorem dX9_knife_40 : decode cX9_knife 40 = .ok (.aload_n 0, 1) := by decide +kernel
theorem dX9_knife_41 : decode cX9_knife 41 = .ok (.iconst 0, 1) := by decide +kernel
theorem dX9_knife_42 : decode cX9_knife 42 = .ok (.iload_n 1, 1) := by decide +kernel
theorem dX9_knife_43 : decode cX9_knife 43 = .ok (.iload_n 2, 1) := by decide +kernel
theorem dX9_knife_44 : decode cX9_knife 44 = .ok (.invokevirtual 475, 3) := by decide +kernel
theorem dX9_knife_47 : decode cX9_knife 47 = .ok (.aload_n 0, 1) := by decide +kernel
theorem dX9_knife_48 : decode cX9_knife 48 = .ok (.invokevirtual 330, 3) := by decide +kernel
theorem dX9_knife_51 : decode cX9_knife 51 = .ok (.aload_n 0, 1) := by decide +kernel
theorem dX9_knife_52 : decode cX9_knife 52 = .ok (.invokevirtual 339, 3) := by decide +kernel
theorem dX9_knife_55 : decode cX9_knife 55 = .ok (.ireturn, 1) := by decide +kernel
theorem dX9_knifeLine_0 : decode cX9_knifeLine 0 = .ok (.iconst 2, 1) := by decide +kernel
theorem dX9_knifeLine_1 : decode cX9_knifeLine 1 = .ok (.bipush 32, 2) := by decide +kernel
theorem dX9_knifeLine_3 : decode cX9_knifeLine 3 = .ok (.aload_n 0, 1) := by decide +kernel
theorem dX9_knifeLine_4 : decode cX9_knifeLine 4 = .ok (.iconst 5, 1) := by decide +kernel
theorem dX9_knifeLine_5 : decode cX9_knifeLine 5 = .ok (.invokevirtual 165, 3) := by decide +kernel
theorem dX9_knifeLine_8 : decode cX9_knifeLine 8 = .ok (.iadd, 1) := by decide +kernel
theorem dX9_knifeLine_9 : decode cX9_knifeLine 9 = .ok (.imul, 1) := by decide +kernel
theorem dX9_knifeLine_10 : decode cX9_knifeLine 10 = .ok (.istore_n 1, 1) := by decide +kernel
theorem dX9_knifeLine_11 : decode cX9_knifeLine 11 = .ok (.aload_n 0, 1) := by decide +kernel
theorem dX9_knifeLine_12 : decode cX9_knifeLine 12 = .ok (.getfield 43, 3) := by decide +kernel
theorem dX9_knifeLine_15 : decode cX9_knifeLine 15 = .ok (.iload_n 1, 1) := by decide +kernel
theorem dX9_knifeLine_16 : decode cX9_knifeLine 16 = .ok (.aload_n 0, 1) := by decide +kernel
theorem dX9_knifeLine_17 : decode cX9_knifeLine 17 = .ok (.invokevirtual 182, 3) := by decide +kernel
theorem dX9_knifeLine_20 : decode cX9_knifeLine 20 = .ok (.iastore, 1) := by decide +kernel
theorem dX9_knifeLine_21 : decode cX9_knifeLine 21 = .ok (.aload_n 0, 1) := by decide +kernel
theorem dX9_knifeLine_22 : decode cX9_knifeLine 22 = .ok (.getfield 43, 3) := by decide +kernel
theorem dX9_knifeLine_25 : decode cX9_knifeLine 25 = .ok (.iload_n 1, 1) := by decide +kernel
theorem dX9_knifeLine_26 : decode cX9_knifeLine 26 = .ok (.iconst 1, 1) := by decide +kernel
theorem dX9_knifeLine_27 : decode cX9_knifeLine 27 = .ok (.iadd, 1) := by decide +kernel
theorem dX9_knifeLine_28 : decode cX9_knifeLine 28 = .ok (.aload_n 0, 1) := by decide +kernel
theorem dX9_knifeLine_29 : decode cX9_knifeLine 29 = .ok (.ldc2_w 190, 3) := by decide +kernel
theorem dX9_knifeLine_32 : decode cX9_knifeLine 32 = .ok (.iconst 0, 1) := by decide +kernel
theorem dX9_knifeLine_33 : decode cX9_knifeLine 33 = .ok (.bipush 11, 2) := by decide +kernel
theorem dX9_knifeLine_35 : decode cX9_knifeLine 35 = .ok (.invokevirtual 171, 3) := by decide +kernel
theorem dX9_knifeLine_38 : decode cX9_knifeLine 38 = .ok (.iastore, 1) := by decide +kernel
theorem dX9_knifeLine_39 : decode cX9_knifeLine 39 = .ok (.aload_n 0, 1) := by decide +kernel
theorem dX9_knifeLine_40 : decode cX9_knifeLine 40 = .ok (.iconst 5, 1) := by decide +kernel
theorem dX9_knifeLine_41 : decode cX9_knifeLine 41 = .ok (.aload_n 0, 1) := by decide +kernel
theorem dX9_knifeLine_42 : decode cX9_knifeLine 42 = .ok (.iconst 5, 1) := by decide +kernel
theorem dX9_knifeLine_43 : decode cX9_knifeLine 43 = .ok (.invokevirtual 165, 3) := by decide +kernel
theorem dX9_knifeLine_46 : decode cX9_knifeLine 46 = .ok (.iconst 1, 1) := by decide +kernel
theorem dX9_knifeLine_47 : decode cX9_knifeLine 47 = .ok (.iadd, 1) := by decide +kernel
theorem dX9_knifeLine_48 : decode cX9_knifeLine 48 = .ok (.invokevirtual 178, 3) := by decide +kernel
theorem dX9_knifeLine_51 : decode cX9_knifeLine 51 = .ok (.return_, 1) := by decide +kernel
theorem dX9_knives_0 : decode cX9_knives 0 = .ok (.aload_n 0, 1) := by decide +kernel
theorem dX9_knives_1 : decode cX9_knives 1 = .ok (.iconst 0, 1) := by decide +kernel
theorem dX9_knives_2 : decode cX9_knives 2 = .ok (.putfield 83, 3) := by decide +kernel
theorem dX9_knives_5 : decode cX9_knives 5 = .ok (.aload_n 0, 1) := by decide +kernel
theorem dX9_knives_6 : decode cX9_knives 6 = .ok (.iload_n 1, 1) := by decide +kernel
theorem dX9_knives_7 : decode cX9_knives 7 = .ok (.i2l, 1) := by decide +kernel
theorem dX9_knives_8 : decode cX9_knives 8 = .ok (.invokevirtual 254, 3) := by decide +kernel
theorem dX9_knives_11 : decode cX9_knives 11 = .ok (.ifCond .ne 6, 3) := by decide +kernel
theorem dX9_knives_14 : decode cX9_knives 14 = .ok (.bipush (-2), 2) := by decide +kernel
theorem dX9_knives_16 : decode cX9_knives 16 = .ok (.ireturn, 1) := by decide +kernel
theorem dX9_knives_17 : decode cX9_knives 17 = .ok (.iconst 0, 1) := by decide +kernel
theorem dX9_knives_18 : decode cX9_knives 18 = .ok (.istore_n 2, 1) := by decide +kernel
theorem dX9_knives_19 : decode cX9_knives 19 = .ok (.iconst 0, 1) := by decide +kernel
theorem dX9_knives_20 : decode cX9_knives 20 = .ok (.istore_n 3, 1) := by decide +kernel
theorem dX9_knives_21 : decode cX9_knives 21 = .ok (.iload_n 3, 1) := by decide +kernel
theorem dX9_knives_22 : decode cX9_knives 22 = .ok (.aload_n 0, 1) := by decide +kernel
theorem dX9_knives_23 : decode cX9_knives 23 = .ok (.getfield 34, 3) := by decide +kernel
theorem dX9_knives_26 : decode cX9_knives 26 = .ok (.iconst 5, 1) := by decide +kernel
theorem dX9_knives_27 : decode cX9_knives 27 = .ok (.iaload, 1) := by decide +kernel
theorem dX9_knives_28 : decode cX9_knives 28 = .ok (.if_icmp .ge 31, 3) := by decide +kernel
theorem dX9_knives_31 : decode cX9_knives 31 = .ok (.iload_n 2, 1) := by decide +kernel
theorem dX9_knives_32 : decode cX9_knives 32 = .ok (.aload_n 0, 1) := by decide +kernel
theorem dX9_knives_33 : decode cX9_knives 33 = .ok (.getfield 43, 3) := by decide +kernel
theorem dX9_knives_36 : decode cX9_knives 36 = .ok (.iconst 2, 1) := by decide +kernel
theorem dX9_knives_37 : decode cX9_knives 37 = .ok (.iload_n 3, 1) := by decide +kernel
theorem dX9_knives_38 : decode cX9_knives 38 = .ok (.imul, 1) := by decide +kernel
theorem dX9_knives_39 : decode cX9_knives 39 = .ok (.iaload, 1) := by decide +kernel
theorem dX9_knives_40 : decode cX9_knives 40 = .ok (.iload_n 1, 1) := by decide +kernel
theorem dX9_knives_41 : decode cX9_knives 41 = .ok (.if_icmp .ne 9, 3) := by decide +kernel
theorem dX9_knives_44 : decode cX9_knives 44 = .ok (.iconst 1, 1) := by decide +kernel
theorem dX9_knives_45 : decode cX9_knives 45 = .ok (.iload_n 3, 1) := by decide +kernel
theorem dX9_knives_46 : decode cX9_knives 46 = .ok (.ishl, 1) := by decide +kernel
theorem dX9_knives_47 : decode cX9_knives 47 = .ok (.goto 4, 3) := by decide +kernel
theorem dX9_knives_50 : decode cX9_knives 50 = .ok (.iconst 0, 1) := by decide +kernel
theorem dX9_knives_51 : decode cX9_knives 51 = .ok (.ior, 1) := by decide +kernel
theorem dX9_knives_52 : decode cX9_knives 52 = .ok (.istore_n 2, 1) := by decide +kernel
theorem dX9_knives_53 : decode cX9_knives 53 = .ok (.iinc 3 1, 3) := by decide +kernel
theorem dX9_knives_56 : decode cX9_knives 56 = .ok (.goto (-35), 3) := by decide +kernel
theorem dX9_knives_59 : decode cX9_knives 59 = .ok (.iload_n 2, 1) := by decide +kernel
theorem dX9_knives_60 : decode cX9_knives 60 = .ok (.ireturn, 1) := by decide +kernel
theorem dX9_knivesOf_0 : decode cX9_knivesOf 0 = .ok (.aload_n 0, 1) := by decide +kernel
theorem dX9_knivesOf_1 : decode cX9_knivesOf 1 = .ok (.getfield 272, 3) := by decide +kernel
theorem dX9_knivesOf_4 : decode cX9_knivesOf 4 = .ok (.ifCond .eq 40, 3) := by decide +kernel
theorem dX9_knivesOf_7 : decode cX9_knivesOf 7 = .ok (.iconst 0, 1) := by decide +kernel
theorem dX9_knivesOf_8 : decode cX9_knivesOf 8 = .ok (.istore_n 2, 1) := by decide +kernel
theorem dX9_knivesOf_9 : decode cX9_knivesOf 9 = .ok (.iload_n 2, 1) := by decide +kernel
theorem dX9_knivesOf_10 : decode cX9_knivesOf 10 = .ok (.aload_n 0, 1) := by decide +kernel
theorem dX9_knivesOf_11 : decode cX9_knivesOf 11 = .ok (.invokevirtual 245, 3) := by decide +kernel
theorem dX9_knivesOf_14 : decode cX9_knivesOf 14 = .ok (.if_icmp .ge 29, 3) := by decide +kernel
theorem dX9_knivesOf_17 : decode cX9_knivesOf 17 = .ok (.aload_n 0, 1) := by decide +kernel
theorem dX9_knivesOf_18 : decode cX9_knivesOf 18 = .ok (.getfield 56, 3) := by decide +kernel
theorem dX9_knivesOf_21 : decode cX9_knivesOf 21 = .ok (.iload_n 1, 1) := by decide +kernel
theorem dX9_knivesOf_22 : decode cX9_knivesOf 22 = .ok (.iaload, 1) := by decide +kernel
theorem dX9_knivesOf_23 : decode cX9_knivesOf 23 = .ok (.iload_n 2, 1) := by decide +kernel
theorem dX9_knivesOf_24 : decode cX9_knivesOf 24 = .ok (.invokestatic 282, 3) := by decide +kernel
theorem dX9_knivesOf_27 : decode cX9_knivesOf 27 = .ok (.ifCond .eq 10, 3) := by decide +kernel
theorem dX9_knivesOf_30 : decode cX9_knivesOf 30 = .ok (.aload_n 0, 1) := by decide +kernel
theorem dX9_knivesOf_31 : decode cX9_knivesOf 31 = .ok (.iload_n 2, 1) := by decide +kernel
theorem dX9_knivesOf_32 : decode cX9_knivesOf 32 = .ok (.iload_n 1, 1) := by decide +kernel
theorem dX9_knivesOf_33 : decode cX9_knivesOf 33 = .ok (.iconst (-1), 1) := by decide +kernel
theorem dX9_knivesOf_34 : decode cX9_knivesOf 34 = .ok (.invokevirtual 316, 3) := by decide +kernel
theorem dX9_knivesOf_37 : decode cX9_knivesOf 37 = .ok (.iinc 2 1, 3) := by decide +kernel
theorem dX9_knivesOf_40 : decode cX9_knivesOf 40 = .ok (.goto (-31), 3) := by decide +kernel
theorem dX9_knivesOf_43 : decode cX9_knivesOf 43 = .ok (.return_, 1) := by decide +kernel
theorem dX9_knivesOf_44 : decode cX9_knivesOf 44 = .ok (.iconst 0, 1) := by decide +kernel
theorem dX9_knivesOf_45 : decode cX9_knivesOf 45 = .ok (.istore_n 2, 1) := by decide +kernel
theorem dX9_knivesOf_46 : decode cX9_knivesOf 46 = .ok (.iload_n 2, 1) := by decide +kernel
theorem dX9_knivesOf_47 : decode cX9_knivesOf 47 = .ok (.aload_n 0, 1) := by decide +kernel
theorem dX9_knivesOf_48 : decode cX9_knivesOf 48 = .ok (.getfield 34, 3) := by decide +kernel
theorem dX9_knivesOf_51 : decode cX9_knivesOf 51 = .ok (.iconst 5, 1) := by decide +kernel
theorem dX9_knivesOf_52 : decode cX9_knivesOf 52 = .ok (.iaload, 1) := by decide +kernel
theorem dX9_knivesOf_53 : decode cX9_knivesOf 53 = .ok (.if_icmp .ge 48, 3) := by decide +kernel
theorem dX9_knivesOf_56 : decode cX9_knivesOf 56 = .ok (.aload_n 0, 1) := by decide +kernel
theorem dX9_knivesOf_57 : decode cX9_knivesOf 57 = .ok (.getfield 269, 3) := by decide +kernel
theorem dX9_knivesOf_60 : decode cX9_knivesOf 60 = .ok (.iload_n 2, 1) := by decide +kernel
theorem dX9_knivesOf_61 : decode cX9_knivesOf 61 = .ok (.invokestatic 282, 3) := by decide +kernel
theorem dX9_knivesOf_64 : decode cX9_knivesOf 64 = .ok (.ifCond .ne 31, 3) := by decide +kernel
theorem dX9_knivesOf_67 : decode cX9_knivesOf 67 = .ok (.aload_n 0, 1) := by decide +kernel
theorem dX9_knivesOf_68 : decode cX9_knivesOf 68 = .ok (.getfield 43, 3) := by decide +kernel
theorem dX9_knivesOf_71 : decode cX9_knivesOf 71 = .ok (.iconst 2, 1) := by decide +kernel
theorem dX9_knivesOf_72 : decode cX9_knivesOf 72 = .ok (.iload_n 2, 1) := by decide +kernel
theorem dX9_knivesOf_73 : decode cX9_knivesOf 73 = .ok (.imul, 1) := by decide +kernel
theorem dX9_knivesOf_74 : decode cX9_knivesOf 74 = .ok (.iconst 1, 1) := by decide +kernel
theorem dX9_knivesOf_75 : decode cX9_knivesOf 75 = .ok (.iadd, 1) := by decide +kernel
theorem dX9_knivesOf_76 : decode cX9_knivesOf 76 = .ok (.iaload, 1) := by decide +kernel
theorem dX9_knivesOf_77 : decode cX9_knivesOf 77 = .ok (.iload_n 1, 1) := by decide +kernel
theorem dX9_knivesOf_78 : decode cX9_knivesOf 78 = .ok (.if_icmp .ne 17, 3) := by decide +kernel
theorem dX9_knivesOf_81 : decode cX9_knivesOf 81 = .ok (.aload_n 0, 1) := by decide +kernel
theorem dX9_knivesOf_82 : decode cX9_knivesOf 82 = .ok (.aload_n 0, 1) := by decide +kernel
theorem dX9_knivesOf_83 : decode cX9_knivesOf 83 = .ok (.getfield 43, 3) := by decide +kernel
theorem dX9_knivesOf_86 : decode cX9_knivesOf 86 = .ok (.iconst 2, 1) := by decide +kernel
theorem dX9_knivesOf_87 : decode cX9_knivesOf 87 = .ok (.iload_n 2, 1) := by decide +kernel
theorem dX9_knivesOf_88 : decode cX9_knivesOf 88 = .ok (.imul, 1) := by decide +kernel
theorem dX9_knivesOf_89 : decode cX9_knivesOf 89 = .ok (.iaload, 1) := by decide +kernel
theorem dX9_knivesOf_90 : decode cX9_knivesOf 90 = .ok (.iload_n 1, 1) := by decide +kernel
theorem dX9_knivesOf_91 : decode cX9_knivesOf 91 = .ok (.iload_n 2, 1) := by decide +kernel
theorem dX9_knivesOf_92 : decode cX9_knivesOf 92 = .ok (.invokevirtual 316, 3) := by decide +kernel
theorem dX9_knivesOf_95 : decode cX9_knivesOf 95 = .ok (.iinc 2 1, 3) := by decide +kernel
theorem dX9_knivesOf_98 : decode cX9_knivesOf 98 = .ok (.goto (-52), 3) := by decide +kernel
theorem dX9_knivesOf_101 : decode cX9_knivesOf 101 = .ok (.aload_n 0, 1) := by decide +kernel
theorem dX9_knivesOf_102 : decode cX9_knivesOf 102 = .ok (.getfield 34, 3) := by decide +kernel
theorem dX9_knivesOf_105 : decode cX9_knivesOf 105 = .ok (.iconst 5, 1) := by decide +kernel
theorem dX9_knivesOf_106 : decode cX9_knivesOf 106 = .ok (.iaload, 1) := by decide +kernel
theorem dX9_knivesOf_107 : decode cX9_knivesOf 107 = .ok (.istore_n 2, 1) := by decide +kernel
theorem dX9_knivesOf_108 : decode cX9_knivesOf 108 = .ok (.iconst 0, 1) := by decide +kernel
theorem dX9_knivesOf_109 : decode cX9_knivesOf 109 = .ok (.istore_n 3, 1) := by decide +kernel
theorem dX9_knivesOf_110 : decode cX9_knivesOf 110 = .ok (.iload_n 3, 1) := by decide +kernel
theorem dX9_knivesOf_111 : decode cX9_knivesOf 111 = .ok (.aload_n 0, 1) := by decide +kernel
theorem dX9_knivesOf_112 : decode cX9_knivesOf 112 = .ok (.getfield 34, 3) := by decide +kernel
theorem dX9_knivesOf_115 : decode cX9_knivesOf 115 = .ok (.bipush 6, 2) := by decide +kernel
theorem dX9_knivesOf_117 : decode cX9_knivesOf 117 = .ok (.iaload, 1) := by decide +kernel
theorem dX9_knivesOf_118 : decode cX9_knivesOf 118 = .ok (.if_icmp .ge 56, 3) := by decide +kernel
theorem dX9_knivesOf_121 : decode cX9_knivesOf 121 = .ok (.aload_n 0, 1) := by decide +kernel
theorem dX9_knivesOf_122 : decode cX9_knivesOf 122 = .ok (.getfield 46, 3) := by decide +kernel
theorem dX9_knivesOf_125 : decode cX9_knivesOf 125 = .ok (.iconst 3, 1) := by decide +kernel
theorem dX9_knivesOf_126 : decode cX9_knivesOf 126 = .ok (.iload_n 3, 1) := by decide +kernel
theorem dX9_knivesOf_127 : decode cX9_knivesOf 127 = .ok (.imul, 1) := by decide +kernel
theorem dX9_knivesOf_128 : decode cX9_knivesOf 128 = .ok (.iaload, 1) := by decide +kernel
theorem dX9_knivesOf_129 : decode cX9_knivesOf 129 = .ok (.ifCond .eq 6, 3) := by decide +kernel
theorem dX9_knivesOf_132 : decode cX9_knivesOf 132 = .ok (.goto 36, 3) := by decide +kernel
theorem dX9_knivesOf_135 : decode cX9_knivesOf 135 = .ok (.aload_n 0, 1) := by decide +kernel
theorem dX9_knivesOf_136 : decode cX9_knivesOf 136 = .ok (.getfield 46, 3) := by decide +kernel
theorem dX9_knivesOf_139 : decode cX9_knivesOf 139 = .ok (.iconst 3, 1) := by decide +kernel
theorem dX9_knivesOf_140 : decode cX9_knivesOf 140 = .ok (.iload_n 3, 1) := by decide +kernel
theorem dX9_knivesOf_141 : decode cX9_knivesOf 141 = .ok (.imul, 1) := by decide +kernel
theorem dX9_knivesOf_142 : decode cX9_knivesOf 142 = .ok (.iconst 2, 1) := by decide +kernel
theorem dX9_knivesOf_143 : decode cX9_knivesOf 143 = .ok (.iadd, 1) := by decide +kernel
theorem dX9_knivesOf_144 : decode cX9_knivesOf 144 = .ok (.iaload, 1) := by decide +kernel
theorem dX9_knivesOf_145 : decode cX9_knivesOf 145 = .ok (.iload_n 1, 1) := by decide +kernel
theorem dX9_knivesOf_146 : decode cX9_knivesOf 146 = .ok (.if_icmp .ne 19, 3) := by decide +kernel
theorem dX9_knivesOf_149 : decode cX9_knivesOf 149 = .ok (.aload_n 0, 1) := by decide +kernel
theorem dX9_knivesOf_150 : decode cX9_knivesOf 150 = .ok (.aload_n 0, 1) := by decide +kernel
theorem dX9_knivesOf_151 : decode cX9_knivesOf 151 = .ok (.getfield 46, 3) := by decide +kernel
theorem dX9_knivesOf_154 : decode cX9_knivesOf 154 = .ok (.iconst 3, 1) := by decide +kernel
theorem dX9_knivesOf_155 : decode cX9_knivesOf 155 = .ok (.iload_n 3, 1) := by decide +kernel
theorem dX9_knivesOf_156 : decode cX9_knivesOf 156 = .ok (.imul, 1) := by decide +kernel
theorem dX9_knivesOf_157 : decode cX9_knivesOf 157 = .ok (.iconst 1, 1) := by decide +kernel
theorem dX9_knivesOf_158 : decode cX9_knivesOf 158 = .ok (.iadd, 1) := by decide +kernel
theorem dX9_knivesOf_159 : decode cX9_knivesOf 159 = .ok (.iaload, 1) := by decide +kernel
theorem dX9_knivesOf_160 : decode cX9_knivesOf 160 = .ok (.iload_n 1, 1) := by decide +kernel
theorem dX9_knivesOf_161 : decode cX9_knivesOf 161 = .ok (.iload_n 2, 1) := by decide +kernel
theorem dX9_knivesOf_162 : decode cX9_knivesOf 162 = .ok (.invokevirtual 316, 3) := by decide +kernel
theorem dX9_knivesOf_165 : decode cX9_knivesOf 165 = .ok (.iinc 2 1, 3) := by decide +kernel
theorem dX9_knivesOf_168 : decode cX9_knivesOf 168 = .ok (.iinc 3 1, 3) := by decide +kernel
theorem dX9_knivesOf_171 : decode cX9_knivesOf 171 = .ok (.goto (-61), 3) := by decide +kernel
theorem dX9_knivesOf_174 : decode cX9_knivesOf 174 = .ok (.return_, 1) := by decide +kernel
theorem dX9_law_0 : decode cX9_law 0 = .ok (.aload_n 0, 1) := by decide +kernel
theorem dX9_law_1 : decode cX9_law 1 = .ok (.iconst 0, 1) := by decide +kernel
theorem dX9_law_2 : decode cX9_law 2 = .ok (.putfield 83, 3) := by decide +kernel
theorem dX9_law_5 : decode cX9_law 5 = .ok (.aload_n 0, 1) := by decide +kernel
theorem dX9_law_6 : decode cX9_law 6 = .ok (.invokevirtual 248, 3) := by decide +kernel
theorem dX9_law_9 : decode cX9_law 9 = .ok (.ifCond .ne 6, 3) := by decide +kernel
theorem dX9_law_12 : decode cX9_law 12 = .ok (.bipush (-2), 2) := by decide +kernel
theorem dX9_law_14 : decode cX9_law 14 = .ok (.ireturn, 1) := by decide +kernel
theorem dX9_law_15 : decode cX9_law 15 = .ok (.iconst 0, 1) := by decide +kernel
theorem dX9_law_16 : decode cX9_law 16 = .ok (.istore_n 1, 1) := by decide +kernel
theorem dX9_law_17 : decode cX9_law 17 = .ok (.iconst 1, 1) := by decide +kernel
theorem dX9_law_18 : decode cX9_law 18 = .ok (.istore_n 2, 1) := by decide +kernel
theorem dX9_law_19 : decode cX9_law 19 = .ok (.iload_n 2, 1) := by decide +kernel
theorem dX9_law_20 : decode cX9_law 20 = .ok (.iconst 4, 1) := by decide +kernel
theorem dX9_law_21 : decode cX9_law 21 = .ok (.if_icmp .ge 24, 3) := by decide +kernel
theorem dX9_law_24 : decode cX9_law 24 = .ok (.aload_n 0, 1) := by decide +kernel
theorem dX9_law_25 : decode cX9_law 25 = .ok (.iload_n 2, 1) := by decide +kernel
theorem dX9_law_26 : decode cX9_law 26 = .ok (.invokevirtual 417, 3) := by decide +kernel
theorem dX9_law_29 : decode cX9_law 29 = .ok (.aload_n 0, 1) := by decide +kernel
theorem dX9_law_30 : decode cX9_law 30 = .ok (.iload_n 1, 1) := by decide +kernel
theorem dX9_law_31 : decode cX9_law 31 = .ok (.invokevirtual 417, 3) := by decide +kernel
theorem dX9_law_34 : decode cX9_law 34 = .ok (.if_icmp .le 5, 3) := by decide +kernel
theorem dX9_law_37 : decode cX9_law 37 = .ok (.iload_n 2, 1) := by decide +kernel
theorem dX9_law_38 : decode cX9_law 38 = .ok (.istore_n 1, 1) := by decide +kernel
theorem dX9_law_39 : decode cX9_law 39 = .ok (.iinc 2 1, 3) := by decide +kernel
theorem dX9_law_42 : decode cX9_law 42 = .ok (.goto (-23), 3) := by decide +kernel
theorem dX9_law_45 : decode cX9_law 45 = .ok (.iload_n 1, 1) := by decide +kernel
theorem dX9_law_46 : decode cX9_law 46 = .ok (.ireturn, 1) := by decide +kernel
theorem dX9_laws_0 : decode cX9_laws 0 = .ok (.aload_n 0, 1) := by decide +kernel
theorem dX9_laws_1 : decode cX9_laws 1 = .ok (.iconst 0, 1) := by decide +kernel
theorem dX9_laws_2 : decode cX9_laws 2 = .ok (.putfield 83, 3) := by decide +kernel
theorem dX9_laws_5 : decode cX9_laws 5 = .ok (.aload_n 0, 1) := by decide +kernel
theorem dX9_laws_6 : decode cX9_laws 6 = .ok (.iload_n 1, 1) := by decide +kernel
theorem dX9_laws_7 : decode cX9_laws 7 = .ok (.iconst 1, 1) := by decide +kernel
theorem dX9_laws_8 : decode cX9_laws 8 = .ok (.invokevirtual 410, 3) := by decide +kernel
theorem dX9_laws_11 : decode cX9_laws 11 = .ok (.istore_n 2, 1) := by decide +kernel
theorem dX9_laws_12 : decode cX9_laws 12 = .ok (.iload_n 2, 1) := by decide +kernel
theorem dX9_laws_13 : decode cX9_laws 13 = .ok (.ifCond .eq 5, 3) := by decide +kernel
theorem dX9_laws_16 : decode cX9_laws 16 = .ok (.iload_n 2, 1) := by decide +kernel
theorem dX9_laws_17 : decode cX9_laws 17 = .ok (.ireturn, 1) := by decide +kernel
theorem dX9_laws_18 : decode cX9_laws 18 = .ok (.iconst 0, 1) := by decide +kernel
theorem dX9_laws_19 : decode cX9_laws 19 = .ok (.istore_n 3, 1) := by decide +kernel
theorem dX9_laws_20 : decode cX9_laws 20 = .ok (.iconst 0, 1) := by decide +kernel
theorem dX9_laws_21 : decode cX9_laws 21 = .ok (.istore 4, 2) := by decide +kernel
theorem dX9_laws_23 : decode cX9_laws 23 = .ok (.iload 4, 2) := by decide +kernel
theorem dX9_laws_25 : decode cX9_laws 25 = .ok (.iconst 4, 1) := by decide +kernel
theorem dX9_laws_26 : decode cX9_laws 26 = .ok (.if_icmp .ge 35, 3) := by decide +kernel
theorem dX9_laws_29 : decode cX9_laws 29 = .ok (.aload_n 0, 1) := by decide +kernel
theorem dX9_laws_30 : decode cX9_laws 30 = .ok (.iload 4, 2) := by decide +kernel
theorem dX9_laws_32 : decode cX9_laws 32 = .ok (.invokevirtual 417, 3) := by decide +kernel
theorem dX9_laws_35 : decode cX9_laws 35 = .ok (.pop, 1) := by decide +kernel
theorem dX9_laws_36 : decode cX9_laws 36 = .ok (.iload_n 3, 1) := by decide +kernel
theorem dX9_laws_37 : decode cX9_laws 37 = .ok (.aload_n 0, 1) := by decide +kernel
theorem dX9_laws_38 : decode cX9_laws 38 = .ok (.iload_n 1, 1) := by decide +kernel
theorem dX9_laws_39 : decode cX9_laws 39 = .ok (.invokevirtual 401, 3) := by decide +kernel
theorem dX9_laws_42 : decode cX9_laws 42 = .ok (.ifCond .eq 10, 3) := by decide +kernel
theorem dX9_laws_45 : decode cX9_laws 45 = .ok (.iconst 1, 1) := by decide +kernel
theorem dX9_laws_46 : decode cX9_laws 46 = .ok (.iload 4, 2) := by decide +kernel
theorem dX9_laws_48 : decode cX9_laws 48 = .ok (.ishl, 1) := by decide +kernel
theorem dX9_laws_49 : decode cX9_laws 49 = .ok (.goto 4, 3) := by decide +kernel
theorem dX9_laws_52 : decode cX9_laws 52 = .ok (.iconst 0, 1) := by decide +kernel
theorem dX9_laws_53 : decode cX9_laws 53 = .ok (.ior, 1) := by decide +kernel
theorem dX9_laws_54 : decode cX9_laws 54 = .ok (.istore_n 3, 1) := by decide +kernel
theorem dX9_laws_55 : decode cX9_laws 55 = .ok (.iinc 4 1, 3) := by decide +kernel
theorem dX9_laws_58 : decode cX9_laws 58 = .ok (.goto (-35), 3) := by decide +kernel
theorem dX9_laws_61 : decode cX9_laws 61 = .ok (.iload_n 3, 1) := by decide +kernel
theorem dX9_laws_62 : decode cX9_laws 62 = .ok (.ireturn, 1) := by decide +kernel
theorem dX9_lays_0 : decode cX9_lays 0 = .ok (.aload_n 0, 1) := by decide +kernel
theorem dX9_lays_1 : decode cX9_lays 1 = .ok (.aload_n 0, 1) := by decide +kernel
theorem dX9_lays_2 : decode cX9_lays 2 = .ok (.getfield 34, 3) := by decide +kernel
theorem dX9_lays_5 : decode cX9_lays 5 = .ok (.iconst 1, 1) := by decide +kernel
theorem dX9_lays_6 : decode cX9_lays 6 = .ok (.iaload, 1) := by decide +kernel
theorem dX9_lays_7 : decode cX9_lays 7 = .ok (.putfield 260, 3) := by decide +kernel
theorem dX9_lays_10 : decode cX9_lays 10 = .ok (.aload_n 0, 1) := by decide +kernel
theorem dX9_lays_11 : decode cX9_lays 11 = .ok (.iconst 0, 1) := by decide +kernel
theorem dX9_lays_12 : decode cX9_lays 12 = .ok (.putfield 263, 3) := by decide +kernel
theorem dX9_lays_15 : decode cX9_lays 15 = .ok (.aload_n 0, 1) := by decide +kernel
theorem dX9_lays_16 : decode cX9_lays 16 = .ok (.iconst (-1), 1) := by decide +kernel
theorem dX9_lays_17 : decode cX9_lays 17 = .ok (.putfield 266, 3) := by decide +kernel
theorem dX9_lays_20 : decode cX9_lays 20 = .ok (.aload_n 0, 1) := by decide +kernel
theorem dX9_lays_21 : decode cX9_lays 21 = .ok (.iconst 0, 1) := by decide +kernel
theorem dX9_lays_22 : decode cX9_lays 22 = .ok (.putfield 269, 3) := by decide +kernel
theorem dX9_lays_25 : decode cX9_lays 25 = .ok (.aload_n 0, 1) := by decide +kernel
theorem dX9_lays_26 : decode cX9_lays 26 = .ok (.iconst 0, 1) := by decide +kernel
theorem dX9_lays_27 : decode cX9_lays 27 = .ok (.putfield 272, 3) := by decide +kernel
theorem dX9_lays_30 : decode cX9_lays 30 = .ok (.iconst 0, 1) := by decide +kernel
theorem dX9_lays_31 : decode cX9_lays 31 = .ok (.istore_n 1, 1) := by decide +kernel
theorem dX9_lays_32 : decode cX9_lays 32 = .ok (.iload_n 1, 1) := by decide +kernel
theorem dX9_lays_33 : decode cX9_lays 33 = .ok (.aload_n 0, 1) := by decide +kernel
theorem dX9_lays_34 : decode cX9_lays 34 = .ok (.invokevirtual 245, 3) := by decide +kernel
theorem dX9_lays_37 : decode cX9_lays 37 = .ok (.if_icmp .ge 25, 3) := by decide +kernel
theorem dX9_lays_40 : decode cX9_lays 40 = .ok (.aload_n 0, 1) := by decide +kernel
theorem dX9_lays_41 : decode cX9_lays 41 = .ok (.getfield 53, 3) := by decide +kernel
theorem dX9_lays_44 : decode cX9_lays 44 = .ok (.iload_n 1, 1) := by decide +kernel
theorem dX9_lays_45 : decode cX9_lays 45 = .ok (.aload_n 0, 1) := by decide +kernel
theorem dX9_lays_46 : decode cX9_lays 46 = .ok (.getfield 37, 3) := by decide +kernel
theorem dX9_lays_49 : decode cX9_lays 49 = .ok (.iconst 3, 1) := by decide +kernel
theorem dX9_lays_50 : decode cX9_lays 50 = .ok (.iload_n 1, 1) := by decide +kernel
theorem dX9_lays_51 : decode cX9_lays 51 = .ok (.imul, 1) := by decide +kernel
theorem dX9_lays_52 : decode cX9_lays 52 = .ok (.iconst 2, 1) := by decide +kernel
theorem dX9_lays_53 : decode cX9_lays 53 = .ok (.iadd, 1) := by decide +kernel
theorem dX9_lays_54 : decode cX9_lays 54 = .ok (.iaload, 1) := by decide +kernel
theorem dX9_lays_55 : decode cX9_lays 55 = .ok (.iastore, 1) := by decide +kernel
theorem dX9_lays_56 : decode cX9_lays 56 = .ok (.iinc 1 1, 3) := by decide +kernel
theorem dX9_lays_59 : decode cX9_lays 59 = .ok (.goto (-27), 3) := by decide +kernel
theorem dX9_lays_62 : decode cX9_lays 62 = .ok (.iconst 0, 1) := by decide +kernel
theorem dX9_lays_63 : decode cX9_lays 63 = .ok (.istore_n 1, 1) := by decide +kernel
theorem dX9_lays_64 : decode cX9_lays 64 = .ok (.iload_n 1, 1) := by decide +kernel
theorem dX9_lays_65 : decode cX9_lays 65 = .ok (.bipush 12, 2) := by decide +kernel
theorem dX9_lays_67 : decode cX9_lays 67 = .ok (.if_icmp .ge 16, 3) := by decide +kernel
theorem dX9_lays_70 : decode cX9_lays 70 = .ok (.aload_n 0, 1) := by decide +kernel
theorem dX9_lays_71 : decode cX9_lays 71 = .ok (.getfield 56, 3) := by decide +kernel
theorem dX9_lays_74 : decode cX9_lays 74 = .ok (.iload_n 1, 1) := by decide +kernel
theorem dX9_lays_75 : decode cX9_lays 75 = .ok (.iconst 0, 1) := by decide +kernel
theorem dX9_lays_76 : decode cX9_lays 76 = .ok (.iastore, 1) := by decide +kernel
theorem dX9_lays_77 : decode cX9_lays 77 = .ok (.iinc 1 1, 3) := by decide +kernel
theorem dX9_lays_80 : decode cX9_lays 80 = .ok (.goto (-16), 3) := by decide +kernel
theorem dX9_lays_83 : decode cX9_lays 83 = .ok (.return_, 1) := by decide +kernel
theorem dX9_laysEar_0 : decode cX9_laysEar 0 = .ok (.aload_n 0, 1) := by decide +kernel
theorem dX9_laysEar_1 : decode cX9_laysEar 1 = .ok (.getfield 77, 3) := by decide +kernel
theorem dX9_laysEar_4 : decode cX9_laysEar 4 = .ok (.iconst 0, 1) := by decide +kernel
theorem dX9_laysEar_5 : decode cX9_laysEar 5 = .ok (.iload_n 1, 1) := by decide +kernel
theorem dX9_laysEar_6 : decode cX9_laysEar 6 = .ok (.iastore, 1) := by decide +kernel
theorem dX9_laysEar_7 : decode cX9_laysEar 7 = .ok (.aload_n 0, 1) := by decide +kernel
theorem dX9_laysEar_8 : decode cX9_laysEar 8 = .ok (.iconst 1, 1) := by decide +kernel
theorem dX9_laysEar_9 : decode cX9_laysEar 9 = .ok (.invokevirtual 372, 3) := by decide +kernel
theorem dX9_laysEar_12 : decode cX9_laysEar 12 = .ok (.aload_n 0, 1) := by decide +kernel
theorem dX9_laysEar_13 : decode cX9_laysEar 13 = .ok (.iconst (-1), 1) := by decide +kernel
theorem dX9_laysEar_14 : decode cX9_laysEar 14 = .ok (.putfield 420, 3) := by decide +kernel
theorem dX9_laysEar_17 : decode cX9_laysEar 17 = .ok (.aload_n 0, 1) := by decide +kernel
theorem dX9_laysEar_18 : decode cX9_laysEar 18 = .ok (.aload_n 0, 1) := by decide +kernel
theorem dX9_laysEar_19 : decode cX9_laysEar 19 = .ok (.iconst 0, 1) := by decide +kernel
theorem dX9_laysEar_20 : decode cX9_laysEar 20 = .ok (.invokevirtual 336, 3) := by decide +kernel
theorem dX9_laysEar_23 : decode cX9_laysEar 23 = .ok (.putfield 423, 3) := by decide +kernel
theorem dX9_laysEar_26 : decode cX9_laysEar 26 = .ok (.aload_n 0, 1) := by decide +kernel
theorem dX9_laysEar_27 : decode cX9_laysEar 27 = .ok (.invokevirtual 251, 3) := by decide +kernel
theorem dX9_laysEar_30 : decode cX9_laysEar 30 = .ok (.iconst 1, 1) := by decide +kernel
theorem dX9_laysEar_31 : decode cX9_laysEar 31 = .ok (.if_icmp .ne 7, 3) := by decide +kernel
theorem dX9_laysEar_34 : decode cX9_laysEar 34 = .ok (.iconst 0, 1) := by decide +kernel
theorem dX9_laysEar_35 : decode cX9_laysEar 35 = .ok (.goto 16, 3) := by decide +kernel
theorem dX9_laysEar_38 : decode cX9_laysEar 38 = .ok (.aload_n 0, 1) := by decide +kernel
theorem dX9_laysEar_39 : decode cX9_laysEar 39 = .ok (.invokevirtual 345, 3) := by decide +kernel
theorem dX9_laysEar_42 : decode cX9_laysEar 42 = .ok (.aload_n 0, 1) := by decide +kernel
theorem dX9_laysEar_43 : decode cX9_laysEar 43 = .ok (.getfield 62, 3) := by decide +kernel
theorem dX9_laysEar_46 : decode cX9_laysEar 46 = .ok (.iconst 1, 1) := by decide +kernel
theorem dX9_laysEar_47 : decode cX9_laysEar 47 = .ok (.iaload, 1) := by decide +kernel
theorem dX9_laysEar_48 : decode cX9_laysEar 48 = .ok (.iconst (-1), 1) := by decide +kernel
theorem dX9_laysEar_49 : decode cX9_laysEar 49 = .ok (.ixor, 1) := by decide +kernel
theorem dX9_laysEar_50 : decode cX9_laysEar 50 = .ok (.iand, 1) := by decide +kernel
theorem dX9_laysEar_51 : decode cX9_laysEar 51 = .ok (.istore_n 2, 1) := by decide +kernel
theorem dX9_laysEar_52 : decode cX9_laysEar 52 = .ok (.iconst 0, 1) := by decide +kernel
theorem dX9_laysEar_53 : decode cX9_laysEar 53 = .ok (.istore_n 3, 1) := by decide +kernel
theorem dX9_laysEar_54 : decode cX9_laysEar 54 = .ok (.iload_n 3, 1) := by decide +kernel
theorem dX9_laysEar_55 : decode cX9_laysEar 55 = .ok (.aload_n 0, 1) := by decide +kernel
theorem dX9_laysEar_56 : decode cX9_laysEar 56 = .ok (.invokevirtual 245, 3) := by decide +kernel
theorem dX9_laysEar_59 : decode cX9_laysEar 59 = .ok (.if_icmp .ge 76, 3) := by decide +kernel
theorem dX9_laysEar_62 : decode cX9_laysEar 62 = .ok (.iload_n 2, 1) := by decide +kernel
theorem dX9_laysEar_63 : decode cX9_laysEar 63 = .ok (.iload_n 3, 1) := by decide +kernel
theorem dX9_laysEar_64 : decode cX9_laysEar 64 = .ok (.invokestatic 282, 3) := by decide +kernel
theorem dX9_laysEar_67 : decode cX9_laysEar 67 = .ok (.ifCond .ne 6, 3) := by decide +kernel
theorem dX9_laysEar_70 : decode cX9_laysEar 70 = .ok (.goto 59, 3) := by decide +kernel
theorem dX9_laysEar_73 : decode cX9_laysEar 73 = .ok (.aload_n 0, 1) := by decide +kernel
theorem dX9_laysEar_74 : decode cX9_laysEar 74 = .ok (.getfield 77, 3) := by decide +kernel
theorem dX9_laysEar_77 : decode cX9_laysEar 77 = .ok (.iconst 1, 1) := by decide +kernel
theorem dX9_laysEar_78 : decode cX9_laysEar 78 = .ok (.iload_n 3, 1) := by decide +kernel
theorem dX9_laysEar_79 : decode cX9_laysEar 79 = .ok (.iastore, 1) := by decide +kernel
theorem dX9_laysEar_80 : decode cX9_laysEar 80 = .ok (.aload_n 0, 1) := by decide +kernel
theorem dX9_laysEar_81 : decode cX9_laysEar 81 = .ok (.iconst 2, 1) := by decide +kernel
theorem dX9_laysEar_82 : decode cX9_laysEar 82 = .ok (.invokevirtual 372, 3) := by decide +kernel
theorem dX9_laysEar_85 : decode cX9_laysEar 85 = .ok (.aload_n 0, 1) := by decide +kernel
theorem dX9_laysEar_86 : decode cX9_laysEar 86 = .ok (.iconst 0, 1) := by decide +kernel
theorem dX9_laysEar_87 : decode cX9_laysEar 87 = .ok (.invokevirtual 336, 3) := by decide +kernel
theorem dX9_laysEar_90 : decode cX9_laysEar 90 = .ok (.aload_n 0, 1) := by decide +kernel
theorem dX9_laysEar_91 : decode cX9_laysEar 91 = .ok (.iconst 1, 1) := by decide +kernel
theorem dX9_laysEar_92 : decode cX9_laysEar 92 = .ok (.invokevirtual 336, 3) := by decide +kernel
theorem dX9_laysEar_95 : decode cX9_laysEar 95 = .ok (.isub, 1) := by decide +kernel
theorem dX9_laysEar_96 : decode cX9_laysEar 96 = .ok (.istore 4, 2) := by decide +kernel
theorem dX9_laysEar_98 : decode cX9_laysEar 98 = .ok (.aload_n 0, 1) := by decide +kernel
theorem dX9_laysEar_99 : decode cX9_laysEar 99 = .ok (.getfield 420, 3) := by decide +kernel
theorem dX9_laysEar_102 : decode cX9_laysEar 102 = .ok (.iconst (-1), 1) := by decide +kernel
theorem dX9_laysEar_103 : decode cX9_laysEar 103 = .ok (.if_icmp .eq 15, 3) := by decide +kernel
theorem dX9_laysEar_106 : decode cX9_laysEar 106 = .ok (.iload 4, 2) := by decide +kernel
theorem dX9_laysEar_108 : decode cX9_laysEar 108 = .ok (.aload_n 0, 1) := by decide +kernel
theorem dX9_laysEar_109 : decode cX9_laysEar 109 = .ok (.getfield 423, 3) := by decide +kernel
theorem dX9_laysEar_112 : decode cX9_laysEar 112 = .ok (.if_icmp .lt 6, 3) := by decide +kernel
theorem dX9_laysEar_115 : decode cX9_laysEar 115 = .ok (.goto 14, 3) := by decide +kernel
theorem dX9_laysEar_118 : decode cX9_laysEar 118 = .ok (.aload_n 0, 1) := by decide +kernel
theorem dX9_laysEar_119 : decode cX9_laysEar 119 = .ok (.iload_n 3, 1) := by decide +kernel
theorem dX9_laysEar_120 : decode cX9_laysEar 120 = .ok (.putfield 420, 3) := by decide +kernel
theorem dX9_laysEar_123 : decode cX9_laysEar 123 = .ok (.aload_n 0, 1) := by decide +kernel
theorem dX9_laysEar_124 : decode cX9_laysEar 124 = .ok (.iload 4, 2) := by decide +kernel
theorem dX9_laysEar_126 : decode cX9_laysEar 126 = .ok (.putfield 423, 3) := by decide +kernel
theorem dX9_laysEar_129 : decode cX9_laysEar 129 = .ok (.iinc 3 1, 3) := by decide +kernel
theorem dX9_laysEar_132 : decode cX9_laysEar 132 = .ok (.goto (-78), 3) := by decide +kernel
theorem dX9_laysEar_135 : decode cX9_laysEar 135 = .ok (.return_, 1) := by decide +kernel
theorem dX9_laysNow_0 : decode cX9_laysNow 0 = .ok (.aload_n 0, 1) := by decide +kernel
theorem dX9_laysNow_1 : decode cX9_laysNow 1 = .ok (.invokevirtual 319, 3) := by decide +kernel
theorem dX9_laysNow_4 : decode cX9_laysNow 4 = .ok (.aload_n 0, 1) := by decide +kernel
theorem dX9_laysNow_5 : decode cX9_laysNow 5 = .ok (.invokevirtual 322, 3) := by decide +kernel
theorem dX9_laysNow_8 : decode cX9_laysNow 8 = .ok (.return_, 1) := by decide +kernel
theorem dX9_laysPlan_0 : decode cX9_laysPlan 0 = .ok (.aload_n 0, 1) := by decide +kernel
theorem dX9_laysPlan_1 : decode cX9_laysPlan 1 = .ok (.iconst (-1), 1) := by decide +kernel
theorem dX9_laysPlan_2 : decode cX9_laysPlan 2 = .ok (.putfield 375, 3) := by decide +kernel
theorem dX9_laysPlan_5 : decode cX9_laysPlan 5 = .ok (.aload_n 0, 1) := by decide +kernel
theorem dX9_laysPlan_6 : decode cX9_laysPlan 6 = .ok (.iconst 0, 1) := by decide +kernel
theorem dX9_laysPlan_7 : decode cX9_laysPlan 7 = .ok (.putfield 378, 3) := by decide +kernel
theorem dX9_laysPlan_10 : decode cX9_laysPlan 10 = .ok (.aload_n 0, 1) := by decide +kernel
theorem dX9_laysPlan_11 : decode cX9_laysPlan 11 = .ok (.iconst 0, 1) := by decide +kernel
theorem dX9_laysPlan_12 : decode cX9_laysPlan 12 = .ok (.iload_n 1, 1) := by decide +kernel
theorem dX9_laysPlan_13 : decode cX9_laysPlan 13 = .ok (.invokevirtual 381, 3) := by decide +kernel
theorem dX9_laysPlan_16 : decode cX9_laysPlan 16 = .ok (.return_, 1) := by decide +kernel
theorem dX9_laysSeen_0 : decode cX9_laysSeen 0 = .ok (.aload_n 0, 1) := by decide +kernel
theorem dX9_laysSeen_1 : decode cX9_laysSeen 1 = .ok (.iconst 0, 1) := by decide +kernel
theorem dX9_laysSeen_2 : decode cX9_laysSeen 2 = .ok (.putfield 392, 3) := by decide +kernel
theorem dX9_laysSeen_5 : decode cX9_laysSeen 5 = .ok (.aload_n 0, 1) := by decide +kernel
theorem dX9_laysSeen_6 : decode cX9_laysSeen 6 = .ok (.iconst (-1), 1) := by decide +kernel
theorem dX9_laysSeen_7 : decode cX9_laysSeen 7 = .ok (.putfield 395, 3) := by decide +kernel
theorem dX9_laysSeen_10 : decode cX9_laysSeen 10 = .ok (.aload_n 0, 1) := by decide +kernel
theorem dX9_laysSeen_11 : decode cX9_laysSeen 11 = .ok (.iconst (-1), 1) := by decide +kernel
theorem dX9_laysSeen_12 : decode cX9_laysSeen 12 = .ok (.putfield 398, 3) := by decide +kernel
theorem dX9_laysSeen_15 : decode cX9_laysSeen 15 = .ok (.iconst 0, 1) := by decide +kernel
theorem dX9_laysSeen_16 : decode cX9_laysSeen 16 = .ok (.istore_n 3, 1) := by decide +kernel
theorem dX9_laysSeen_17 : decode cX9_laysSeen 17 = .ok (.iload_n 3, 1) := by decide +kernel
theorem dX9_laysSeen_18 : decode cX9_laysSeen 18 = .ok (.sipush 1300, 3) := by decide +kernel
theorem dX9_laysSeen_21 : decode cX9_laysSeen 21 = .ok (.if_icmp .ge 16, 3) := by decide +kernel
theorem dX9_laysSeen_24 : decode cX9_laysSeen 24 = .ok (.aload_n 0, 1) := by decide +kernel
theorem dX9_laysSeen_25 : decode cX9_laysSeen 25 = .ok (.getfield 80, 3) := by decide +kernel
theorem dX9_laysSeen_28 : decode cX9_laysSeen 28 = .ok (.iload_n 3, 1) := by decide +kernel
theorem dX9_laysSeen_29 : decode cX9_laysSeen 29 = .ok (.iconst 0, 1) := by decide +kernel
theorem dX9_laysSeen_30 : decode cX9_laysSeen 30 = .ok (.iastore, 1) := by decide +kernel
theorem dX9_laysSeen_31 : decode cX9_laysSeen 31 = .ok (.iinc 3 1, 3) := by decide +kernel
theorem dX9_laysSeen_34 : decode cX9_laysSeen 34 = .ok (.goto (-17), 3) := by decide +kernel
theorem dX9_laysSeen_37 : decode cX9_laysSeen 37 = .ok (.iconst 0, 1) := by decide +kernel
theorem dX9_laysSeen_38 : decode cX9_laysSeen 38 = .ok (.istore_n 3, 1) := by decide +kernel
theorem dX9_laysSeen_39 : decode cX9_laysSeen 39 = .ok (.iload_n 3, 1) := by decide +kernel
theorem dX9_laysSeen_40 : decode cX9_laysSeen 40 = .ok (.bipush 60, 2) := by decide +kernel
theorem dX9_laysSeen_42 : decode cX9_laysSeen 42 = .ok (.if_icmp .gt 110, 3) := by decide +kernel
theorem dX9_laysSeen_45 : decode cX9_laysSeen 45 = .ok (.aload_n 0, 1) := by decide +kernel
theorem dX9_laysSeen_46 : decode cX9_laysSeen 46 = .ok (.invokevirtual 319, 3) := by decide +kernel
theorem dX9_laysSeen_49 : decode cX9_laysSeen 49 = .ok (.aload_n 0, 1) := by decide +kernel
theorem dX9_laysSeen_50 : decode cX9_laysSeen 50 = .ok (.getfield 53, 3) := by decide +kernel
theorem dX9_laysSeen_53 : decode cX9_laysSeen 53 = .ok (.iload_n 2, 1) := by decide +kernel
theorem dX9_laysSeen_54 : decode cX9_laysSeen 54 = .ok (.iload_n 3, 1) := by decide +kernel
theorem dX9_laysSeen_55 : decode cX9_laysSeen 55 = .ok (.iastore, 1) := by decide +kernel
theorem dX9_laysSeen_56 : decode cX9_laysSeen 56 = .ok (.aload_n 0, 1) := by decide +kernel
theorem dX9_laysSeen_57 : decode cX9_laysSeen 57 = .ok (.invokevirtual 322, 3) := by decide +kernel
theorem dX9_laysSeen_60 : decode cX9_laysSeen 60 = .ok (.aload_n 0, 1) := by decide +kernel
theorem dX9_laysSeen_61 : decode cX9_laysSeen 61 = .ok (.iload_n 1, 1) := by decide +kernel
theorem dX9_laysSeen_62 : decode cX9_laysSeen 62 = .ok (.invokevirtual 401, 3) := by decide +kernel
theorem dX9_laysSeen_65 : decode cX9_laysSeen 65 = .ok (.ifCond .ne 6, 3) := by decide +kernel
theorem dX9_laysSeen_68 : decode cX9_laysSeen 68 = .ok (.goto 78, 3) := by decide +kernel
theorem dX9_laysSeen_71 : decode cX9_laysSeen 71 = .ok (.aload_n 0, 1) := by decide +kernel
theorem dX9_laysSeen_72 : decode cX9_laysSeen 72 = .ok (.dup, 1) := by decide +kernel
theorem dX9_laysSeen_73 : decode cX9_laysSeen 73 = .ok (.getfield 392, 3) := by decide +kernel
theorem dX9_laysSeen_76 : decode cX9_laysSeen 76 = .ok (.iconst 1, 1) := by decide +kernel
theorem dX9_laysSeen_77 : decode cX9_laysSeen 77 = .ok (.iadd, 1) := by decide +kernel
theorem dX9_laysSeen_78 : decode cX9_laysSeen 78 = .ok (.putfield 392, 3) := by decide +kernel
theorem dX9_laysSeen_81 : decode cX9_laysSeen 81 = .ok (.aload_n 0, 1) := by decide +kernel
theorem dX9_laysSeen_82 : decode cX9_laysSeen 82 = .ok (.aload_n 0, 1) := by decide +kernel
theorem dX9_laysSeen_83 : decode cX9_laysSeen 83 = .ok (.getfield 395, 3) := by decide +kernel
theorem dX9_laysSeen_86 : decode cX9_laysSeen 86 = .ok (.iconst (-1), 1) := by decide +kernel
theorem dX9_laysSeen_87 : decode cX9_laysSeen 87 = .ok (.if_icmp .ne 7, 3) := by decide +kernel
theorem dX9_laysSeen_90 : decode cX9_laysSeen 90 = .ok (.iload_n 3, 1) := by decide +kernel
theorem dX9_laysSeen_91 : decode cX9_laysSeen 91 = .ok (.goto 7, 3) := by decide +kernel
theorem dX9_laysSeen_94 : decode cX9_laysSeen 94 = .ok (.aload_n 0, 1) := by decide +kernel
theorem dX9_laysSeen_95 : decode cX9_laysSeen 95 = .ok (.getfield 395, 3) := by decide +kernel
theorem dX9_laysSeen_98 : decode cX9_laysSeen 98 = .ok (.putfield 395, 3) := by decide +kernel
theorem dX9_laysSeen_101 : decode cX9_laysSeen 101 = .ok (.aload_n 0, 1) := by decide +kernel
theorem dX9_laysSeen_102 : decode cX9_laysSeen 102 = .ok (.iload_n 3, 1) := by decide +kernel
theorem dX9_laysSeen_103 : decode cX9_laysSeen 103 = .ok (.putfield 398, 3) := by decide +kernel
theorem dX9_laysSeen_106 : decode cX9_laysSeen 106 = .ok (.iconst 0, 1) := by decide +kernel
theorem dX9_laysSeen_107 : decode cX9_laysSeen 107 = .ok (.istore 4, 2) := by decide +kernel
theorem dX9_laysSeen_109 : decode cX9_laysSeen 109 = .ok (.iload 4, 2) := by decide +kernel
theorem dX9_laysSeen_111 : decode cX9_laysSeen 111 = .ok (.aload_n 0, 1) := by decide +kernel
theorem dX9_laysSeen_112 : decode cX9_laysSeen 112 = .ok (.invokevirtual 251, 3) := by decide +kernel
theorem dX9_laysSeen_115 : decode cX9_laysSeen 115 = .ok (.if_icmp .gt 31, 3) := by decide +kernel
theorem dX9_laysSeen_118 : decode cX9_laysSeen 118 = .ok (.aload_n 0, 1) := by decide +kernel
theorem dX9_laysSeen_119 : decode cX9_laysSeen 119 = .ok (.getfield 80, 3) := by decide +kernel
theorem dX9_laysSeen_122 : decode cX9_laysSeen 122 = .ok (.bipush 100, 2) := by decide +kernel
theorem dX9_laysSeen_124 : decode cX9_laysSeen 124 = .ok (.iload 4, 2) := by decide +kernel
theorem dX9_laysSeen_126 : decode cX9_laysSeen 126 = .ok (.imul, 1) := by decide +kernel
theorem dX9_laysSeen_127 : decode cX9_laysSeen 127 = .ok (.aload_n 0, 1) := by decide +kernel
theorem dX9_laysSeen_128 : decode cX9_laysSeen 128 = .ok (.iload_n 2, 1) := by decide +kernel
theorem dX9_laysSeen_129 : decode cX9_laysSeen 129 = .ok (.iload 4, 2) := by decide +kernel
theorem dX9_laysSeen_131 : decode cX9_laysSeen 131 = .ok (.invokevirtual 301, 3) := by decide +kernel
theorem dX9_laysSeen_134 : decode cX9_laysSeen 134 = .ok (.iadd, 1) := by decide +kernel
theorem dX9_laysSeen_135 : decode cX9_laysSeen 135 = .ok (.dup2, 1) := by decide +kernel
theorem dX9_laysSeen_136 : decode cX9_laysSeen 136 = .ok (.iaload, 1) := by decide +kernel
theorem dX9_laysSeen_137 : decode cX9_laysSeen 137 = .ok (.iconst 1, 1) := by decide +kernel
theorem dX9_laysSeen_138 : decode cX9_laysSeen 138 = .ok (.iadd, 1) := by decide +kernel
theorem dX9_laysSeen_139 : decode cX9_laysSeen 139 = .ok (.iastore, 1) := by decide +kernel
theorem dX9_laysSeen_140 : decode cX9_laysSeen 140 = .ok (.iinc 4 1, 3) := by decide +kernel
theorem dX9_laysSeen_143 : decode cX9_laysSeen 143 = .ok (.goto (-34), 3) := by decide +kernel
theorem dX9_laysSeen_146 : decode cX9_laysSeen 146 = .ok (.iinc 3 1, 3) := by decide +kernel
theorem dX9_laysSeen_149 : decode cX9_laysSeen 149 = .ok (.goto (-110), 3) := by decide +kernel
theorem dX9_laysSeen_152 : decode cX9_laysSeen 152 = .ok (.aload_n 0, 1) := by decide +kernel
theorem dX9_laysSeen_153 : decode cX9_laysSeen 153 = .ok (.iconst (-1), 1) := by decide +kernel
theorem dX9_laysSeen_154 : decode cX9_laysSeen 154 = .ok (.putfield 404, 3) := by decide +kernel
theorem dX9_laysSeen_157 : decode cX9_laysSeen 157 = .ok (.aload_n 0, 1) := by decide +kernel
theorem dX9_laysSeen_158 : decode cX9_laysSeen 158 = .ok (.aload_n 0, 1) := by decide +kernel
theorem dX9_laysSeen_159 : decode cX9_laysSeen 159 = .ok (.getfield 392, 3) := by decide +kernel
theorem dX9_laysSeen_162 : decode cX9_laysSeen 162 = .ok (.putfield 407, 3) := by decide +kernel
theorem dX9_laysSeen_165 : decode cX9_laysSeen 165 = .ok (.iconst 0, 1) := by decide +kernel
theorem dX9_laysSeen_166 : decode cX9_laysSeen 166 = .ok (.istore_n 3, 1) := by decide +kernel
theorem dX9_laysSeen_167 : decode cX9_laysSeen 167 = .ok (.iload_n 3, 1) := by decide +kernel
theorem dX9_laysSeen_168 : decode cX9_laysSeen 168 = .ok (.aload_n 0, 1) := by decide +kernel
theorem dX9_laysSeen_169 : decode cX9_laysSeen 169 = .ok (.invokevirtual 251, 3) := by decide +kernel
theorem dX9_laysSeen_172 : decode cX9_laysSeen 172 = .ok (.if_icmp .gt 70, 3) := by decide +kernel
theorem dX9_laysSeen_175 : decode cX9_laysSeen 175 = .ok (.iconst 0, 1) := by decide +kernel
theorem dX9_laysSeen_176 : decode cX9_laysSeen 176 = .ok (.istore 4, 2) := by decide +kernel
theorem dX9_laysSeen_178 : decode cX9_laysSeen 178 = .ok (.iconst 0, 1) := by decide +kernel
theorem dX9_laysSeen_179 : decode cX9_laysSeen 179 = .ok (.istore 5, 2) := by decide +kernel
theorem dX9_laysSeen_181 : decode cX9_laysSeen 181 = .ok (.iload 5, 2) := by decide +kernel
theorem dX9_laysSeen_183 : decode cX9_laysSeen 183 = .ok (.bipush 100, 2) := by decide +kernel
theorem dX9_laysSeen_185 : decode cX9_laysSeen 185 = .ok (.if_icmp .ge 28, 3) := by decide +kernel
theorem dX9_laysSeen_188 : decode cX9_laysSeen 188 = .ok (.iload 4, 2) := by decide +kernel
theorem dX9_laysSeen_190 : decode cX9_laysSeen 190 = .ok (.aload_n 0, 1) := by decide +kernel
theorem dX9_laysSeen_191 : decode cX9_laysSeen 191 = .ok (.getfield 80, 3) := by decide +kernel
theorem dX9_laysSeen_194 : decode cX9_laysSeen 194 = .ok (.bipush 100, 2) := by decide +kernel
theorem dX9_laysSeen_196 : decode cX9_laysSeen 196 = .ok (.iload_n 3, 1) := by decide +kernel
theorem dX9_laysSeen_197 : decode cX9_laysSeen 197 = .ok (.imul, 1) := by decide +kernel
theorem dX9_laysSeen_198 : decode cX9_laysSeen 198 = .ok (.iload 5, 2) := by decide +kernel
theorem dX9_laysSeen_200 : decode cX9_laysSeen 200 = .ok (.iadd, 1) := by decide +kernel
theorem dX9_laysSeen_201 : decode cX9_laysSeen 201 = .ok (.iaload, 1) := by decide +kernel
theorem dX9_laysSeen_202 : decode cX9_laysSeen 202 = .ok (.invokestatic 279, 3) := by decide +kernel
theorem dX9_laysSeen_205 : decode cX9_laysSeen 205 = .ok (.istore 4, 2) := by decide +kernel
theorem dX9_laysSeen_207 : decode cX9_laysSeen 207 = .ok (.iinc 5 1, 3) := by decide +kernel
theorem dX9_laysSeen_210 : decode cX9_laysSeen 210 = .ok (.goto (-29), 3) := by decide +kernel
theorem dX9_laysSeen_213 : decode cX9_laysSeen 213 = .ok (.iload 4, 2) := by decide +kernel
theorem dX9_laysSeen_215 : decode cX9_laysSeen 215 = .ok (.aload_n 0, 1) := by decide +kernel
theorem dX9_laysSeen_216 : decode cX9_laysSeen 216 = .ok (.getfield 407, 3) := by decide +kernel
theorem dX9_laysSeen_219 : decode cX9_laysSeen 219 = .ok (.if_icmp .lt 6, 3) := by decide +kernel
theorem dX9_laysSeen_222 : decode cX9_laysSeen 222 = .ok (.goto 14, 3) := by decide +kernel
theorem dX9_laysSeen_225 : decode cX9_laysSeen 225 = .ok (.aload_n 0, 1) := by decide +kernel
theorem dX9_laysSeen_226 : decode cX9_laysSeen 226 = .ok (.iload_n 3, 1) := by decide +kernel
theorem dX9_laysSeen_227 : decode cX9_laysSeen 227 = .ok (.putfield 404, 3) := by decide +kernel
theorem dX9_laysSeen_230 : decode cX9_laysSeen 230 = .ok (.aload_n 0, 1) := by decide +kernel
theorem dX9_laysSeen_231 : decode cX9_laysSeen 231 = .ok (.iload 4, 2) := by decide +kernel
theorem dX9_laysSeen_233 : decode cX9_laysSeen 233 = .ok (.putfield 407, 3) := by decide +kernel
theorem dX9_laysSeen_236 : decode cX9_laysSeen 236 = .ok (.iinc 3 1, 3) := by decide +kernel
theorem dX9_laysSeen_239 : decode cX9_laysSeen 239 = .ok (.goto (-72), 3) := by decide +kernel
theorem dX9_laysSeen_242 : decode cX9_laysSeen 242 = .ok (.return_, 1) := by decide +kernel
theorem dX9_laysUncle_0 : decode cX9_laysUncle 0 = .ok (.aload_n 0, 1) := by decide +kernel
theorem dX9_laysUncle_1 : decode cX9_laysUncle 1 = .ok (.iconst (-1), 1) := by decide +kernel
theorem dX9_laysUncle_2 : decode cX9_laysUncle 2 = .ok (.putfield 426, 3) := by decide +kernel
theorem dX9_laysUncle_5 : decode cX9_laysUncle 5 = .ok (.aload_n 0, 1) := by decide +kernel
theorem dX9_laysUncle_6 : decode cX9_laysUncle 6 = .ok (.sipush (-1000), 3) := by decide +kernel
theorem dX9_laysUncle_9 : decode cX9_laysUncle 9 = .ok (.putfield 429, 3) := by decide +kernel
theorem dX9_laysUncle_12 : decode cX9_laysUncle 12 = .ok (.iconst 0, 1) := by decide +kernel
theorem dX9_laysUncle_13 : decode cX9_laysUncle 13 = .ok (.istore_n 1, 1) := by decide +kernel
theorem dX9_laysUncle_14 : decode cX9_laysUncle 14 = .ok (.iload_n 1, 1) := by decide +kernel
theorem dX9_laysUncle_15 : decode cX9_laysUncle 15 = .ok (.aload_n 0, 1) := by decide +kernel
theorem dX9_laysUncle_16 : decode cX9_laysUncle 16 = .ok (.invokevirtual 245, 3) := by decide +kernel
theorem dX9_laysUncle_19 : decode cX9_laysUncle 19 = .ok (.if_icmp .ge 49, 3) := by decide +kernel
theorem dX9_laysUncle_22 : decode cX9_laysUncle 22 = .ok (.aload_n 0, 1) := by decide +kernel
theorem dX9_laysUncle_23 : decode cX9_laysUncle 23 = .ok (.iload_n 1, 1) := by decide +kernel
theorem dX9_laysUncle_24 : decode cX9_laysUncle 24 = .ok (.invokevirtual 432, 3) := by decide +kernel
theorem dX9_laysUncle_27 : decode cX9_laysUncle 27 = .ok (.aload_n 0, 1) := by decide +kernel
theorem dX9_laysUncle_28 : decode cX9_laysUncle 28 = .ok (.getfield 426, 3) := by decide +kernel
theorem dX9_laysUncle_31 : decode cX9_laysUncle 31 = .ok (.iconst (-1), 1) := by decide +kernel
theorem dX9_laysUncle_32 : decode cX9_laysUncle 32 = .ok (.if_icmp .eq 17, 3) := by decide +kernel
theorem dX9_laysUncle_35 : decode cX9_laysUncle 35 = .ok (.aload_n 0, 1) := by decide +kernel
theorem dX9_laysUncle_36 : decode cX9_laysUncle 36 = .ok (.getfield 423, 3) := by decide +kernel
theorem dX9_laysUncle_39 : decode cX9_laysUncle 39 = .ok (.aload_n 0, 1) := by decide +kernel
theorem dX9_laysUncle_40 : decode cX9_laysUncle 40 = .ok (.getfield 429, 3) := by decide +kernel
theorem dX9_laysUncle_43 : decode cX9_laysUncle 43 = .ok (.if_icmp .gt 6, 3) := by decide +kernel
theorem dX9_laysUncle_46 : decode cX9_laysUncle 46 = .ok (.goto 16, 3) := by decide +kernel
theorem dX9_laysUncle_49 : decode cX9_laysUncle 49 = .ok (.aload_n 0, 1) := by decide +kernel
theorem dX9_laysUncle_50 : decode cX9_laysUncle 50 = .ok (.iload_n 1, 1) := by decide +kernel
theorem dX9_laysUncle_51 : decode cX9_laysUncle 51 = .ok (.putfield 426, 3) := by decide +kernel
theorem dX9_laysUncle_54 : decode cX9_laysUncle 54 = .ok (.aload_n 0, 1) := by decide +kernel
theorem dX9_laysUncle_55 : decode cX9_laysUncle 55 = .ok (.aload_n 0, 1) := by decide +kernel
theorem dX9_laysUncle_56 : decode cX9_laysUncle 56 = .ok (.getfield 423, 3) := by decide +kernel
theorem dX9_laysUncle_59 : decode cX9_laysUncle 59 = .ok (.putfield 429, 3) := by decide +kernel
theorem dX9_laysUncle_62 : decode cX9_laysUncle 62 = .ok (.iinc 1 1, 3) := by decide +kernel
theorem dX9_laysUncle_65 : decode cX9_laysUncle 65 = .ok (.goto (-51), 3) := by decide +kernel
theorem dX9_laysUncle_68 : decode cX9_laysUncle 68 = .ok (.return_, 1) := by decide +kernel
theorem dX9_leaves_0 : decode cX9_leaves 0 = .ok (.aload_n 0, 1) := by decide +kernel
theorem dX9_leaves_1 : decode cX9_leaves 1 = .ok (.iconst 0, 1) := by decide +kernel
theorem dX9_leaves_2 : decode cX9_leaves 2 = .ok (.putfield 83, 3) := by decide +kernel
theorem dX9_leaves_5 : decode cX9_leaves 5 = .ok (.aload_n 0, 1) := by decide +kernel
theorem dX9_leaves_6 : decode cX9_leaves 6 = .ok (.iload_n 1, 1) := by decide +kernel
theorem dX9_leaves_7 : decode cX9_leaves 7 = .ok (.aload_n 0, 1) := by decide +kernel
theorem dX9_leaves_8 : decode cX9_leaves 8 = .ok (.iload_n 2, 1) := by decide +kernel
theorem dX9_leaves_9 : decode cX9_leaves 9 = .ok (.i2l, 1) := by decide +kernel
theorem dX9_leaves_10 : decode cX9_leaves 10 = .ok (.invokevirtual 254, 3) := by decide +kernel
theorem dX9_leaves_13 : decode cX9_leaves 13 = .ok (.invokevirtual 410, 3) := by decide +kernel
theorem dX9_leaves_16 : decode cX9_leaves 16 = .ok (.istore_n 3, 1) := by decide +kernel
theorem dX9_leaves_17 : decode cX9_leaves 17 = .ok (.iload_n 3, 1) := by decide +kernel
theorem dX9_leaves_18 : decode cX9_leaves 18 = .ok (.ifCond .eq 5, 3) := by decide +kernel
theorem dX9_leaves_21 : decode cX9_leaves 21 = .ok (.iload_n 3, 1) := by decide +kernel
theorem dX9_leaves_22 : decode cX9_leaves 22 = .ok (.ireturn, 1) := by decide +kernel
theorem dX9_leaves_23 : decode cX9_leaves 23 = .ok (.aload_n 0, 1) := by decide +kernel
theorem dX9_leaves_24 : decode cX9_leaves 24 = .ok (.iload_n 1, 1) := by decide +kernel
theorem dX9_leaves_25 : decode cX9_leaves 25 = .ok (.iload_n 2, 1) := by decide +kernel
theorem dX9_leaves_26 : decode cX9_leaves 26 = .ok (.invokevirtual 414, 3) := by decide +kernel
theorem dX9_leaves_29 : decode cX9_leaves 29 = .ok (.aload_n 0, 1) := by decide +kernel
theorem dX9_leaves_30 : decode cX9_leaves 30 = .ok (.getfield 407, 3) := by decide +kernel
theorem dX9_leaves_33 : decode cX9_leaves 33 = .ok (.ireturn, 1) := by decide +kernel
theorem dX9_lessOf_0 : decode cX9_lessOf 0 = .ok (.iload_n 0, 1) := by decide +kernel
theorem dX9_lessOf_1 : decode cX9_lessOf 1 = .ok (.iload_n 1, 1) := by decide +kernel
theorem dX9_lessOf_2 : decode cX9_lessOf 2 = .ok (.if_icmp .ge 7, 3) := by decide +kernel
theorem dX9_lessOf_5 : decode cX9_lessOf 5 = .ok (.iload_n 0, 1) := by decide +kernel
theorem dX9_lessOf_6 : decode cX9_lessOf 6 = .ok (.goto 4, 3) := by decide +kernel
theorem dX9_lessOf_9 : decode cX9_lessOf 9 = .ok (.iload_n 1, 1) := by decide +kernel
theorem dX9_lessOf_10 : decode cX9_lessOf 10 = .ok (.ireturn, 1) := by decide +kernel
theorem dX9_lineHere_0 : decode cX9_lineHere 0 = .ok (.aload_n 0, 1) := by decide +kernel
theorem dX9_lineHere_1 : decode cX9_lineHere 1 = .ok (.aload_n 0, 1) := by decide +kernel
theorem dX9_lineHere_2 : decode cX9_lineHere 2 = .ok (.ldc2_w 192, 3) := by decide +kernel
theorem dX9_lineHere_5 : decode cX9_lineHere 5 = .ok (.invokevirtual 141, 3) := by decide +kernel
theorem dX9_lineHere_8 : decode cX9_lineHere 8 = .ok (.iconst 3, 1) := by decide +kernel
theorem dX9_lineHere_9 : decode cX9_lineHere 9 = .ok (.bipush 6, 2) := by decide +kernel
theorem dX9_lineHere_11 : decode cX9_lineHere 11 = .ok (.invokevirtual 194, 3) := by decide +kernel
theorem dX9_lineHere_14 : decode cX9_lineHere 14 = .ok (.ifCond .eq 10, 3) := by decide +kernel
theorem dX9_lineHere_17 : decode cX9_lineHere 17 = .ok (.aload_n 0, 1) := by decide +kernel
theorem dX9_lineHere_18 : decode cX9_lineHere 18 = .ok (.invokevirtual 198, 3) := by decide +kernel
theorem dX9_lineHere_21 : decode cX9_lineHere 21 = .ok (.goto 77, 3) := by decide +kernel
theorem dX9_lineHere_24 : decode cX9_lineHere 24 = .ok (.aload_n 0, 1) := by decide +kernel
theorem dX9_lineHere_25 : decode cX9_lineHere 25 = .ok (.getfield 135, 3) := by decide +kernel
theorem dX9_lineHere_28 : decode cX9_lineHere 28 = .ok (.ifCond .ne 27, 3) := by decide +kernel
theorem dX9_lineHere_31 : decode cX9_lineHere 31 = .ok (.aload_n 0, 1) := by decide +kernel
theorem dX9_lineHere_32 : decode cX9_lineHere 32 = .ok (.aload_n 0, 1) := by decide +kernel
theorem dX9_lineHere_33 : decode cX9_lineHere 33 = .ok (.ldc2_w 201, 3) := by decide +kernel
theorem dX9_lineHere_36 : decode cX9_lineHere 36 = .ok (.invokevirtual 141, 3) := by decide +kernel
theorem dX9_lineHere_39 : decode cX9_lineHere 39 = .ok (.iconst 4, 1) := by decide +kernel
theorem dX9_lineHere_40 : decode cX9_lineHere 40 = .ok (.bipush 10, 2) := by decide +kernel
theorem dX9_lineHere_42 : decode cX9_lineHere 42 = .ok (.invokevirtual 194, 3) := by decide +kernel
theorem dX9_lineHere_45 : decode cX9_lineHere 45 = .ok (.ifCond .eq 10, 3) := by decide +kernel
theorem dX9_lineHere_48 : decode cX9_lineHere 48 = .ok (.aload_n 0, 1) := by decide +kernel
theorem dX9_lineHere_49 : decode cX9_lineHere 49 = .ok (.invokevirtual 203, 3) := by decide +kernel
theorem dX9_lineHere_52 : decode cX9_lineHere 52 = .ok (.goto 46, 3) := by decide +kernel
theorem dX9_lineHere_55 : decode cX9_lineHere 55 = .ok (.aload_n 0, 1) := by decide +kernel
theorem dX9_lineHere_56 : decode cX9_lineHere 56 = .ok (.getfield 135, 3) := by decide +kernel
theorem dX9_lineHere_59 : decode cX9_lineHere 59 = .ok (.ifCond .ne 27, 3) := by decide +kernel
theorem dX9_lineHere_62 : decode cX9_lineHere 62 = .ok (.aload_n 0, 1) := by decide +kernel
theorem dX9_lineHere_63 : decode cX9_lineHere 63 = .ok (.aload_n 0, 1) := by decide +kernel
theorem dX9_lineHere_64 : decode cX9_lineHere 64 = .ok (.ldc2_w 206, 3) := by decide +kernel
theorem dX9_lineHere_67 : decode cX9_lineHere 67 = .ok (.invokevirtual 141, 3) := by decide +kernel
theorem dX9_lineHere_70 : decode cX9_lineHere 70 = .ok (.iconst 5, 1) := by decide +kernel
theorem dX9_lineHere_71 : decode cX9_lineHere 71 = .ok (.bipush 8, 2) := by decide +kernel
theorem dX9_lineHere_73 : decode cX9_lineHere 73 = .ok (.invokevirtual 194, 3) := by decide +kernel
theorem dX9_lineHere_76 : decode cX9_lineHere 76 = .ok (.ifCond .eq 10, 3) := by decide +kernel
theorem dX9_lineHere_79 : decode cX9_lineHere 79 = .ok (.aload_n 0, 1) := by decide +kernel
theorem dX9_lineHere_80 : decode cX9_lineHere 80 = .ok (.invokevirtual 208, 3) := by decide +kernel
theorem dX9_lineHere_83 : decode cX9_lineHere 83 = .ok (.goto 15, 3) := by decide +kernel
theorem dX9_lineHere_86 : decode cX9_lineHere 86 = .ok (.aload_n 0, 1) := by decide +kernel
theorem dX9_lineHere_87 : decode cX9_lineHere 87 = .ok (.getfield 135, 3) := by decide +kernel
theorem dX9_lineHere_90 : decode cX9_lineHere 90 = .ok (.ifCond .ne 8, 3) := by decide +kernel
theorem dX9_lineHere_93 : decode cX9_lineHere 93 = .ok (.aload_n 0, 1) := by decide +kernel
theorem dX9_lineHere_94 : decode cX9_lineHere 94 = .ok (.iconst 1, 1) := by decide +kernel
theorem dX9_lineHere_95 : decode cX9_lineHere 95 = .ok (.invokevirtual 151, 3) := by decide +kernel
theorem dX9_lineHere_98 : decode cX9_lineHere 98 = .ok (.return_, 1) := by decide +kernel
theorem dX9_lone_0 : decode cX9_lone 0 = .ok (.aload_n 0, 1) := by decide +kernel
theorem dX9_lone_1 : decode cX9_lone 1 = .ok (.iconst 0, 1) := by decide +kernel
theorem dX9_lone_2 : decode cX9_lone 2 = .ok (.putfield 83, 3) := by decide +kernel
theorem dX9_lone_5 : decode cX9_lone 5 = .ok (.aload_n 0, 1) := by decide +kernel
theorem dX9_lone_6 : decode cX9_lone 6 = .ok (.iload_n 1, 1) := by decide +kernel
theorem dX9_lone_7 : decode cX9_lone 7 = .ok (.i2l, 1) := by decide +kernel
theorem dX9_lone_8 : decode cX9_lone 8 = .ok (.invokevirtual 257, 3) := by decide +kernel
theorem dX9_lone_11 : decode cX9_lone 11 = .ok (.ifCond .ne 6, 3) := by decide +kernel
theorem dX9_lone_14 : decode cX9_lone 14 = .ok (.bipush (-2), 2) := by decide +kernel
theorem dX9_lone_16 : decode cX9_lone 16 = .ok (.ireturn, 1) := by decide +kernel
theorem dX9_lone_17 : decode cX9_lone 17 = .ok (.aload_n 0, 1) := by decide +kernel
theorem dX9_lone_18 : decode cX9_lone 18 = .ok (.invokevirtual 330, 3) := by decide +kernel
theorem dX9_lone_21 : decode cX9_lone 21 = .ok (.iconst 0, 1) := by decide +kernel
theorem dX9_lone_22 : decode cX9_lone 22 = .ok (.istore_n 2, 1) := by decide +kernel
theorem dX9_lone_23 : decode cX9_lone 23 = .ok (.iconst 0, 1) := by decide +kernel
theorem dX9_lone_24 : decode cX9_lone 24 = .ok (.istore_n 3, 1) := by decide +kernel
theorem dX9_lone_25 : decode cX9_lone 25 = .ok (.iload_n 3, 1) := by decide +kernel
theorem dX9_lone_26 : decode cX9_lone 26 = .ok (.aload_n 0, 1) := by decide +kernel
theorem dX9_lone_27 : decode cX9_lone 27 = .ok (.invokevirtual 245, 3) := by decide +kernel
theorem dX9_lone_30 : decode cX9_lone 30 = .ok (.if_icmp .ge 57, 3) := by decide +kernel
theorem dX9_lone_33 : decode cX9_lone 33 = .ok (.iload_n 2, 1) := by decide +kernel
theorem dX9_lone_34 : decode cX9_lone 34 = .ok (.aload_n 0, 1) := by decide +kernel
theorem dX9_lone_35 : decode cX9_lone 35 = .ok (.getfield 62, 3) := by decide +kernel
theorem dX9_lone_38 : decode cX9_lone 38 = .ok (.iload_n 1, 1) := by decide +kernel
theorem dX9_lone_39 : decode cX9_lone 39 = .ok (.iaload, 1) := by decide +kernel
theorem dX9_lone_40 : decode cX9_lone 40 = .ok (.iload_n 3, 1) := by decide +kernel
theorem dX9_lone_41 : decode cX9_lone 41 = .ok (.invokestatic 282, 3) := by decide +kernel
theorem dX9_lone_44 : decode cX9_lone 44 = .ok (.ifCond .ne 34, 3) := by decide +kernel
theorem dX9_lone_47 : decode cX9_lone 47 = .ok (.aload_n 0, 1) := by decide +kernel
theorem dX9_lone_48 : decode cX9_lone 48 = .ok (.iload_n 3, 1) := by decide +kernel
theorem dX9_lone_49 : decode cX9_lone 49 = .ok (.invokevirtual 292, 3) := by decide +kernel
theorem dX9_lone_52 : decode cX9_lone 52 = .ok (.ifCond .eq 26, 3) := by decide +kernel
theorem dX9_lone_55 : decode cX9_lone 55 = .ok (.aload_n 0, 1) := by decide +kernel
theorem dX9_lone_56 : decode cX9_lone 56 = .ok (.iload_n 3, 1) := by decide +kernel
theorem dX9_lone_57 : decode cX9_lone 57 = .ok (.invokevirtual 292, 3) := by decide +kernel
theorem dX9_lone_60 : decode cX9_lone 60 = .ok (.aload_n 0, 1) := by decide +kernel
theorem dX9_lone_61 : decode cX9_lone 61 = .ok (.getfield 62, 3) := by decide +kernel
theorem dX9_lone_64 : decode cX9_lone 64 = .ok (.iload_n 1, 1) := by decide +kernel
theorem dX9_lone_65 : decode cX9_lone 65 = .ok (.iaload, 1) := by decide +kernel
theorem dX9_lone_66 : decode cX9_lone 66 = .ok (.iconst (-1), 1) := by decide +kernel
theorem dX9_lone_67 : decode cX9_lone 67 = .ok (.ixor, 1) := by decide +kernel
theorem dX9_lone_68 : decode cX9_lone 68 = .ok (.iand, 1) := by decide +kernel
theorem dX9_lone_69 : decode cX9_lone 69 = .ok (.ifCond .ne 9, 3) := by decide +kernel
theorem dX9_lone_72 : decode cX9_lone 72 = .ok (.iconst 1, 1) := by decide +kernel
theorem dX9_lone_73 : decode cX9_lone 73 = .ok (.iload_n 3, 1) := by decide +kernel
theorem dX9_lone_74 : decode cX9_lone 74 = .ok (.ishl, 1) := by decide +kernel
theorem dX9_lone_75 : decode cX9_lone 75 = .ok (.goto 4, 3) := by decide +kernel
theorem dX9_lone_78 : decode cX9_lone 78 = .ok (.iconst 0, 1) := by decide +kernel
theorem dX9_lone_79 : decode cX9_lone 79 = .ok (.ior, 1) := by decide +kernel
theorem dX9_lone_80 : decode cX9_lone 80 = .ok (.istore_n 2, 1) := by decide +kernel
theorem dX9_lone_81 : decode cX9_lone 81 = .ok (.iinc 3 1, 3) := by decide +kernel
theorem dX9_lone_84 : decode cX9_lone 84 = .ok (.goto (-59), 3) := by decide +kernel
theorem dX9_lone_87 : decode cX9_lone 87 = .ok (.iload_n 2, 1) := by decide +kernel
theorem dX9_lone_88 : decode cX9_lone 88 = .ok (.ireturn, 1) := by decide +kernel
theorem dX9_lost_0 : decode cX9_lost 0 = .ok (.aload_n 0, 1) := by decide +kernel
theorem dX9_lost_1 : decode cX9_lost 1 = .ok (.iconst 0, 1) := by decide +kernel
theorem dX9_lost_2 : decode cX9_lost 2 = .ok (.putfield 83, 3) := by decide +kernel
theorem dX9_lost_5 : decode cX9_lost 5 = .ok (.aload_n 0, 1) := by decide +kernel
theorem dX9_lost_6 : decode cX9_lost 6 = .ok (.invokevirtual 248, 3) := by decide +kernel
theorem dX9_lost_9 : decode cX9_lost 9 = .ok (.ifCond .ne 6, 3) := by decide +kernel
theorem dX9_lost_12 : decode cX9_lost 12 = .ok (.bipush (-2), 2) := by decide +kernel
theorem dX9_lost_14 : decode cX9_lost 14 = .ok (.ireturn, 1) := by decide +kernel
theorem dX9_lost_15 : decode cX9_lost 15 = .ok (.aload_n 0, 1) := by decide +kernel
theorem dX9_lost_16 : decode cX9_lost 16 = .ok (.invokevirtual 330, 3) := by decide +kernel
theorem dX9_lost_19 : decode cX9_lost 19 = .ok (.iconst 0, 1) := by decide +kernel
theorem dX9_lost_20 : decode cX9_lost 20 = .ok (.istore_n 1, 1) := by decide +kernel
theorem dX9_lost_21 : decode cX9_lost 21 = .ok (.iconst 0, 1) := by decide +kernel
theorem dX9_lost_22 : decode cX9_lost 22 = .ok (.istore_n 2, 1) := by decide +kernel
theorem dX9_lost_23 : decode cX9_lost 23 = .ok (.iload_n 2, 1) := by decide +kernel
theorem dX9_lost_24 : decode cX9_lost 24 = .ok (.aload_n 0, 1) := by decide +kernel
theorem dX9_lost_25 : decode cX9_lost 25 = .ok (.invokevirtual 245, 3) := by decide +kernel
theorem dX9_lost_28 : decode cX9_lost 28 = .ok (.if_icmp .ge 41, 3) := by decide +kernel
theorem dX9_lost_31 : decode cX9_lost 31 = .ok (.iload_n 1, 1) := by decide +kernel
theorem dX9_lost_32 : decode cX9_lost 32 = .ok (.aload_n 0, 1) := by decide +kernel
theorem dX9_lost_33 : decode cX9_lost 33 = .ok (.getfield 71, 3) := by decide +kernel
theorem dX9_lost_36 : decode cX9_lost 36 = .ok (.iload_n 2, 1) := by decide +kernel
theorem dX9_lost_37 : decode cX9_lost 37 = .ok (.iaload, 1) := by decide +kernel
theorem dX9_lost_38 : decode cX9_lost 38 = .ok (.iconst (-1), 1) := by decide +kernel
theorem dX9_lost_39 : decode cX9_lost 39 = .ok (.if_icmp .ne 7, 3) := by decide +kernel
theorem dX9_lost_42 : decode cX9_lost 42 = .ok (.iconst 0, 1) := by decide +kernel
theorem dX9_lost_43 : decode cX9_lost 43 = .ok (.goto 18, 3) := by decide +kernel
theorem dX9_lost_46 : decode cX9_lost 46 = .ok (.aload_n 0, 1) := by decide +kernel
theorem dX9_lost_47 : decode cX9_lost 47 = .ok (.getfield 37, 3) := by decide +kernel
theorem dX9_lost_50 : decode cX9_lost 50 = .ok (.iconst 3, 1) := by decide +kernel
theorem dX9_lost_51 : decode cX9_lost 51 = .ok (.iload_n 2, 1) := by decide +kernel
theorem dX9_lost_52 : decode cX9_lost 52 = .ok (.imul, 1) := by decide +kernel
theorem dX9_lost_53 : decode cX9_lost 53 = .ok (.iaload, 1) := by decide +kernel
theorem dX9_lost_54 : decode cX9_lost 54 = .ok (.aload_n 0, 1) := by decide +kernel
theorem dX9_lost_55 : decode cX9_lost 55 = .ok (.getfield 71, 3) := by decide +kernel
theorem dX9_lost_58 : decode cX9_lost 58 = .ok (.iload_n 2, 1) := by decide +kernel
theorem dX9_lost_59 : decode cX9_lost 59 = .ok (.iaload, 1) := by decide +kernel
theorem dX9_lost_60 : decode cX9_lost 60 = .ok (.isub, 1) := by decide +kernel
theorem dX9_lost_61 : decode cX9_lost 61 = .ok (.iadd, 1) := by decide +kernel
theorem dX9_lost_62 : decode cX9_lost 62 = .ok (.istore_n 1, 1) := by decide +kernel
theorem dX9_lost_63 : decode cX9_lost 63 = .ok (.iinc 2 1, 3) := by decide +kernel
theorem dX9_lost_66 : decode cX9_lost 66 = .ok (.goto (-43), 3) := by decide +kernel
theorem dX9_lost_69 : decode cX9_lost 69 = .ok (.iload_n 1, 1) := by decide +kernel
theorem dX9_lost_70 : decode cX9_lost 70 = .ok (.ireturn, 1) := by decide +kernel
theorem dX9_low_0 : decode cX9_low 0 = .ok (.aload_n 0, 1) := by decide +kernel
theorem dX9_low_1 : decode cX9_low 1 = .ok (.iconst 0, 1) := by decide +kernel
theorem dX9_low_2 : decode cX9_low 2 = .ok (.putfield 83, 3) := by decide +kernel
theorem dX9_low_5 : decode cX9_low 5 = .ok (.aload_n 0, 1) := by decide +kernel
theorem dX9_low_6 : decode cX9_low 6 = .ok (.iload_n 1, 1) := by decide +kernel
theorem dX9_low_7 : decode cX9_low 7 = .ok (.aload_n 0, 1) := by decide +kernel
theorem dX9_low_8 : decode cX9_low 8 = .ok (.iload_n 2, 1) := by decide +kernel
theorem dX9_low_9 : decode cX9_low 9 = .ok (.i2l, 1) := by decide +kernel
theorem dX9_low_10 : decode cX9_low 10 = .ok (.invokevirtual 254, 3) := by decide +kernel
theorem dX9_low_13 : decode cX9_low 13 = .ok (.invokevirtual 410, 3) := by decide +kernel
theorem dX9_low_16 : decode cX9_low 16 = .ok (.istore_n 3, 1) := by decide +kernel
theorem dX9_low_17 : decode cX9_low 17 = .ok (.iload_n 3, 1) := by decide +kernel
theorem dX9_low_18 : decode cX9_low 18 = .ok (.ifCond .eq 5, 3) := by decide +kernel
theorem dX9_low_21 : decode cX9_low 21 = .ok (.iload_n 3, 1) := by decide +kernel
theorem dX9_low_22 : decode cX9_low 22 = .ok (.ireturn, 1) := by decide +kernel
theorem dX9_low_23 : decode cX9_low 23 = .ok (.aload_n 0, 1) := by decide +kernel
theorem dX9_low_24 : decode cX9_low 24 = .ok (.iload_n 1, 1) := by decide +kernel
theorem dX9_low_25 : decode cX9_low 25 = .ok (.iload_n 2, 1) := by decide +kernel
theorem dX9_low_26 : decode cX9_low 26 = .ok (.invokevirtual 414, 3) := by decide +kernel
theorem dX9_low_29 : decode cX9_low 29 = .ok (.aload_n 0, 1) := by decide +kernel
theorem dX9_low_30 : decode cX9_low 30 = .ok (.getfield 395, 3) := by decide +kernel
theorem dX9_low_33 : decode cX9_low 33 = .ok (.ireturn, 1) := by decide +kernel
theorem dX9_luck_0 : decode cX9_luck 0 = .ok (.aload_n 0, 1) := by decide +kernel
theorem dX9_luck_1 : decode cX9_luck 1 = .ok (.iconst 0, 1) := by decide +kernel
theorem dX9_luck_2 : decode cX9_luck 2 = .ok (.putfield 83, 3) := by decide +kernel
theorem dX9_luck_5 : decode cX9_luck 5 = .ok (.iload_n 1, 1) := by decide +kernel
theorem dX9_luck_6 : decode cX9_luck 6 = .ok (.invokestatic 466, 3) := by decide +kernel
theorem dX9_luck_9 : decode cX9_luck 9 = .ok (.ifCond .eq 24, 3) := by decide +kernel
theorem dX9_luck_12 : decode cX9_luck 12 = .ok (.iload_n 2, 1) := by decide +kernel
theorem dX9_luck_13 : decode cX9_luck 13 = .ok (.i2l, 1) := by decide +kernel
theorem dX9_luck_14 : decode cX9_luck 14 = .ok (.lconst 1, 1) := by decide +kernel
theorem dX9_luck_15 : decode cX9_luck 15 = .ok (.ldc2_w 473, 3) := by decide +kernel
theorem dX9_luck_18 : decode cX9_luck 18 = .ok (.invokestatic 88, 3) := by decide +kernel
theorem dX9_luck_21 : decode cX9_luck 21 = .ok (.ifCond .eq 12, 3) := by decide +kernel
theorem dX9_luck_24 : decode cX9_luck 24 = .ok (.aload_n 0, 1) := by decide +kernel
theorem dX9_luck_25 : decode cX9_luck 25 = .ok (.iload_n 3, 1) := by decide +kernel
theorem dX9_luck_26 : decode cX9_luck 26 = .ok (.i2l, 1) := by decide +kernel
theorem dX9_luck_27 : decode cX9_luck 27 = .ok (.invokevirtual 254, 3) := by decide +kernel
theorem dX9_luck_30 : decode cX9_luck 30 = .ok (.ifCond .ne 6, 3) := by decide +kernel
theorem dX9_luck_33 : decode cX9_luck 33 = .ok (.bipush (-2), 2) := by decide +kernel
theorem dX9_luck_35 : decode cX9_luck 35 = .ok (.ireturn, 1) := by decide +kernel
theorem dX9_luck_36 : decode cX9_luck 36 = .ok (.iconst 0, 1) := by decide +kernel
theorem dX9_luck_37 : decode cX9_luck 37 = .ok (.istore 4, 2) := by decide +kernel
theorem dX9_luck_39 : decode cX9_luck 39 = .ok (.iconst 0, 1) := by decide +kernel
theorem dX9_luck_40 : decode cX9_luck 40 = .ok (.istore 5, 2) := by decide +kernel
theorem dX9_luck_42 : decode cX9_luck 42 = .ok (.iload 5, 2) := by decide +kernel
theorem dX9_luck_44 : decode cX9_luck 44 = .ok (.iload_n 2, 1) := by decide +kernel
theorem dX9_luck_45 : decode cX9_luck 45 = .ok (.if_icmp .ge 38, 3) := by decide +kernel
theorem dX9_luck_48 : decode cX9_luck 48 = .ok (.aload_n 0, 1) := by decide +kernel
theorem dX9_luck_49 : decode cX9_luck 49 = .ok (.iload_n 1, 1) := by decide +kernel
theorem dX9_luck_50 : decode cX9_luck 50 = .ok (.i2l, 1) := by decide +kernel
theorem dX9_luck_51 : decode cX9_luck 51 = .ok (.iload 5, 2) := by decide +kernel
theorem dX9_luck_53 : decode cX9_luck 53 = .ok (.i2l, 1) := by decide +kernel
theorem dX9_luck_54 : decode cX9_luck 54 = .ok (.ladd, 1) := by decide +kernel
theorem dX9_luck_55 : decode cX9_luck 55 = .ok (.invokevirtual 469, 3) := by decide +kernel
theorem dX9_luck_58 : decode cX9_luck 58 = .ok (.pop, 1) := by decide +kernel
theorem dX9_luck_59 : decode cX9_luck 59 = .ok (.iload 4, 2) := by decide +kernel
theorem dX9_luck_61 : decode cX9_luck 61 = .ok (.aload_n 0, 1) := by decide +kernel
theorem dX9_luck_62 : decode cX9_luck 62 = .ok (.getfield 62, 3) := by decide +kernel
theorem dX9_luck_65 : decode cX9_luck 65 = .ok (.aload_n 0, 1) := by decide +kernel
theorem dX9_luck_66 : decode cX9_luck 66 = .ok (.invokevirtual 251, 3) := by decide +kernel
theorem dX9_luck_69 : decode cX9_luck 69 = .ok (.iaload, 1) := by decide +kernel
theorem dX9_luck_70 : decode cX9_luck 70 = .ok (.iload_n 3, 1) := by decide +kernel
theorem dX9_luck_71 : decode cX9_luck 71 = .ok (.ishr, 1) := by decide +kernel
theorem dX9_luck_72 : decode cX9_luck 72 = .ok (.iconst 1, 1) := by decide +kernel
theorem dX9_luck_73 : decode cX9_luck 73 = .ok (.iand, 1) := by decide +kernel
theorem dX9_luck_74 : decode cX9_luck 74 = .ok (.iadd, 1) := by decide +kernel
theorem dX9_luck_75 : decode cX9_luck 75 = .ok (.istore 4, 2) := by decide +kernel
theorem dX9_luck_77 : decode cX9_luck 77 = .ok (.iinc 5 1, 3) := by decide +kernel
theorem dX9_luck_80 : decode cX9_luck 80 = .ok (.goto (-38), 3) := by decide +kernel
theorem dX9_luck_83 : decode cX9_luck 83 = .ok (.iload 4, 2) := by decide +kernel
theorem dX9_luck_85 : decode cX9_luck 85 = .ok (.ireturn, 1) := by decide +kernel
theorem dX9_mean_0 : decode cX9_mean 0 = .ok (.aload_n 0, 1) := by decide +kernel
theorem dX9_mean_1 : decode cX9_mean 1 = .ok (.iconst 0, 1) := by decide +kernel
theorem dX9_mean_2 : decode cX9_mean 2 = .ok (.putfield 83, 3) := by decide +kernel
theorem dX9_mean_5 : decode cX9_mean 5 = .ok (.aload_n 0, 1) := by decide +kernel
theorem dX9_mean_6 : decode cX9_mean 6 = .ok (.invokevirtual 248, 3) := by decide +kernel
theorem dX9_mean_9 : decode cX9_mean 9 = .ok (.ifCond .eq 34, 3) := by decide +kernel
theorem dX9_mean_12 : decode cX9_mean 12 = .ok (.iload_n 1, 1) := by decide +kernel
theorem dX9_mean_13 : decode cX9_mean 13 = .ok (.invokestatic 364, 3) := by decide +kernel
theorem dX9_mean_16 : decode cX9_mean 16 = .ok (.ifCond .eq 27, 3) := by decide +kernel
theorem dX9_mean_19 : decode cX9_mean 19 = .ok (.aload_n 0, 1) := by decide +kernel
theorem dX9_mean_20 : decode cX9_mean 20 = .ok (.iconst (-1), 1) := by decide +kernel
theorem dX9_mean_21 : decode cX9_mean 21 = .ok (.invokevirtual 450, 3) := by decide +kernel
theorem dX9_mean_24 : decode cX9_mean 24 = .ok (.ldc2_w 448, 3) := by decide +kernel
theorem dX9_mean_27 : decode cX9_mean 27 = .ok (.aload_n 0, 1) := by decide +kernel
theorem dX9_mean_28 : decode cX9_mean 28 = .ok (.getfield 34, 3) := by decide +kernel
theorem dX9_mean_31 : decode cX9_mean 31 = .ok (.iconst 5, 1) := by decide +kernel
theorem dX9_mean_32 : decode cX9_mean 32 = .ok (.iaload, 1) := by decide +kernel
theorem dX9_mean_33 : decode cX9_mean 33 = .ok (.invokestatic 445, 3) := by decide +kernel
theorem dX9_mean_36 : decode cX9_mean 36 = .ok (.iload_n 1, 1) := by decide +kernel
theorem dX9_mean_37 : decode cX9_mean 37 = .ok (.invokestatic 368, 3) := by decide +kernel
theorem dX9_mean_40 : decode cX9_mean 40 = .ok (.goto 6, 3) := by decide +kernel
theorem dX9_mean_43 : decode cX9_mean 43 = .ok (.ldc2_w 454, 3) := by decide +kernel
theorem dX9_mean_46 : decode cX9_mean 46 = .ok (.lreturn, 1) := by decide +kernel
theorem dX9_moreOf_0 : decode cX9_moreOf 0 = .ok (.iload_n 0, 1) := by decide +kernel
theorem dX9_moreOf_1 : decode cX9_moreOf 1 = .ok (.iload_n 1, 1) := by decide +kernel
theorem dX9_moreOf_2 : decode cX9_moreOf 2 = .ok (.if_icmp .le 7, 3) := by decide +kernel
theorem dX9_moreOf_5 : decode cX9_moreOf 5 = .ok (.iload_n 0, 1) := by decide +kernel
theorem dX9_moreOf_6 : decode cX9_moreOf 6 = .ok (.goto 4, 3) := by decide +kernel
theorem dX9_moreOf_9 : decode cX9_moreOf 9 = .ok (.iload_n 1, 1) := by decide +kernel
theorem dX9_moreOf_10 : decode cX9_moreOf 10 = .ok (.ireturn, 1) := by decide +kernel
theorem dX9_near_0 : decode cX9_near 0 = .ok (.aload_n 0, 1) := by decide +kernel
theorem dX9_near_1 : decode cX9_near 1 = .ok (.iconst 0, 1) := by decide +kernel
theorem dX9_near_2 : decode cX9_near 2 = .ok (.putfield 83, 3) := by decide +kernel
theorem dX9_near_5 : decode cX9_near 5 = .ok (.aload_n 0, 1) := by decide +kernel
theorem dX9_near_6 : decode cX9_near 6 = .ok (.iload_n 1, 1) := by decide +kernel
theorem dX9_near_7 : decode cX9_near 7 = .ok (.i2l, 1) := by decide +kernel
theorem dX9_near_8 : decode cX9_near 8 = .ok (.invokevirtual 254, 3) := by decide +kernel
theorem dX9_near_11 : decode cX9_near 11 = .ok (.ifCond .ne 6, 3) := by decide +kernel
theorem dX9_near_14 : decode cX9_near 14 = .ok (.bipush (-2), 2) := by decide +kernel
theorem dX9_near_16 : decode cX9_near 16 = .ok (.ireturn, 1) := by decide +kernel
theorem dX9_near_17 : decode cX9_near 17 = .ok (.aload_n 0, 1) := by decide +kernel
theorem dX9_near_18 : decode cX9_near 18 = .ok (.invokevirtual 319, 3) := by decide +kernel
theorem dX9_near_21 : decode cX9_near 21 = .ok (.aload_n 0, 1) := by decide +kernel
theorem dX9_near_22 : decode cX9_near 22 = .ok (.iload_n 1, 1) := by decide +kernel
theorem dX9_near_23 : decode cX9_near 23 = .ok (.invokevirtual 292, 3) := by decide +kernel
theorem dX9_near_26 : decode cX9_near 26 = .ok (.ireturn, 1) := by decide +kernel
theorem dX9_nearOf_0 : decode cX9_nearOf 0 = .ok (.iconst 0, 1) := by decide +kernel
theorem dX9_nearOf_1 : decode cX9_nearOf 1 = .ok (.istore_n 2, 1) := by decide +kernel
theorem dX9_nearOf_2 : decode cX9_nearOf 2 = .ok (.iconst 0, 1) := by decide +kernel
theorem dX9_nearOf_3 : decode cX9_nearOf 3 = .ok (.istore_n 3, 1) := by decide +kernel
theorem dX9_nearOf_4 : decode cX9_nearOf 4 = .ok (.iload_n 3, 1) := by decide +kernel
theorem dX9_nearOf_5 : decode cX9_nearOf 5 = .ok (.aload_n 0, 1) := by decide +kernel
theorem dX9_nearOf_6 : decode cX9_nearOf 6 = .ok (.getfield 34, 3) := by decide +kernel
theorem dX9_nearOf_9 : decode cX9_nearOf 9 = .ok (.iconst 4, 1) := by decide +kernel
theorem dX9_nearOf_10 : decode cX9_nearOf 10 = .ok (.iaload, 1) := by decide +kernel
theorem dX9_nearOf_11 : decode cX9_nearOf 11 = .ok (.if_icmp .ge 74, 3) := by decide +kernel
theorem dX9_nearOf_14 : decode cX9_nearOf 14 = .ok (.iload_n 3, 1) := by decide +kernel
theorem dX9_nearOf_15 : decode cX9_nearOf 15 = .ok (.aload_n 0, 1) := by decide +kernel
theorem dX9_nearOf_16 : decode cX9_nearOf 16 = .ok (.getfield 266, 3) := by decide +kernel
theorem dX9_nearOf_19 : decode cX9_nearOf 19 = .ok (.if_icmp .ne 6, 3) := by decide +kernel
theorem dX9_nearOf_22 : decode cX9_nearOf 22 = .ok (.goto 57, 3) := by decide +kernel
theorem dX9_nearOf_25 : decode cX9_nearOf 25 = .ok (.aload_n 0, 1) := by decide +kernel
theorem dX9_nearOf_26 : decode cX9_nearOf 26 = .ok (.getfield 40, 3) := by decide +kernel
theorem dX9_nearOf_29 : decode cX9_nearOf 29 = .ok (.iconst 2, 1) := by decide +kernel
theorem dX9_nearOf_30 : decode cX9_nearOf 30 = .ok (.iload_n 3, 1) := by decide +kernel
theorem dX9_nearOf_31 : decode cX9_nearOf 31 = .ok (.imul, 1) := by decide +kernel
theorem dX9_nearOf_32 : decode cX9_nearOf 32 = .ok (.iaload, 1) := by decide +kernel
theorem dX9_nearOf_33 : decode cX9_nearOf 33 = .ok (.iload_n 1, 1) := by decide +kernel
theorem dX9_nearOf_34 : decode cX9_nearOf 34 = .ok (.if_icmp .ne 18, 3) := by decide +kernel
theorem dX9_nearOf_37 : decode cX9_nearOf 37 = .ok (.iload_n 2, 1) := by decide +kernel
theorem dX9_nearOf_38 : decode cX9_nearOf 38 = .ok (.iconst 1, 1) := by decide +kernel
theorem dX9_nearOf_39 : decode cX9_nearOf 39 = .ok (.aload_n 0, 1) := by decide +kernel
theorem dX9_nearOf_40 : decode cX9_nearOf 40 = .ok (.getfield 40, 3) := by decide +kernel
theorem dX9_nearOf_43 : decode cX9_nearOf 43 = .ok (.iconst 2, 1) := by decide +kernel
theorem dX9_nearOf_44 : decode cX9_nearOf 44 = .ok (.iload_n 3, 1) := by decide +kernel
theorem dX9_nearOf_45 : decode cX9_nearOf 45 = .ok (.imul, 1) := by decide +kernel
theorem dX9_nearOf_46 : decode cX9_nearOf 46 = .ok (.iconst 1, 1) := by decide +kernel
theorem dX9_nearOf_47 : decode cX9_nearOf 47 = .ok (.iadd, 1) := by decide +kernel
theorem dX9_nearOf_48 : decode cX9_nearOf 48 = .ok (.iaload, 1) := by decide +kernel
theorem dX9_nearOf_49 : decode cX9_nearOf 49 = .ok (.ishl, 1) := by decide +kernel
theorem dX9_nearOf_50 : decode cX9_nearOf 50 = .ok (.ior, 1) := by decide +kernel
theorem dX9_nearOf_51 : decode cX9_nearOf 51 = .ok (.istore_n 2, 1) := by decide +kernel
theorem dX9_nearOf_52 : decode cX9_nearOf 52 = .ok (.aload_n 0, 1) := by decide +kernel
theorem dX9_nearOf_53 : decode cX9_nearOf 53 = .ok (.getfield 40, 3) := by decide +kernel
theorem dX9_nearOf_56 : decode cX9_nearOf 56 = .ok (.iconst 2, 1) := by decide +kernel
theorem dX9_nearOf_57 : decode cX9_nearOf 57 = .ok (.iload_n 3, 1) := by decide +kernel
theorem dX9_nearOf_58 : decode cX9_nearOf 58 = .ok (.imul, 1) := by decide +kernel
theorem dX9_nearOf_59 : decode cX9_nearOf 59 = .ok (.iconst 1, 1) := by decide +kernel
theorem dX9_nearOf_60 : decode cX9_nearOf 60 = .ok (.iadd, 1) := by decide +kernel
theorem dX9_nearOf_61 : decode cX9_nearOf 61 = .ok (.iaload, 1) := by decide +kernel
theorem dX9_nearOf_62 : decode cX9_nearOf 62 = .ok (.iload_n 1, 1) := by decide +kernel
theorem dX9_nearOf_63 : decode cX9_nearOf 63 = .ok (.if_icmp .ne 16, 3) := by decide +kernel
theorem dX9_nearOf_66 : decode cX9_nearOf 66 = .ok (.iload_n 2, 1) := by decide +kernel
theorem dX9_nearOf_67 : decode cX9_nearOf 67 = .ok (.iconst 1, 1) := by decide +kernel
theorem dX9_nearOf_68 : decode cX9_nearOf 68 = .ok (.aload_n 0, 1) := by decide +kernel
theorem dX9_nearOf_69 : decode cX9_nearOf 69 = .ok (.getfield 40, 3) := by decide +kernel
theorem dX9_nearOf_72 : decode cX9_nearOf 72 = .ok (.iconst 2, 1) := by decide +kernel
theorem dX9_nearOf_73 : decode cX9_nearOf 73 = .ok (.iload_n 3, 1) := by decide +kernel
theorem dX9_nearOf_74 : decode cX9_nearOf 74 = .ok (.imul, 1) := by decide +kernel
theorem dX9_nearOf_75 : decode cX9_nearOf 75 = .ok (.iaload, 1) := by decide +kernel
theorem dX9_nearOf_76 : decode cX9_nearOf 76 = .ok (.ishl, 1) := by decide +kernel
theorem dX9_nearOf_77 : decode cX9_nearOf 77 = .ok (.ior, 1) := by decide +kernel
theorem dX9_nearOf_78 : decode cX9_nearOf 78 = .ok (.istore_n 2, 1) := by decide +kernel
theorem dX9_nearOf_79 : decode cX9_nearOf 79 = .ok (.iinc 3 1, 3) := by decide +kernel
theorem dX9_nearOf_82 : decode cX9_nearOf 82 = .ok (.goto (-78), 3) := by decide +kernel
theorem dX9_nearOf_85 : decode cX9_nearOf 85 = .ok (.iload_n 2, 1) := by decide +kernel
theorem dX9_nearOf_86 : decode cX9_nearOf 86 = .ok (.ireturn, 1) := by decide +kernel
theorem dX9_next_0 : decode cX9_next 0 = .ok (.aload_n 0, 1) := by decide +kernel
theorem dX9_next_1 : decode cX9_next 1 = .ok (.iconst 0, 1) := by decide +kernel
theorem dX9_next_2 : decode cX9_next 2 = .ok (.putfield 83, 3) := by decide +kernel
theorem dX9_next_5 : decode cX9_next 5 = .ok (.aload_n 0, 1) := by decide +kernel
theorem dX9_next_6 : decode cX9_next 6 = .ok (.iload_n 1, 1) := by decide +kernel
theorem dX9_next_7 : decode cX9_next 7 = .ok (.i2l, 1) := by decide +kernel
theorem dX9_next_8 : decode cX9_next 8 = .ok (.invokevirtual 257, 3) := by decide +kernel
theorem dX9_next_11 : decode cX9_next 11 = .ok (.ifCond .ne 6, 3) := by decide +kernel
theorem dX9_next_14 : decode cX9_next 14 = .ok (.bipush (-2), 2) := by decide +kernel
theorem dX9_next_16 : decode cX9_next 16 = .ok (.ireturn, 1) := by decide +kernel
theorem dX9_next_17 : decode cX9_next 17 = .ok (.aload_n 0, 1) := by decide +kernel
theorem dX9_next_18 : decode cX9_next 18 = .ok (.invokevirtual 330, 3) := by decide +kernel
theorem dX9_next_21 : decode cX9_next 21 = .ok (.iconst (-1), 1) := by decide +kernel
theorem dX9_next_22 : decode cX9_next 22 = .ok (.istore_n 2, 1) := by decide +kernel
theorem dX9_next_23 : decode cX9_next 23 = .ok (.iconst 0, 1) := by decide +kernel
theorem dX9_next_24 : decode cX9_next 24 = .ok (.istore_n 3, 1) := by decide +kernel
theorem dX9_next_25 : decode cX9_next 25 = .ok (.iload_n 3, 1) := by decide +kernel
theorem dX9_next_26 : decode cX9_next 26 = .ok (.aload_n 0, 1) := by decide +kernel
theorem dX9_next_27 : decode cX9_next 27 = .ok (.invokevirtual 245, 3) := by decide +kernel
theorem dX9_next_30 : decode cX9_next 30 = .ok (.if_icmp .ge 41, 3) := by decide +kernel
theorem dX9_next_33 : decode cX9_next 33 = .ok (.aload_n 0, 1) := by decide +kernel
theorem dX9_next_34 : decode cX9_next 34 = .ok (.iload_n 3, 1) := by decide +kernel
theorem dX9_next_35 : decode cX9_next 35 = .ok (.iload_n 1, 1) := by decide +kernel
theorem dX9_next_36 : decode cX9_next 36 = .ok (.invokevirtual 342, 3) := by decide +kernel
theorem dX9_next_39 : decode cX9_next 39 = .ok (.iconst (-1), 1) := by decide +kernel
theorem dX9_next_40 : decode cX9_next 40 = .ok (.if_icmp .eq 25, 3) := by decide +kernel
theorem dX9_next_43 : decode cX9_next 43 = .ok (.iload_n 2, 1) := by decide +kernel
theorem dX9_next_44 : decode cX9_next 44 = .ok (.iconst (-1), 1) := by decide +kernel
theorem dX9_next_45 : decode cX9_next 45 = .ok (.if_icmp .eq 18, 3) := by decide +kernel
theorem dX9_next_48 : decode cX9_next 48 = .ok (.aload_n 0, 1) := by decide +kernel
theorem dX9_next_49 : decode cX9_next 49 = .ok (.iload_n 3, 1) := by decide +kernel
theorem dX9_next_50 : decode cX9_next 50 = .ok (.iload_n 1, 1) := by decide +kernel
theorem dX9_next_51 : decode cX9_next 51 = .ok (.invokevirtual 342, 3) := by decide +kernel
theorem dX9_next_54 : decode cX9_next 54 = .ok (.aload_n 0, 1) := by decide +kernel
theorem dX9_next_55 : decode cX9_next 55 = .ok (.iload_n 2, 1) := by decide +kernel
theorem dX9_next_56 : decode cX9_next 56 = .ok (.iload_n 1, 1) := by decide +kernel
theorem dX9_next_57 : decode cX9_next 57 = .ok (.invokevirtual 342, 3) := by decide +kernel
theorem dX9_next_60 : decode cX9_next 60 = .ok (.if_icmp .le 5, 3) := by decide +kernel
theorem dX9_next_63 : decode cX9_next 63 = .ok (.iload_n 3, 1) := by decide +kernel
theorem dX9_next_64 : decode cX9_next 64 = .ok (.istore_n 2, 1) := by decide +kernel
theorem dX9_next_65 : decode cX9_next 65 = .ok (.iinc 3 1, 3) := by decide +kernel
theorem dX9_next_68 : decode cX9_next 68 = .ok (.goto (-43), 3) := by decide +kernel
theorem dX9_next_71 : decode cX9_next 71 = .ok (.iload_n 2, 1) := by decide +kernel
theorem dX9_next_72 : decode cX9_next 72 = .ok (.ireturn, 1) := by decide +kernel
theorem dX9_number_0 : decode cX9_number 0 = .ok (.aload_n 0, 1) := by decide +kernel
theorem dX9_number_1 : decode cX9_number 1 = .ok (.getfield 135, 3) := by decide +kernel
theorem dX9_number_4 : decode cX9_number 4 = .ok (.ifCond .eq 5, 3) := by decide +kernel
theorem dX9_number_7 : decode cX9_number 7 = .ok (.iload_n 1, 1) := by decide +kernel
theorem dX9_number_8 : decode cX9_number 8 = .ok (.ireturn, 1) := by decide +kernel
theorem dX9_number_9 : decode cX9_number 9 = .ok (.aload_n 0, 1) := by decide +kernel
theorem dX9_number_10 : decode cX9_number 10 = .ok (.getfield 124, 3) := by decide +kernel
theorem dX9_number_13 : decode cX9_number 13 = .ok (.iconst 2, 1) := by decide +kernel
theorem dX9_number_14 : decode cX9_number 14 = .ok (.if_icmp .eq 10, 3) := by decide +kernel
theorem dX9_number_17 : decode cX9_number 17 = .ok (.aload_n 0, 1) := by decide +kernel
theorem dX9_number_18 : decode cX9_number 18 = .ok (.iconst 1, 1) := by decide +kernel
theorem dX9_number_19 : decode cX9_number 19 = .ok (.invokevirtual 151, 3) := by decide +kernel
theorem dX9_number_22 : decode cX9_number 22 = .ok (.iload_n 1, 1) := by decide +kernel
theorem dX9_number_23 : decode cX9_number 23 = .ok (.ireturn, 1) := by decide +kernel
theorem dX9_number_24 : decode cX9_number 24 = .ok (.aload_n 0, 1) := by decide +kernel
theorem dX9_number_25 : decode cX9_number 25 = .ok (.getfield 117, 3) := by decide +kernel
theorem dX9_number_28 : decode cX9_number 28 = .ok (.i2l, 1) := by decide +kernel
theorem dX9_number_29 : decode cX9_number 29 = .ok (.iload_n 1, 1) := by decide +kernel
theorem dX9_number_30 : decode cX9_number 30 = .ok (.i2l, 1) := by decide +kernel
theorem dX9_number_31 : decode cX9_number 31 = .ok (.iload_n 2, 1) := by decide +kernel
theorem dX9_number_32 : decode cX9_number 32 = .ok (.i2l, 1) := by decide +kernel
theorem dX9_number_33 : decode cX9_number 33 = .ok (.invokestatic 88, 3) := by decide +kernel
theorem dX9_number_36 : decode cX9_number 36 = .ok (.ifCond .ne 10, 3) := by decide +kernel
theorem dX9_number_39 : decode cX9_number 39 = .ok (.aload_n 0, 1) := by decide +kernel
theorem dX9_number_40 : decode cX9_number 40 = .ok (.iconst 2, 1) := by decide +kernel
theorem dX9_number_41 : decode cX9_number 41 = .ok (.invokevirtual 151, 3) := by decide +kernel
theorem dX9_number_44 : decode cX9_number 44 = .ok (.iload_n 1, 1) := by decide +kernel
theorem dX9_number_45 : decode cX9_number 45 = .ok (.ireturn, 1) := by decide +kernel
theorem dX9_number_46 : decode cX9_number 46 = .ok (.aload_n 0, 1) := by decide +kernel
theorem dX9_number_47 : decode cX9_number 47 = .ok (.getfield 117, 3) := by decide +kernel
theorem dX9_number_50 : decode cX9_number 50 = .ok (.istore_n 3, 1) := by decide +kernel
theorem dX9_number_51 : decode cX9_number 51 = .ok (.aload_n 0, 1) := by decide +kernel
theorem dX9_number_52 : decode cX9_number 52 = .ok (.invokevirtual 145, 3) := by decide +kernel
theorem dX9_number_55 : decode cX9_number 55 = .ok (.iload_n 3, 1) := by decide +kernel
theorem dX9_number_56 : decode cX9_number 56 = .ok (.ireturn, 1) := by decide +kernel
theorem dX9_number__0 : decode cX9_number_ 0 = .ok (.aload_n 0, 1) := by decide +kernel
theorem dX9_number__1 : decode cX9_number_ 1 = .ok (.lload_n 1, 1) := by decide +kernel
theorem dX9_number__2 : decode cX9_number_ 2 = .ok (.invokevirtual 154, 3) := by decide +kernel
theorem dX9_number__5 : decode cX9_number_ 5 = .ok (.aload_n 0, 1) := by decide +kernel
theorem dX9_number__6 : decode cX9_number_ 6 = .ok (.iload_n 3, 1) := by decide +kernel
theorem dX9_number__7 : decode cX9_number_ 7 = .ok (.iload 4, 2) := by decide +kernel
theorem dX9_number__9 : decode cX9_number_ 9 = .ok (.invokevirtual 158, 3) := by decide +kernel
theorem dX9_number__12 : decode cX9_number_ 12 = .ok (.ireturn, 1) := by decide +kernel
theorem dX9_open_0 : decode cX9_open 0 = .ok (.aload_n 0, 1) := by decide +kernel
theorem dX9_open_1 : decode cX9_open 1 = .ok (.iconst 0, 1) := by decide +kernel
theorem dX9_open_2 : decode cX9_open 2 = .ok (.putfield 83, 3) := by decide +kernel
theorem dX9_open_5 : decode cX9_open 5 = .ok (.aload_n 0, 1) := by decide +kernel
theorem dX9_open_6 : decode cX9_open 6 = .ok (.iload_n 1, 1) := by decide +kernel
theorem dX9_open_7 : decode cX9_open 7 = .ok (.i2l, 1) := by decide +kernel
theorem dX9_open_8 : decode cX9_open 8 = .ok (.invokevirtual 257, 3) := by decide +kernel
theorem dX9_open_11 : decode cX9_open 11 = .ok (.ifCond .ne 6, 3) := by decide +kernel
theorem dX9_open_14 : decode cX9_open 14 = .ok (.bipush (-2), 2) := by decide +kernel
theorem dX9_open_16 : decode cX9_open 16 = .ok (.ireturn, 1) := by decide +kernel
theorem dX9_open_17 : decode cX9_open 17 = .ok (.aload_n 0, 1) := by decide +kernel
theorem dX9_open_18 : decode cX9_open 18 = .ok (.invokevirtual 330, 3) := by decide +kernel
theorem dX9_open_21 : decode cX9_open 21 = .ok (.aload_n 0, 1) := by decide +kernel
theorem dX9_open_22 : decode cX9_open 22 = .ok (.getfield 62, 3) := by decide +kernel
theorem dX9_open_25 : decode cX9_open 25 = .ok (.iload_n 1, 1) := by decide +kernel
theorem dX9_open_26 : decode cX9_open 26 = .ok (.iaload, 1) := by decide +kernel
theorem dX9_open_27 : decode cX9_open 27 = .ok (.ireturn, 1) := by decide +kernel
theorem dX9_opens_0 : decode cX9_opens 0 = .ok (.aload_n 0, 1) := by decide +kernel
theorem dX9_opens_1 : decode cX9_opens 1 = .ok (.iconst 0, 1) := by decide +kernel
theorem dX9_opens_2 : decode cX9_opens 2 = .ok (.putfield 83, 3) := by decide +kernel
theorem dX9_opens_5 : decode cX9_opens 5 = .ok (.aload_n 0, 1) := by decide +kernel
theorem dX9_opens_6 : decode cX9_opens 6 = .ok (.invokevirtual 248, 3) := by decide +kernel
theorem dX9_opens_9 : decode cX9_opens 9 = .ok (.ifCond .ne 6, 3) := by decide +kernel
theorem dX9_opens_12 : decode cX9_opens 12 = .ok (.bipush (-2), 2) := by decide +kernel
theorem dX9_opens_14 : decode cX9_opens 14 = .ok (.ireturn, 1) := by decide +kernel
theorem dX9_opens_15 : decode cX9_opens 15 = .ok (.aload_n 0, 1) := by decide +kernel
theorem dX9_opens_16 : decode cX9_opens 16 = .ok (.invokevirtual 435, 3) := by decide +kernel
theorem dX9_opens_19 : decode cX9_opens 19 = .ok (.aload_n 0, 1) := by decide +kernel
theorem dX9_opens_20 : decode cX9_opens 20 = .ok (.getfield 426, 3) := by decide +kernel
theorem dX9_opens_23 : decode cX9_opens 23 = .ok (.ireturn, 1) := by decide +kernel
theorem dX9_opens0_0 : decode cX9_opens0 0 = .ok (.aload_n 0, 1) := by decide +kernel
theorem dX9_opens0_1 : decode cX9_opens0 1 = .ok (.dup, 1) := by decide +kernel
theorem dX9_opens0_2 : decode cX9_opens0 2 = .ok (.getfield 276, 3) := by decide +kernel
theorem dX9_opens0_5 : decode cX9_opens0 5 = .ok (.iconst 1, 1) := by decide +kernel
theorem dX9_opens0_6 : decode cX9_opens0 6 = .ok (.iload_n 1, 1) := by decide +kernel
theorem dX9_opens0_7 : decode cX9_opens0 7 = .ok (.ishl, 1) := by decide +kernel
theorem dX9_opens0_8 : decode cX9_opens0 8 = .ok (.ior, 1) := by decide +kernel
theorem dX9_opens0_9 : decode cX9_opens0 9 = .ok (.putfield 276, 3) := by decide +kernel
theorem dX9_opens0_12 : decode cX9_opens0 12 = .ok (.aload_n 0, 1) := by decide +kernel
theorem dX9_opens0_13 : decode cX9_opens0 13 = .ok (.getfield 65, 3) := by decide +kernel
theorem dX9_opens0_16 : decode cX9_opens0 16 = .ok (.iload_n 1, 1) := by decide +kernel
theorem dX9_opens0_17 : decode cX9_opens0 17 = .ok (.iload_n 2, 1) := by decide +kernel
theorem dX9_opens0_18 : decode cX9_opens0 18 = .ok (.iastore, 1) := by decide +kernel
theorem dX9_opens0_19 : decode cX9_opens0 19 = .ok (.aload_n 0, 1) := by decide +kernel
theorem dX9_opens0_20 : decode cX9_opens0 20 = .ok (.getfield 68, 3) := by decide +kernel
theorem dX9_opens0_23 : decode cX9_opens0 23 = .ok (.iload_n 1, 1) := by decide +kernel
theorem dX9_opens0_24 : decode cX9_opens0 24 = .ok (.iload_n 3, 1) := by decide +kernel
theorem dX9_opens0_25 : decode cX9_opens0 25 = .ok (.iastore, 1) := by decide +kernel
theorem dX9_opens0_26 : decode cX9_opens0 26 = .ok (.aload_n 0, 1) := by decide +kernel
theorem dX9_opens0_27 : decode cX9_opens0 27 = .ok (.getfield 71, 3) := by decide +kernel
theorem dX9_opens0_30 : decode cX9_opens0 30 = .ok (.iload_n 1, 1) := by decide +kernel
theorem dX9_opens0_31 : decode cX9_opens0 31 = .ok (.iconst 0, 1) := by decide +kernel
theorem dX9_opens0_32 : decode cX9_opens0 32 = .ok (.aload_n 0, 1) := by decide +kernel
theorem dX9_opens0_33 : decode cX9_opens0 33 = .ok (.getfield 37, 3) := by decide +kernel
theorem dX9_opens0_36 : decode cX9_opens0 36 = .ok (.iconst 3, 1) := by decide +kernel
theorem dX9_opens0_37 : decode cX9_opens0 37 = .ok (.iload_n 1, 1) := by decide +kernel
theorem dX9_opens0_38 : decode cX9_opens0 38 = .ok (.imul, 1) := by decide +kernel
theorem dX9_opens0_39 : decode cX9_opens0 39 = .ok (.iaload, 1) := by decide +kernel
theorem dX9_opens0_40 : decode cX9_opens0 40 = .ok (.aload_n 0, 1) := by decide +kernel
theorem dX9_opens0_41 : decode cX9_opens0 41 = .ok (.getfield 59, 3) := by decide +kernel
theorem dX9_opens0_44 : decode cX9_opens0 44 = .ok (.bipush 6, 2) := by decide +kernel
theorem dX9_opens0_46 : decode cX9_opens0 46 = .ok (.iload_n 2, 1) := by decide +kernel
theorem dX9_opens0_47 : decode cX9_opens0 47 = .ok (.imul, 1) := by decide +kernel
theorem dX9_opens0_48 : decode cX9_opens0 48 = .ok (.bipush 6, 2) := by decide +kernel
theorem dX9_opens0_50 : decode cX9_opens0 50 = .ok (.iadd, 1) := by decide +kernel
theorem dX9_opens0_51 : decode cX9_opens0 51 = .ok (.iload_n 1, 1) := by decide +kernel
theorem dX9_opens0_52 : decode cX9_opens0 52 = .ok (.iadd, 1) := by decide +kernel
theorem dX9_opens0_53 : decode cX9_opens0 53 = .ok (.iaload, 1) := by decide +kernel
theorem dX9_opens0_54 : decode cX9_opens0 54 = .ok (.isub, 1) := by decide +kernel
theorem dX9_opens0_55 : decode cX9_opens0 55 = .ok (.invokestatic 279, 3) := by decide +kernel
theorem dX9_opens0_58 : decode cX9_opens0 58 = .ok (.iastore, 1) := by decide +kernel
theorem dX9_opens0_59 : decode cX9_opens0 59 = .ok (.return_, 1) := by decide +kernel
theorem dX9_opensOthers_0 : decode cX9_opensOthers 0 = .ok (.iconst 1, 1) := by decide +kernel
theorem dX9_opensOthers_1 : decode cX9_opensOthers 1 = .ok (.istore_n 2, 1) := by decide +kernel
theorem dX9_opensOthers_2 : decode cX9_opensOthers 2 = .ok (.iload_n 2, 1) := by decide +kernel
theorem dX9_opensOthers_3 : decode cX9_opensOthers 3 = .ok (.ifCond .eq 86, 3) := by decide +kernel
theorem dX9_opensOthers_6 : decode cX9_opensOthers 6 = .ok (.iconst 0, 1) := by decide +kernel
theorem dX9_opensOthers_7 : decode cX9_opensOthers 7 = .ok (.istore_n 2, 1) := by decide +kernel
theorem dX9_opensOthers_8 : decode cX9_opensOthers 8 = .ok (.iconst 0, 1) := by decide +kernel
theorem dX9_opensOthers_9 : decode cX9_opensOthers 9 = .ok (.istore_n 3, 1) := by decide +kernel
theorem dX9_opensOthers_10 : decode cX9_opensOthers 10 = .ok (.iload_n 3, 1) := by decide +kernel
theorem dX9_opensOthers_11 : decode cX9_opensOthers 11 = .ok (.aload_n 0, 1) := by decide +kernel
theorem dX9_opensOthers_12 : decode cX9_opensOthers 12 = .ok (.invokevirtual 245, 3) := by decide +kernel
theorem dX9_opensOthers_15 : decode cX9_opensOthers 15 = .ok (.if_icmp .ge 71, 3) := by decide +kernel
theorem dX9_opensOthers_18 : decode cX9_opensOthers 18 = .ok (.iload_n 2, 1) := by decide +kernel
theorem dX9_opensOthers_19 : decode cX9_opensOthers 19 = .ok (.ifCond .ne 67, 3) := by decide +kernel
theorem dX9_opensOthers_22 : decode cX9_opensOthers 22 = .ok (.aload_n 0, 1) := by decide +kernel
theorem dX9_opensOthers_23 : decode cX9_opensOthers 23 = .ok (.iload_n 3, 1) := by decide +kernel
theorem dX9_opensOthers_24 : decode cX9_opensOthers 24 = .ok (.invokevirtual 292, 3) := by decide +kernel
theorem dX9_opensOthers_27 : decode cX9_opensOthers 27 = .ok (.istore 4, 2) := by decide +kernel
theorem dX9_opensOthers_29 : decode cX9_opensOthers 29 = .ok (.aload_n 0, 1) := by decide +kernel
theorem dX9_opensOthers_30 : decode cX9_opensOthers 30 = .ok (.getfield 276, 3) := by decide +kernel
theorem dX9_opensOthers_33 : decode cX9_opensOthers 33 = .ok (.iload_n 3, 1) := by decide +kernel
theorem dX9_opensOthers_34 : decode cX9_opensOthers 34 = .ok (.invokestatic 282, 3) := by decide +kernel
theorem dX9_opensOthers_37 : decode cX9_opensOthers 37 = .ok (.ifCond .ne 43, 3) := by decide +kernel
theorem dX9_opensOthers_40 : decode cX9_opensOthers 40 = .ok (.aload_n 0, 1) := by decide +kernel
theorem dX9_opensOthers_41 : decode cX9_opensOthers 41 = .ok (.getfield 263, 3) := by decide +kernel
theorem dX9_opensOthers_44 : decode cX9_opensOthers 44 = .ok (.iload_n 3, 1) := by decide +kernel
theorem dX9_opensOthers_45 : decode cX9_opensOthers 45 = .ok (.invokestatic 282, 3) := by decide +kernel
theorem dX9_opensOthers_48 : decode cX9_opensOthers 48 = .ok (.ifCond .ne 32, 3) := by decide +kernel
theorem dX9_opensOthers_51 : decode cX9_opensOthers 51 = .ok (.iload 4, 2) := by decide +kernel
theorem dX9_opensOthers_53 : decode cX9_opensOthers 53 = .ok (.ifCond .eq 27, 3) := by decide +kernel
theorem dX9_opensOthers_56 : decode cX9_opensOthers 56 = .ok (.iload 4, 2) := by decide +kernel
theorem dX9_opensOthers_58 : decode cX9_opensOthers 58 = .ok (.aload_n 0, 1) := by decide +kernel
theorem dX9_opensOthers_59 : decode cX9_opensOthers 59 = .ok (.getfield 276, 3) := by decide +kernel
theorem dX9_opensOthers_62 : decode cX9_opensOthers 62 = .ok (.iconst (-1), 1) := by decide +kernel
theorem dX9_opensOthers_63 : decode cX9_opensOthers 63 = .ok (.ixor, 1) := by decide +kernel
theorem dX9_opensOthers_64 : decode cX9_opensOthers 64 = .ok (.iand, 1) := by decide +kernel
theorem dX9_opensOthers_65 : decode cX9_opensOthers 65 = .ok (.ifCond .eq 6, 3) := by decide +kernel
theorem dX9_opensOthers_68 : decode cX9_opensOthers 68 = .ok (.goto 12, 3) := by decide +kernel
theorem dX9_opensOthers_71 : decode cX9_opensOthers 71 = .ok (.aload_n 0, 1) := by decide +kernel
theorem dX9_opensOthers_72 : decode cX9_opensOthers 72 = .ok (.iload_n 3, 1) := by decide +kernel
theorem dX9_opensOthers_73 : decode cX9_opensOthers 73 = .ok (.iload_n 1, 1) := by decide +kernel
theorem dX9_opensOthers_74 : decode cX9_opensOthers 74 = .ok (.iconst 2, 1) := by decide +kernel
theorem dX9_opensOthers_75 : decode cX9_opensOthers 75 = .ok (.invokevirtual 288, 3) := by decide +kernel
theorem dX9_opensOthers_78 : decode cX9_opensOthers 78 = .ok (.iconst 1, 1) := by decide +kernel
theorem dX9_opensOthers_79 : decode cX9_opensOthers 79 = .ok (.istore_n 2, 1) := by decide +kernel
theorem dX9_opensOthers_80 : decode cX9_opensOthers 80 = .ok (.iinc 3 1, 3) := by decide +kernel
theorem dX9_opensOthers_83 : decode cX9_opensOthers 83 = .ok (.goto (-73), 3) := by decide +kernel
theorem dX9_opensOthers_86 : decode cX9_opensOthers 86 = .ok (.goto (-84), 3) := by decide +kernel
theorem dX9_opensOthers_89 : decode cX9_opensOthers 89 = .ok (.return_, 1) := by decide +kernel
theorem dX9_part_0 : decode cX9_part 0 = .ok (.aload_n 0, 1) := by decide +kernel
theorem dX9_part_1 : decode cX9_part 1 = .ok (.iconst 0, 1) := by decide +kernel
theorem dX9_part_2 : decode cX9_part 2 = .ok (.putfield 83, 3) := by decide +kernel
theorem dX9_part_5 : decode cX9_part 5 = .ok (.aload_n 0, 1) := by decide +kernel
theorem dX9_part_6 : decode cX9_part 6 = .ok (.iload_n 1, 1) := by decide +kernel
theorem dX9_part_7 : decode cX9_part 7 = .ok (.i2l, 1) := by decide +kernel
theorem dX9_part_8 : decode cX9_part 8 = .ok (.invokevirtual 254, 3) := by decide +kernel
theorem dX9_part_11 : decode cX9_part 11 = .ok (.ifCond .eq 28, 3) := by decide +kernel
theorem dX9_part_14 : decode cX9_part 14 = .ok (.iload_n 2, 1) := by decide +kernel
theorem dX9_part_15 : decode cX9_part 15 = .ok (.i2l, 1) := by decide +kernel
theorem dX9_part_16 : decode cX9_part 16 = .ok (.lconst 0, 1) := by decide +kernel
theorem dX9_part_17 : decode cX9_part 17 = .ok (.ldc2_w 325, 3) := by decide +kernel
theorem dX9_part_20 : decode cX9_part 20 = .ok (.invokestatic 88, 3) := by decide +kernel
theorem dX9_part_23 : decode cX9_part 23 = .ok (.ifCond .eq 16, 3) := by decide +kernel
theorem dX9_part_26 : decode cX9_part 26 = .ok (.aload_n 0, 1) := by decide +kernel
theorem dX9_part_27 : decode cX9_part 27 = .ok (.getfield 37, 3) := by decide +kernel
theorem dX9_part_30 : decode cX9_part 30 = .ok (.iconst 3, 1) := by decide +kernel
theorem dX9_part_31 : decode cX9_part 31 = .ok (.iload_n 1, 1) := by decide +kernel
theorem dX9_part_32 : decode cX9_part 32 = .ok (.imul, 1) := by decide +kernel
theorem dX9_part_33 : decode cX9_part 33 = .ok (.iload_n 2, 1) := by decide +kernel
theorem dX9_part_34 : decode cX9_part 34 = .ok (.iadd, 1) := by decide +kernel
theorem dX9_part_35 : decode cX9_part 35 = .ok (.iaload, 1) := by decide +kernel
theorem dX9_part_36 : decode cX9_part 36 = .ok (.goto 5, 3) := by decide +kernel
theorem dX9_part_39 : decode cX9_part 39 = .ok (.bipush (-2), 2) := by decide +kernel
theorem dX9_part_41 : decode cX9_part 41 = .ok (.ireturn, 1) := by decide +kernel
theorem dX9_part0_0 : decode cX9_part0 0 = .ok (.iload 4, 2) := by decide +kernel
theorem dX9_part0_2 : decode cX9_part0 2 = .ok (.ifCond .ne 7, 3) := by decide +kernel
theorem dX9_part0_5 : decode cX9_part0 5 = .ok (.lload_n 0, 1) := by decide +kernel
theorem dX9_part0_6 : decode cX9_part0 6 = .ok (.goto 4, 3) := by decide +kernel
theorem dX9_part0_9 : decode cX9_part0 9 = .ok (.lload_n 2, 1) := by decide +kernel
theorem dX9_part0_10 : decode cX9_part0 10 = .ok (.lload_n 0, 1) := by decide +kernel
theorem dX9_part0_11 : decode cX9_part0 11 = .ok (.lload_n 2, 1) := by decide +kernel
theorem dX9_part0_12 : decode cX9_part0 12 = .ok (.invokestatic 360, 3) := by decide +kernel
theorem dX9_part0_15 : decode cX9_part0 15 = .ok (.ldiv, 1) := by decide +kernel
theorem dX9_part0_16 : decode cX9_part0 16 = .ok (.lreturn, 1) := by decide +kernel
theorem dX9_partHere_0 : decode cX9_partHere 0 = .ok (.aload_n 0, 1) := by decide +kernel
theorem dX9_partHere_1 : decode cX9_partHere 1 = .ok (.iconst 0, 1) := by decide +kernel
theorem dX9_partHere_2 : decode cX9_partHere 2 = .ok (.aload_n 0, 1) := by decide +kernel
theorem dX9_partHere_3 : decode cX9_partHere 3 = .ok (.iconst 3, 1) := by decide +kernel
theorem dX9_partHere_4 : decode cX9_partHere 4 = .ok (.invokevirtual 165, 3) := by decide +kernel
theorem dX9_partHere_7 : decode cX9_partHere 7 = .ok (.iconst 1, 1) := by decide +kernel
theorem dX9_partHere_8 : decode cX9_partHere 8 = .ok (.isub, 1) := by decide +kernel
theorem dX9_partHere_9 : decode cX9_partHere 9 = .ok (.invokevirtual 158, 3) := by decide +kernel
theorem dX9_partHere_12 : decode cX9_partHere 12 = .ok (.ireturn, 1) := by decide +kernel
theorem dX9_partLine_0 : decode cX9_partLine 0 = .ok (.iconst 3, 1) := by decide +kernel
theorem dX9_partLine_1 : decode cX9_partLine 1 = .ok (.bipush 24, 2) := by decide +kernel
theorem dX9_partLine_3 : decode cX9_partLine 3 = .ok (.aload_n 0, 1) := by decide +kernel
theorem dX9_partLine_4 : decode cX9_partLine 4 = .ok (.iconst 3, 1) := by decide +kernel
theorem dX9_partLine_5 : decode cX9_partLine 5 = .ok (.invokevirtual 165, 3) := by decide +kernel
theorem dX9_partLine_8 : decode cX9_partLine 8 = .ok (.iadd, 1) := by decide +kernel
theorem dX9_partLine_9 : decode cX9_partLine 9 = .ok (.imul, 1) := by decide +kernel
theorem dX9_partLine_10 : decode cX9_partLine 10 = .ok (.istore_n 1, 1) := by decide +kernel
theorem dX9_partLine_11 : decode cX9_partLine 11 = .ok (.aload_n 0, 1) := by decide +kernel
theorem dX9_partLine_12 : decode cX9_partLine 12 = .ok (.getfield 37, 3) := by decide +kernel
theorem dX9_partLine_15 : decode cX9_partLine 15 = .ok (.iload_n 1, 1) := by decide +kernel
theorem dX9_partLine_16 : decode cX9_partLine 16 = .ok (.aload_n 0, 1) := by decide +kernel
theorem dX9_partLine_17 : decode cX9_partLine 17 = .ok (.ldc2_w 169, 3) := by decide +kernel
theorem dX9_partLine_20 : decode cX9_partLine 20 = .ok (.iconst 0, 1) := by decide +kernel
theorem dX9_partLine_21 : decode cX9_partLine 21 = .ok (.bipush 60, 2) := by decide +kernel
theorem dX9_partLine_23 : decode cX9_partLine 23 = .ok (.invokevirtual 171, 3) := by decide +kernel
theorem dX9_partLine_26 : decode cX9_partLine 26 = .ok (.iastore, 1) := by decide +kernel
theorem dX9_partLine_27 : decode cX9_partLine 27 = .ok (.aload_n 0, 1) := by decide +kernel
theorem dX9_partLine_28 : decode cX9_partLine 28 = .ok (.getfield 37, 3) := by decide +kernel
theorem dX9_partLine_31 : decode cX9_partLine 31 = .ok (.iload_n 1, 1) := by decide +kernel
theorem dX9_partLine_32 : decode cX9_partLine 32 = .ok (.iconst 1, 1) := by decide +kernel
theorem dX9_partLine_33 : decode cX9_partLine 33 = .ok (.iadd, 1) := by decide +kernel
theorem dX9_partLine_34 : decode cX9_partLine 34 = .ok (.aload_n 0, 1) := by decide +kernel
theorem dX9_partLine_35 : decode cX9_partLine 35 = .ok (.ldc2_w 174, 3) := by decide +kernel
theorem dX9_partLine_38 : decode cX9_partLine 38 = .ok (.iconst 0, 1) := by decide +kernel
theorem dX9_partLine_39 : decode cX9_partLine 39 = .ok (.bipush 9, 2) := by decide +kernel
theorem dX9_partLine_41 : decode cX9_partLine 41 = .ok (.invokevirtual 171, 3) := by decide +kernel
theorem dX9_partLine_44 : decode cX9_partLine 44 = .ok (.iastore, 1) := by decide +kernel
theorem dX9_partLine_45 : decode cX9_partLine 45 = .ok (.aload_n 0, 1) := by decide +kernel
theorem dX9_partLine_46 : decode cX9_partLine 46 = .ok (.getfield 37, 3) := by decide +kernel
theorem dX9_partLine_49 : decode cX9_partLine 49 = .ok (.iload_n 1, 1) := by decide +kernel
theorem dX9_partLine_50 : decode cX9_partLine 50 = .ok (.iconst 2, 1) := by decide +kernel
theorem dX9_partLine_51 : decode cX9_partLine 51 = .ok (.iadd, 1) := by decide +kernel
theorem dX9_partLine_52 : decode cX9_partLine 52 = .ok (.aload_n 0, 1) := by decide +kernel
theorem dX9_partLine_53 : decode cX9_partLine 53 = .ok (.getfield 135, 3) := by decide +kernel
theorem dX9_partLine_56 : decode cX9_partLine 56 = .ok (.ifCond .ne 26, 3) := by decide +kernel
theorem dX9_partLine_59 : decode cX9_partLine 59 = .ok (.aload_n 0, 1) := by decide +kernel
theorem dX9_partLine_60 : decode cX9_partLine 60 = .ok (.ldc2_w 176, 3) := by decide +kernel
theorem dX9_partLine_63 : decode cX9_partLine 63 = .ok (.invokevirtual 141, 3) := by decide +kernel
theorem dX9_partLine_66 : decode cX9_partLine 66 = .ok (.ifCond .eq 16, 3) := by decide +kernel
theorem dX9_partLine_69 : decode cX9_partLine 69 = .ok (.aload_n 0, 1) := by decide +kernel
theorem dX9_partLine_70 : decode cX9_partLine 70 = .ok (.ldc2_w 176, 3) := by decide +kernel
theorem dX9_partLine_73 : decode cX9_partLine 73 = .ok (.iconst 1, 1) := by decide +kernel
theorem dX9_partLine_74 : decode cX9_partLine 74 = .ok (.bipush 60, 2) := by decide +kernel
theorem dX9_partLine_76 : decode cX9_partLine 76 = .ok (.invokevirtual 171, 3) := by decide +kernel
theorem dX9_partLine_79 : decode cX9_partLine 79 = .ok (.goto 4, 3) := by decide +kernel
theorem dX9_partLine_82 : decode cX9_partLine 82 = .ok (.iconst 0, 1) := by decide +kernel
theorem dX9_partLine_83 : decode cX9_partLine 83 = .ok (.iastore, 1) := by decide +kernel
theorem dX9_partLine_84 : decode cX9_partLine 84 = .ok (.aload_n 0, 1) := by decide +kernel
theorem dX9_partLine_85 : decode cX9_partLine 85 = .ok (.iconst 3, 1) := by decide +kernel
theorem dX9_partLine_86 : decode cX9_partLine 86 = .ok (.aload_n 0, 1) := by decide +kernel
theorem dX9_partLine_87 : decode cX9_partLine 87 = .ok (.iconst 3, 1) := by decide +kernel
theorem dX9_partLine_88 : decode cX9_partLine 88 = .ok (.invokevirtual 165, 3) := by decide +kernel
theorem dX9_partLine_91 : decode cX9_partLine 91 = .ok (.iconst 1, 1) := by decide +kernel
theorem dX9_partLine_92 : decode cX9_partLine 92 = .ok (.iadd, 1) := by decide +kernel
theorem dX9_partLine_93 : decode cX9_partLine 93 = .ok (.invokevirtual 178, 3) := by decide +kernel
theorem dX9_partLine_96 : decode cX9_partLine 96 = .ok (.return_, 1) := by decide +kernel
theorem dX9_parts_0 : decode cX9_parts 0 = .ok (.aload_n 0, 1) := by decide +kernel
theorem dX9_parts_1 : decode cX9_parts 1 = .ok (.getfield 34, 3) := by decide +kernel
theorem dX9_parts_4 : decode cX9_parts 4 = .ok (.iconst 3, 1) := by decide +kernel
theorem dX9_parts_5 : decode cX9_parts 5 = .ok (.iaload, 1) := by decide +kernel
theorem dX9_parts_6 : decode cX9_parts 6 = .ok (.ireturn, 1) := by decide +kernel
theorem dX9_paste_0 : decode cX9_paste 0 = .ok (.aload_n 0, 1) := by decide +kernel
theorem dX9_paste_1 : decode cX9_paste 1 = .ok (.iconst 0, 1) := by decide +kernel
theorem dX9_paste_2 : decode cX9_paste 2 = .ok (.putfield 83, 3) := by decide +kernel
theorem dX9_paste_5 : decode cX9_paste 5 = .ok (.iload_n 1, 1) := by decide +kernel
theorem dX9_paste_6 : decode cX9_paste 6 = .ok (.invokestatic 92, 3) := by decide +kernel
theorem dX9_paste_9 : decode cX9_paste 9 = .ok (.ifCond .eq 10, 3) := by decide +kernel
theorem dX9_paste_12 : decode cX9_paste 12 = .ok (.iload_n 3, 1) := by decide +kernel
theorem dX9_paste_13 : decode cX9_paste 13 = .ok (.invokestatic 92, 3) := by decide +kernel
theorem dX9_paste_16 : decode cX9_paste 16 = .ok (.ifCond .ne 6, 3) := by decide +kernel
theorem dX9_paste_19 : decode cX9_paste 19 = .ok (.bipush (-2), 2) := by decide +kernel
theorem dX9_paste_21 : decode cX9_paste 21 = .ok (.ireturn, 1) := by decide +kernel
theorem dX9_paste_22 : decode cX9_paste 22 = .ok (.aload_n 0, 1) := by decide +kernel
theorem dX9_paste_23 : decode cX9_paste 23 = .ok (.getfield 7, 3) := by decide +kernel
theorem dX9_paste_26 : decode cX9_paste 26 = .ok (.iload_n 1, 1) := by decide +kernel
theorem dX9_paste_27 : decode cX9_paste 27 = .ok (.iaload, 1) := by decide +kernel
theorem dX9_paste_28 : decode cX9_paste 28 = .ok (.iconst (-1), 1) := by decide +kernel
theorem dX9_paste_29 : decode cX9_paste 29 = .ok (.if_icmp .eq 13, 3) := by decide +kernel
theorem dX9_paste_32 : decode cX9_paste 32 = .ok (.aload_n 0, 1) := by decide +kernel
theorem dX9_paste_33 : decode cX9_paste 33 = .ok (.getfield 7, 3) := by decide +kernel
theorem dX9_paste_36 : decode cX9_paste 36 = .ok (.iload_n 3, 1) := by decide +kernel
theorem dX9_paste_37 : decode cX9_paste 37 = .ok (.iaload, 1) := by decide +kernel
theorem dX9_paste_38 : decode cX9_paste 38 = .ok (.iconst (-1), 1) := by decide +kernel
theorem dX9_paste_39 : decode cX9_paste 39 = .ok (.if_icmp .ne 6, 3) := by decide +kernel
theorem dX9_paste_42 : decode cX9_paste 42 = .ok (.bipush (-6), 2) := by decide +kernel
theorem dX9_paste_44 : decode cX9_paste 44 = .ok (.ireturn, 1) := by decide +kernel
theorem dX9_paste_45 : decode cX9_paste 45 = .ok (.aload_n 0, 1) := by decide +kernel
theorem dX9_paste_46 : decode cX9_paste 46 = .ok (.getfield 7, 3) := by decide +kernel
theorem dX9_paste_49 : decode cX9_paste 49 = .ok (.iload_n 1, 1) := by decide +kernel
theorem dX9_paste_50 : decode cX9_paste 50 = .ok (.iaload, 1) := by decide +kernel
theorem dX9_paste_51 : decode cX9_paste 51 = .ok (.aload_n 0, 1) := by decide +kernel
theorem dX9_paste_52 : decode cX9_paste 52 = .ok (.getfield 7, 3) := by decide +kernel
theorem dX9_paste_55 : decode cX9_paste 55 = .ok (.iload_n 3, 1) := by decide +kernel
theorem dX9_paste_56 : decode cX9_paste 56 = .ok (.iaload, 1) := by decide +kernel
theorem dX9_paste_57 : decode cX9_paste 57 = .ok (.if_icmp .eq 6, 3) := by decide +kernel
theorem dX9_paste_60 : decode cX9_paste 60 = .ok (.bipush (-8), 2) := by decide +kernel
theorem dX9_paste_62 : decode cX9_paste 62 = .ok (.ireturn, 1) := by decide +kernel
theorem dX9_paste_63 : decode cX9_paste 63 = .ok (.iload_n 2, 1) := by decide +kernel
theorem dX9_paste_64 : decode cX9_paste 64 = .ok (.ifCond .lt 48, 3) := by decide +kernel
theorem dX9_paste_67 : decode cX9_paste 67 = .ok (.iload 4, 2) := by decide +kernel
theorem dX9_paste_69 : decode cX9_paste 69 = .ok (.ifCond .lt 43, 3) := by decide +kernel
theorem dX9_paste_72 : decode cX9_paste 72 = .ok (.iload 5, 2) := by decide +kernel
theorem dX9_paste_74 : decode cX9_paste 74 = .ok (.ifCond .lt 38, 3) := by decide +kernel
theorem dX9_paste_77 : decode cX9_paste 77 = .ok (.iload_n 2, 1) := by decide +kernel
theorem dX9_paste_78 : decode cX9_paste 78 = .ok (.i2l, 1) := by decide +kernel
theorem dX9_paste_79 : decode cX9_paste 79 = .ok (.iload 5, 2) := by decide +kernel
theorem dX9_paste_81 : decode cX9_paste 81 = .ok (.i2l, 1) := by decide +kernel
theorem dX9_paste_82 : decode cX9_paste 82 = .ok (.ladd, 1) := by decide +kernel
theorem dX9_paste_83 : decode cX9_paste 83 = .ok (.aload_n 0, 1) := by decide +kernel
theorem dX9_paste_84 : decode cX9_paste 84 = .ok (.getfield 13, 3) := by decide +kernel
theorem dX9_paste_87 : decode cX9_paste 87 = .ok (.iload_n 1, 1) := by decide +kernel
theorem dX9_paste_88 : decode cX9_paste 88 = .ok (.iaload, 1) := by decide +kernel
theorem dX9_paste_89 : decode cX9_paste 89 = .ok (.i2l, 1) := by decide +kernel
theorem dX9_paste_90 : decode cX9_paste 90 = .ok (.lcmp, 1) := by decide +kernel
theorem dX9_paste_91 : decode cX9_paste 91 = .ok (.ifCond .gt 21, 3) := by decide +kernel
theorem dX9_paste_94 : decode cX9_paste 94 = .ok (.iload 4, 2) := by decide +kernel
theorem dX9_paste_96 : decode cX9_paste 96 = .ok (.i2l, 1) := by decide +kernel
theorem dX9_paste_97 : decode cX9_paste 97 = .ok (.iload 5, 2) := by decide +kernel
theorem dX9_paste_99 : decode cX9_paste 99 = .ok (.i2l, 1) := by decide +kernel
theorem dX9_paste_100 : decode cX9_paste 100 = .ok (.ladd, 1) := by decide +kernel
theorem dX9_paste_101 : decode cX9_paste 101 = .ok (.aload_n 0, 1) := by decide +kernel
theorem dX9_paste_102 : decode cX9_paste 102 = .ok (.getfield 13, 3) := by decide +kernel
theorem dX9_paste_105 : decode cX9_paste 105 = .ok (.iload_n 3, 1) := by decide +kernel
theorem dX9_paste_106 : decode cX9_paste 106 = .ok (.iaload, 1) := by decide +kernel
theorem dX9_paste_107 : decode cX9_paste 107 = .ok (.i2l, 1) := by decide +kernel
theorem dX9_paste_108 : decode cX9_paste 108 = .ok (.lcmp, 1) := by decide +kernel
theorem dX9_paste_109 : decode cX9_paste 109 = .ok (.ifCond .le 6, 3) := by decide +kernel
theorem dX9_paste_112 : decode cX9_paste 112 = .ok (.bipush (-7), 2) := by decide +kernel
theorem dX9_paste_114 : decode cX9_paste 114 = .ok (.ireturn, 1) := by decide +kernel
theorem dX9_paste_115 : decode cX9_paste 115 = .ok (.iconst 0, 1) := by decide +kernel
theorem dX9_paste_116 : decode cX9_paste 116 = .ok (.istore 6, 2) := by decide +kernel
theorem dX9_paste_118 : decode cX9_paste 118 = .ok (.iload 6, 2) := by decide +kernel
theorem dX9_paste_120 : decode cX9_paste 120 = .ok (.iload 5, 2) := by decide +kernel
theorem dX9_paste_122 : decode cX9_paste 122 = .ok (.if_icmp .ge 30, 3) := by decide +kernel
theorem dX9_paste_125 : decode cX9_paste 125 = .ok (.aload_n 0, 1) := by decide +kernel
theorem dX9_paste_126 : decode cX9_paste 126 = .ok (.getfield 20, 3) := by decide +kernel
theorem dX9_paste_129 : decode cX9_paste 129 = .ok (.iload 6, 2) := by decide +kernel
theorem dX9_paste_131 : decode cX9_paste 131 = .ok (.aload_n 0, 1) := by decide +kernel
theorem dX9_paste_132 : decode cX9_paste 132 = .ok (.getfield 16, 3) := by decide +kernel
theorem dX9_paste_135 : decode cX9_paste 135 = .ok (.bipush 60, 2) := by decide +kernel
theorem dX9_paste_137 : decode cX9_paste 137 = .ok (.iload_n 1, 1) := by decide +kernel
theorem dX9_paste_138 : decode cX9_paste 138 = .ok (.imul, 1) := by decide +kernel
theorem dX9_paste_139 : decode cX9_paste 139 = .ok (.iload_n 2, 1) := by decide +kernel
theorem dX9_paste_140 : decode cX9_paste 140 = .ok (.iadd, 1) := by decide +kernel
theorem dX9_paste_141 : decode cX9_paste 141 = .ok (.iload 6, 2) := by decide +kernel
theorem dX9_paste_143 : decode cX9_paste 143 = .ok (.iadd, 1) := by decide +kernel
theorem dX9_paste_144 : decode cX9_paste 144 = .ok (.laload, 1) := by decide +kernel
theorem dX9_paste_145 : decode cX9_paste 145 = .ok (.lastore, 1) := by decide +kernel
theorem dX9_paste_146 : decode cX9_paste 146 = .ok (.iinc 6 1, 3) := by decide +kernel
theorem dX9_paste_149 : decode cX9_paste 149 = .ok (.goto (-31), 3) := by decide +kernel
theorem dX9_paste_152 : decode cX9_paste 152 = .ok (.iconst 0, 1) := by decide +kernel
theorem dX9_paste_153 : decode cX9_paste 153 = .ok (.istore 6, 2) := by decide +kernel
theorem dX9_paste_155 : decode cX9_paste 155 = .ok (.iload 6, 2) := by decide +kernel
theorem dX9_paste_157 : decode cX9_paste 157 = .ok (.iload 5, 2) := by decide +kernel
theorem dX9_paste_159 : decode cX9_paste 159 = .ok (.if_icmp .ge 31, 3) := by decide +kernel
theorem dX9_paste_162 : decode cX9_paste 162 = .ok (.aload_n 0, 1) := by decide +kernel
theorem dX9_paste_163 : decode cX9_paste 163 = .ok (.getfield 16, 3) := by decide +kernel
theorem dX9_paste_166 : decode cX9_paste 166 = .ok (.bipush 60, 2) := by decide +kernel
theorem dX9_paste_168 : decode cX9_paste 168 = .ok (.iload_n 3, 1) := by decide +kernel
theorem dX9_paste_169 : decode cX9_paste 169 = .ok (.imul, 1) := by decide +kernel
theorem dX9_paste_170 : decode cX9_paste 170 = .ok (.iload 4, 2) := by decide +kernel
theorem dX9_paste_172 : decode cX9_paste 172 = .ok (.iadd, 1) := by decide +kernel
theorem dX9_paste_173 : decode cX9_paste 173 = .ok (.iload 6, 2) := by decide +kernel
theorem dX9_paste_175 : decode cX9_paste 175 = .ok (.iadd, 1) := by decide +kernel
theorem dX9_paste_176 : decode cX9_paste 176 = .ok (.aload_n 0, 1) := by decide +kernel
theorem dX9_paste_177 : decode cX9_paste 177 = .ok (.getfield 20, 3) := by decide +kernel
theorem dX9_paste_180 : decode cX9_paste 180 = .ok (.iload 6, 2) := by decide +kernel
theorem dX9_paste_182 : decode cX9_paste 182 = .ok (.laload, 1) := by decide +kernel
theorem dX9_paste_183 : decode cX9_paste 183 = .ok (.lastore, 1) := by decide +kernel
theorem dX9_paste_184 : decode cX9_paste 184 = .ok (.iinc 6 1, 3) := by decide +kernel
theorem dX9_paste_187 : decode cX9_paste 187 = .ok (.goto (-32), 3) := by decide +kernel
theorem dX9_paste_190 : decode cX9_paste 190 = .ok (.iconst 0, 1) := by decide +kernel
theorem dX9_paste_191 : decode cX9_paste 191 = .ok (.ireturn, 1) := by decide +kernel
