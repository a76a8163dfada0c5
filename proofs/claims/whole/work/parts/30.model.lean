theorem dX12_in_0 : decode cX12_in 0 = .ok (.iload_n 0, 1) := by decide +kernel
theorem dX12_in_1 : decode cX12_in 1 = .ok (.iload_n 1, 1) := by decide +kernel
theorem dX12_in_2 : decode cX12_in 2 = .ok (.if_icmp .lt 12, 3) := by decide +kernel
theorem dX12_in_5 : decode cX12_in 5 = .ok (.iload_n 0, 1) := by decide +kernel
theorem dX12_in_6 : decode cX12_in 6 = .ok (.iload_n 2, 1) := by decide +kernel
theorem dX12_in_7 : decode cX12_in 7 = .ok (.if_icmp .gt 7, 3) := by decide +kernel
theorem dX12_in_10 : decode cX12_in 10 = .ok (.iconst 1, 1) := by decide +kernel
theorem dX12_in_11 : decode cX12_in 11 = .ok (.goto 4, 3) := by decide +kernel
theorem dX12_in_14 : decode cX12_in 14 = .ok (.iconst 0, 1) := by decide +kernel
theorem dX12_in_15 : decode cX12_in 15 = .ok (.ireturn, 1) := by decide +kernel
theorem dX12_quarter_0 : decode cX12_quarter 0 = .ok (.iload_n 0, 1) := by decide +kernel
theorem dX12_quarter_1 : decode cX12_quarter 1 = .ok (.ifCond .ne 8, 3) := by decide +kernel
theorem dX12_quarter_4 : decode cX12_quarter 4 = .ok (.bipush 65, 2) := by decide +kernel
theorem dX12_quarter_6 : decode cX12_quarter 6 = .ok (.goto 87, 3) := by decide +kernel
theorem dX12_quarter_9 : decode cX12_quarter 9 = .ok (.iload_n 0, 1) := by decide +kernel
theorem dX12_quarter_10 : decode cX12_quarter 10 = .ok (.iconst 1, 1) := by decide +kernel
theorem dX12_quarter_11 : decode cX12_quarter 11 = .ok (.if_icmp .ne 8, 3) := by decide +kernel
theorem dX12_quarter_14 : decode cX12_quarter 14 = .ok (.bipush 63, 2) := by decide +kernel
theorem dX12_quarter_16 : decode cX12_quarter 16 = .ok (.goto 77, 3) := by decide +kernel
theorem dX12_quarter_19 : decode cX12_quarter 19 = .ok (.iload_n 0, 1) := by decide +kernel
theorem dX12_quarter_20 : decode cX12_quarter 20 = .ok (.iconst 2, 1) := by decide +kernel
theorem dX12_quarter_21 : decode cX12_quarter 21 = .ok (.if_icmp .ne 8, 3) := by decide +kernel
theorem dX12_quarter_24 : decode cX12_quarter 24 = .ok (.bipush 60, 2) := by decide +kernel
theorem dX12_quarter_26 : decode cX12_quarter 26 = .ok (.goto 67, 3) := by decide +kernel
theorem dX12_quarter_29 : decode cX12_quarter 29 = .ok (.iload_n 0, 1) := by decide +kernel
theorem dX12_quarter_30 : decode cX12_quarter 30 = .ok (.iconst 3, 1) := by decide +kernel
theorem dX12_quarter_31 : decode cX12_quarter 31 = .ok (.if_icmp .ne 8, 3) := by decide +kernel
theorem dX12_quarter_34 : decode cX12_quarter 34 = .ok (.bipush 56, 2) := by decide +kernel
theorem dX12_quarter_36 : decode cX12_quarter 36 = .ok (.goto 57, 3) := by decide +kernel
theorem dX12_quarter_39 : decode cX12_quarter 39 = .ok (.iload_n 0, 1) := by decide +kernel
theorem dX12_quarter_40 : decode cX12_quarter 40 = .ok (.iconst 4, 1) := by decide +kernel
theorem dX12_quarter_41 : decode cX12_quarter 41 = .ok (.if_icmp .ne 8, 3) := by decide +kernel
theorem dX12_quarter_44 : decode cX12_quarter 44 = .ok (.bipush 52, 2) := by decide +kernel
theorem dX12_quarter_46 : decode cX12_quarter 46 = .ok (.goto 47, 3) := by decide +kernel
theorem dX12_quarter_49 : decode cX12_quarter 49 = .ok (.iload_n 0, 1) := by decide +kernel
theorem dX12_quarter_50 : decode cX12_quarter 50 = .ok (.iconst 5, 1) := by decide +kernel
theorem dX12_quarter_51 : decode cX12_quarter 51 = .ok (.if_icmp .ne 8, 3) := by decide +kernel
theorem dX12_quarter_54 : decode cX12_quarter 54 = .ok (.bipush 39, 2) := by decide +kernel
theorem dX12_quarter_56 : decode cX12_quarter 56 = .ok (.goto 37, 3) := by decide +kernel
theorem dX12_quarter_59 : decode cX12_quarter 59 = .ok (.iload_n 0, 1) := by decide +kernel
theorem dX12_quarter_60 : decode cX12_quarter 60 = .ok (.bipush 6, 2) := by decide +kernel
theorem dX12_quarter_62 : decode cX12_quarter 62 = .ok (.if_icmp .ne 8, 3) := by decide +kernel
theorem dX12_quarter_65 : decode cX12_quarter 65 = .ok (.bipush 33, 2) := by decide +kernel
theorem dX12_quarter_67 : decode cX12_quarter 67 = .ok (.goto 26, 3) := by decide +kernel
theorem dX12_quarter_70 : decode cX12_quarter 70 = .ok (.iload_n 0, 1) := by decide +kernel
theorem dX12_quarter_71 : decode cX12_quarter 71 = .ok (.bipush 7, 2) := by decide +kernel
theorem dX12_quarter_73 : decode cX12_quarter 73 = .ok (.if_icmp .ne 8, 3) := by decide +kernel
theorem dX12_quarter_76 : decode cX12_quarter 76 = .ok (.bipush 25, 2) := by decide +kernel
theorem dX12_quarter_78 : decode cX12_quarter 78 = .ok (.goto 15, 3) := by decide +kernel
theorem dX12_quarter_81 : decode cX12_quarter 81 = .ok (.iload_n 0, 1) := by decide +kernel
theorem dX12_quarter_82 : decode cX12_quarter 82 = .ok (.bipush 8, 2) := by decide +kernel
theorem dX12_quarter_84 : decode cX12_quarter 84 = .ok (.if_icmp .ne 8, 3) := by decide +kernel
theorem dX12_quarter_87 : decode cX12_quarter 87 = .ok (.bipush 16, 2) := by decide +kernel
theorem dX12_quarter_89 : decode cX12_quarter 89 = .ok (.goto 4, 3) := by decide +kernel
theorem dX12_quarter_92 : decode cX12_quarter 92 = .ok (.iconst 0, 1) := by decide +kernel
theorem dX12_quarter_93 : decode cX12_quarter 93 = .ok (.ireturn, 1) := by decide +kernel
theorem dX12_along_0 : decode cX12_along 0 = .ok (.iload_n 0, 1) := by decide +kernel
theorem dX12_along_1 : decode cX12_along 1 = .ok (.bipush 36, 2) := by decide +kernel
theorem dX12_along_3 : decode cX12_along 3 = .ok (.irem, 1) := by decide +kernel
theorem dX12_along_4 : decode cX12_along 4 = .ok (.bipush 36, 2) := by decide +kernel
theorem dX12_along_6 : decode cX12_along 6 = .ok (.iadd, 1) := by decide +kernel
theorem dX12_along_7 : decode cX12_along 7 = .ok (.bipush 36, 2) := by decide +kernel
theorem dX12_along_9 : decode cX12_along 9 = .ok (.irem, 1) := by decide +kernel
theorem dX12_along_10 : decode cX12_along 10 = .ok (.istore_n 1, 1) := by decide +kernel
theorem dX12_along_11 : decode cX12_along 11 = .ok (.iload_n 1, 1) := by decide +kernel
theorem dX12_along_12 : decode cX12_along 12 = .ok (.bipush 18, 2) := by decide +kernel
theorem dX12_along_14 : decode cX12_along 14 = .ok (.if_icmp .le 10, 3) := by decide +kernel
theorem dX12_along_17 : decode cX12_along 17 = .ok (.bipush 36, 2) := by decide +kernel
theorem dX12_along_19 : decode cX12_along 19 = .ok (.iload_n 1, 1) := by decide +kernel
theorem dX12_along_20 : decode cX12_along 20 = .ok (.isub, 1) := by decide +kernel
theorem dX12_along_21 : decode cX12_along 21 = .ok (.goto 4, 3) := by decide +kernel
theorem dX12_along_24 : decode cX12_along 24 = .ok (.iload_n 1, 1) := by decide +kernel
theorem dX12_along_25 : decode cX12_along 25 = .ok (.istore_n 2, 1) := by decide +kernel
theorem dX12_along_26 : decode cX12_along 26 = .ok (.iload_n 2, 1) := by decide +kernel
theorem dX12_along_27 : decode cX12_along 27 = .ok (.bipush 9, 2) := by decide +kernel
theorem dX12_along_29 : decode cX12_along 29 = .ok (.if_icmp .le 14, 3) := by decide +kernel
theorem dX12_along_32 : decode cX12_along 32 = .ok (.bipush 18, 2) := by decide +kernel
theorem dX12_along_34 : decode cX12_along 34 = .ok (.iload_n 2, 1) := by decide +kernel
theorem dX12_along_35 : decode cX12_along 35 = .ok (.isub, 1) := by decide +kernel
theorem dX12_along_36 : decode cX12_along 36 = .ok (.invokestatic 210, 3) := by decide +kernel
theorem dX12_along_39 : decode cX12_along 39 = .ok (.ineg, 1) := by decide +kernel
theorem dX12_along_40 : decode cX12_along 40 = .ok (.goto 7, 3) := by decide +kernel
theorem dX12_along_43 : decode cX12_along 43 = .ok (.iload_n 2, 1) := by decide +kernel
theorem dX12_along_44 : decode cX12_along 44 = .ok (.invokestatic 210, 3) := by decide +kernel
theorem dX12_along_47 : decode cX12_along 47 = .ok (.ireturn, 1) := by decide +kernel
theorem dX12_across_0 : decode cX12_across 0 = .ok (.iload_n 0, 1) := by decide +kernel
theorem dX12_across_1 : decode cX12_across 1 = .ok (.bipush 9, 2) := by decide +kernel
theorem dX12_across_3 : decode cX12_across 3 = .ok (.isub, 1) := by decide +kernel
theorem dX12_across_4 : decode cX12_across 4 = .ok (.invokestatic 214, 3) := by decide +kernel
theorem dX12_across_7 : decode cX12_across 7 = .ok (.ireturn, 1) := by decide +kernel
theorem dX12_isHeading_0 : decode cX12_isHeading 0 = .ok (.iload_n 0, 1) := by decide +kernel
theorem dX12_isHeading_1 : decode cX12_isHeading 1 = .ok (.iconst 0, 1) := by decide +kernel
theorem dX12_isHeading_2 : decode cX12_isHeading 2 = .ok (.bipush 35, 2) := by decide +kernel
theorem dX12_isHeading_4 : decode cX12_isHeading 4 = .ok (.invokestatic 217, 3) := by decide +kernel
theorem dX12_isHeading_7 : decode cX12_isHeading 7 = .ok (.ireturn, 1) := by decide +kernel
theorem dX12_turn_0 : decode cX12_turn 0 = .ok (.iload_n 1, 1) := by decide +kernel
theorem dX12_turn_1 : decode cX12_turn 1 = .ok (.invokestatic 221, 3) := by decide +kernel
theorem dX12_turn_4 : decode cX12_turn 4 = .ok (.ifCond .eq 30, 3) := by decide +kernel
theorem dX12_turn_7 : decode cX12_turn 7 = .ok (.iload_n 2, 1) := by decide +kernel
theorem dX12_turn_8 : decode cX12_turn 8 = .ok (.iconst 0, 1) := by decide +kernel
theorem dX12_turn_9 : decode cX12_turn 9 = .ok (.iconst 1, 1) := by decide +kernel
theorem dX12_turn_10 : decode cX12_turn 10 = .ok (.invokestatic 217, 3) := by decide +kernel
theorem dX12_turn_13 : decode cX12_turn 13 = .ok (.ifCond .eq 21, 3) := by decide +kernel
theorem dX12_turn_16 : decode cX12_turn 16 = .ok (.iload_n 2, 1) := by decide +kernel
theorem dX12_turn_17 : decode cX12_turn 17 = .ok (.ifCond .ne 10, 3) := by decide +kernel
theorem dX12_turn_20 : decode cX12_turn 20 = .ok (.iload_n 1, 1) := by decide +kernel
theorem dX12_turn_21 : decode cX12_turn 21 = .ok (.invokestatic 214, 3) := by decide +kernel
theorem dX12_turn_24 : decode cX12_turn 24 = .ok (.goto 13, 3) := by decide +kernel
theorem dX12_turn_27 : decode cX12_turn 27 = .ok (.iload_n 1, 1) := by decide +kernel
theorem dX12_turn_28 : decode cX12_turn 28 = .ok (.invokestatic 225, 3) := by decide +kernel
theorem dX12_turn_31 : decode cX12_turn 31 = .ok (.goto 6, 3) := by decide +kernel
theorem dX12_turn_34 : decode cX12_turn 34 = .ok (.sipush (-1000), 3) := by decide +kernel
theorem dX12_turn_37 : decode cX12_turn 37 = .ok (.ireturn, 1) := by decide +kernel
theorem dX12_floorBy_0 : decode cX12_floorBy 0 = .ok (.lload_n 0, 1) := by decide +kernel
theorem dX12_floorBy_1 : decode cX12_floorBy 1 = .ok (.lload_n 2, 1) := by decide +kernel
theorem dX12_floorBy_2 : decode cX12_floorBy 2 = .ok (.ldiv, 1) := by decide +kernel
theorem dX12_floorBy_3 : decode cX12_floorBy 3 = .ok (.lstore 4, 2) := by decide +kernel
theorem dX12_floorBy_5 : decode cX12_floorBy 5 = .ok (.lload_n 0, 1) := by decide +kernel
theorem dX12_floorBy_6 : decode cX12_floorBy 6 = .ok (.lload_n 2, 1) := by decide +kernel
theorem dX12_floorBy_7 : decode cX12_floorBy 7 = .ok (.lrem, 1) := by decide +kernel
theorem dX12_floorBy_8 : decode cX12_floorBy 8 = .ok (.lconst 0, 1) := by decide +kernel
theorem dX12_floorBy_9 : decode cX12_floorBy 9 = .ok (.lcmp, 1) := by decide +kernel
theorem dX12_floorBy_10 : decode cX12_floorBy 10 = .ok (.ifCond .ge 10, 3) := by decide +kernel
theorem dX12_floorBy_13 : decode cX12_floorBy 13 = .ok (.lload 4, 2) := by decide +kernel
theorem dX12_floorBy_15 : decode cX12_floorBy 15 = .ok (.lconst 1, 1) := by decide +kernel
theorem dX12_floorBy_16 : decode cX12_floorBy 16 = .ok (.lsub, 1) := by decide +kernel
theorem dX12_floorBy_17 : decode cX12_floorBy 17 = .ok (.goto 5, 3) := by decide +kernel
theorem dX12_floorBy_20 : decode cX12_floorBy 20 = .ok (.lload 4, 2) := by decide +kernel
theorem dX12_floorBy_22 : decode cX12_floorBy 22 = .ok (.l2i, 1) := by decide +kernel
theorem dX12_floorBy_23 : decode cX12_floorBy 23 = .ok (.ireturn, 1) := by decide +kernel
theorem dX12_isBox_0 : decode cX12_isBox 0 = .ok (.iload_n 0, 1) := by decide +kernel
theorem dX12_isBox_1 : decode cX12_isBox 1 = .ok (.sipush (-500), 3) := by decide +kernel
theorem dX12_isBox_4 : decode cX12_isBox 4 = .ok (.sipush 500, 3) := by decide +kernel
theorem dX12_isBox_7 : decode cX12_isBox 7 = .ok (.invokestatic 217, 3) := by decide +kernel
theorem dX12_isBox_10 : decode cX12_isBox 10 = .ok (.ifCond .eq 56, 3) := by decide +kernel
theorem dX12_isBox_13 : decode cX12_isBox 13 = .ok (.iload_n 1, 1) := by decide +kernel
theorem dX12_isBox_14 : decode cX12_isBox 14 = .ok (.sipush (-500), 3) := by decide +kernel
theorem dX12_isBox_17 : decode cX12_isBox 17 = .ok (.sipush 500, 3) := by decide +kernel
theorem dX12_isBox_20 : decode cX12_isBox 20 = .ok (.invokestatic 217, 3) := by decide +kernel
theorem dX12_isBox_23 : decode cX12_isBox 23 = .ok (.ifCond .eq 43, 3) := by decide +kernel
theorem dX12_isBox_26 : decode cX12_isBox 26 = .ok (.iload_n 2, 1) := by decide +kernel
theorem dX12_isBox_27 : decode cX12_isBox 27 = .ok (.sipush (-500), 3) := by decide +kernel
theorem dX12_isBox_30 : decode cX12_isBox 30 = .ok (.sipush 500, 3) := by decide +kernel
theorem dX12_isBox_33 : decode cX12_isBox 33 = .ok (.invokestatic 217, 3) := by decide +kernel
theorem dX12_isBox_36 : decode cX12_isBox 36 = .ok (.ifCond .eq 30, 3) := by decide +kernel
theorem dX12_isBox_39 : decode cX12_isBox 39 = .ok (.iload_n 3, 1) := by decide +kernel
theorem dX12_isBox_40 : decode cX12_isBox 40 = .ok (.sipush (-500), 3) := by decide +kernel
theorem dX12_isBox_43 : decode cX12_isBox 43 = .ok (.sipush 500, 3) := by decide +kernel
theorem dX12_isBox_46 : decode cX12_isBox 46 = .ok (.invokestatic 217, 3) := by decide +kernel
theorem dX12_isBox_49 : decode cX12_isBox 49 = .ok (.ifCond .eq 17, 3) := by decide +kernel
theorem dX12_isBox_52 : decode cX12_isBox 52 = .ok (.iload_n 0, 1) := by decide +kernel
theorem dX12_isBox_53 : decode cX12_isBox 53 = .ok (.iload_n 2, 1) := by decide +kernel
theorem dX12_isBox_54 : decode cX12_isBox 54 = .ok (.if_icmp .ge 12, 3) := by decide +kernel
theorem dX12_isBox_57 : decode cX12_isBox 57 = .ok (.iload_n 1, 1) := by decide +kernel
theorem dX12_isBox_58 : decode cX12_isBox 58 = .ok (.iload_n 3, 1) := by decide +kernel
theorem dX12_isBox_59 : decode cX12_isBox 59 = .ok (.if_icmp .ge 7, 3) := by decide +kernel
theorem dX12_isBox_62 : decode cX12_isBox 62 = .ok (.iconst 1, 1) := by decide +kernel
theorem dX12_isBox_63 : decode cX12_isBox 63 = .ok (.goto 4, 3) := by decide +kernel
theorem dX12_isBox_66 : decode cX12_isBox 66 = .ok (.iconst 0, 1) := by decide +kernel
theorem dX12_isBox_67 : decode cX12_isBox 67 = .ok (.ireturn, 1) := by decide +kernel
theorem dX12_box_0 : decode cX12_box 0 = .ok (.aload_n 0, 1) := by decide +kernel
theorem dX12_box_1 : decode cX12_box 1 = .ok (.iconst 4, 1) := by decide +kernel
theorem dX12_box_2 : decode cX12_box 2 = .ok (.iload_n 1, 1) := by decide +kernel
theorem dX12_box_3 : decode cX12_box 3 = .ok (.imul, 1) := by decide +kernel
theorem dX12_box_4 : decode cX12_box 4 = .ok (.iload_n 2, 1) := by decide +kernel
theorem dX12_box_5 : decode cX12_box 5 = .ok (.iastore, 1) := by decide +kernel
theorem dX12_box_6 : decode cX12_box 6 = .ok (.aload_n 0, 1) := by decide +kernel
theorem dX12_box_7 : decode cX12_box 7 = .ok (.iconst 4, 1) := by decide +kernel
theorem dX12_box_8 : decode cX12_box 8 = .ok (.iload_n 1, 1) := by decide +kernel
theorem dX12_box_9 : decode cX12_box 9 = .ok (.imul, 1) := by decide +kernel
theorem dX12_box_10 : decode cX12_box 10 = .ok (.iconst 1, 1) := by decide +kernel
theorem dX12_box_11 : decode cX12_box 11 = .ok (.iadd, 1) := by decide +kernel
theorem dX12_box_12 : decode cX12_box 12 = .ok (.iload_n 3, 1) := by decide +kernel
theorem dX12_box_13 : decode cX12_box 13 = .ok (.iastore, 1) := by decide +kernel
theorem dX12_box_14 : decode cX12_box 14 = .ok (.aload_n 0, 1) := by decide +kernel
theorem dX12_box_15 : decode cX12_box 15 = .ok (.iconst 4, 1) := by decide +kernel
theorem dX12_box_16 : decode cX12_box 16 = .ok (.iload_n 1, 1) := by decide +kernel
theorem dX12_box_17 : decode cX12_box 17 = .ok (.imul, 1) := by decide +kernel
theorem dX12_box_18 : decode cX12_box 18 = .ok (.iconst 2, 1) := by decide +kernel
theorem dX12_box_19 : decode cX12_box 19 = .ok (.iadd, 1) := by decide +kernel
theorem dX12_box_20 : decode cX12_box 20 = .ok (.iload 4, 2) := by decide +kernel
theorem dX12_box_22 : decode cX12_box 22 = .ok (.iastore, 1) := by decide +kernel
theorem dX12_box_23 : decode cX12_box 23 = .ok (.aload_n 0, 1) := by decide +kernel
theorem dX12_box_24 : decode cX12_box 24 = .ok (.iconst 4, 1) := by decide +kernel
theorem dX12_box_25 : decode cX12_box 25 = .ok (.iload_n 1, 1) := by decide +kernel
theorem dX12_box_26 : decode cX12_box 26 = .ok (.imul, 1) := by decide +kernel
theorem dX12_box_27 : decode cX12_box 27 = .ok (.iconst 3, 1) := by decide +kernel
theorem dX12_box_28 : decode cX12_box 28 = .ok (.iadd, 1) := by decide +kernel
theorem dX12_box_29 : decode cX12_box 29 = .ok (.iload 5, 2) := by decide +kernel
theorem dX12_box_31 : decode cX12_box 31 = .ok (.iastore, 1) := by decide +kernel
theorem dX12_box_32 : decode cX12_box 32 = .ok (.return_, 1) := by decide +kernel
theorem dX12_house_0 : decode cX12_house 0 = .ok (.iload_n 1, 1) := by decide +kernel
theorem dX12_house_1 : decode cX12_house 1 = .ok (.iload_n 2, 1) := by decide +kernel
theorem dX12_house_2 : decode cX12_house 2 = .ok (.iload_n 3, 1) := by decide +kernel
theorem dX12_house_3 : decode cX12_house 3 = .ok (.iload 4, 2) := by decide +kernel
theorem dX12_house_5 : decode cX12_house 5 = .ok (.invokestatic 228, 3) := by decide +kernel
theorem dX12_house_8 : decode cX12_house 8 = .ok (.ifCond .eq 36, 3) := by decide +kernel
theorem dX12_house_11 : decode cX12_house 11 = .ok (.iload 5, 2) := by decide +kernel
theorem dX12_house_13 : decode cX12_house 13 = .ok (.iconst 1, 1) := by decide +kernel
theorem dX12_house_14 : decode cX12_house 14 = .ok (.bipush 99, 2) := by decide +kernel
theorem dX12_house_16 : decode cX12_house 16 = .ok (.invokestatic 217, 3) := by decide +kernel
theorem dX12_house_19 : decode cX12_house 19 = .ok (.ifCond .eq 25, 3) := by decide +kernel
theorem dX12_house_22 : decode cX12_house 22 = .ok (.iload 6, 2) := by decide +kernel
theorem dX12_house_24 : decode cX12_house 24 = .ok (.iconst 1, 1) := by decide +kernel
theorem dX12_house_25 : decode cX12_house 25 = .ok (.bipush 99, 2) := by decide +kernel
theorem dX12_house_27 : decode cX12_house 27 = .ok (.invokestatic 217, 3) := by decide +kernel
theorem dX12_house_30 : decode cX12_house 30 = .ok (.ifCond .eq 14, 3) := by decide +kernel
theorem dX12_house_33 : decode cX12_house 33 = .ok (.iload 7, 2) := by decide +kernel
theorem dX12_house_35 : decode cX12_house 35 = .ok (.iconst 0, 1) := by decide +kernel
theorem dX12_house_36 : decode cX12_house 36 = .ok (.bipush 9, 2) := by decide +kernel
theorem dX12_house_38 : decode cX12_house 38 = .ok (.invokestatic 217, 3) := by decide +kernel
theorem dX12_house_41 : decode cX12_house 41 = .ok (.ifCond .ne 6, 3) := by decide +kernel
theorem dX12_house_44 : decode cX12_house 44 = .ok (.bipush (-2), 2) := by decide +kernel
theorem dX12_house_46 : decode cX12_house 46 = .ok (.ireturn, 1) := by decide +kernel
theorem dX12_house_47 : decode cX12_house 47 = .ok (.aload_n 0, 1) := by decide +kernel
theorem dX12_house_48 : decode cX12_house 48 = .ok (.getfield 232, 3) := by decide +kernel
theorem dX12_house_51 : decode cX12_house 51 = .ok (.bipush 20, 2) := by decide +kernel
theorem dX12_house_53 : decode cX12_house 53 = .ok (.if_icmp .ne 6, 3) := by decide +kernel
theorem dX12_house_56 : decode cX12_house 56 = .ok (.bipush (-4), 2) := by decide +kernel
theorem dX12_house_58 : decode cX12_house 58 = .ok (.ireturn, 1) := by decide +kernel
theorem dX12_house_59 : decode cX12_house 59 = .ok (.aload_n 0, 1) := by decide +kernel
theorem dX12_house_60 : decode cX12_house 60 = .ok (.getfield 7, 3) := by decide +kernel
theorem dX12_house_63 : decode cX12_house 63 = .ok (.aload_n 0, 1) := by decide +kernel
theorem dX12_house_64 : decode cX12_house 64 = .ok (.getfield 232, 3) := by decide +kernel
theorem dX12_house_67 : decode cX12_house 67 = .ok (.iload_n 1, 1) := by decide +kernel
theorem dX12_house_68 : decode cX12_house 68 = .ok (.iload_n 2, 1) := by decide +kernel
theorem dX12_house_69 : decode cX12_house 69 = .ok (.iload_n 3, 1) := by decide +kernel
theorem dX12_house_70 : decode cX12_house 70 = .ok (.iload 4, 2) := by decide +kernel
theorem dX12_house_72 : decode cX12_house 72 = .ok (.invokestatic 235, 3) := by decide +kernel
theorem dX12_house_75 : decode cX12_house 75 = .ok (.aload_n 0, 1) := by decide +kernel
theorem dX12_house_76 : decode cX12_house 76 = .ok (.getfield 13, 3) := by decide +kernel
theorem dX12_house_79 : decode cX12_house 79 = .ok (.aload_n 0, 1) := by decide +kernel
theorem dX12_house_80 : decode cX12_house 80 = .ok (.getfield 232, 3) := by decide +kernel
theorem dX12_house_83 : decode cX12_house 83 = .ok (.iload 5, 2) := by decide +kernel
theorem dX12_house_85 : decode cX12_house 85 = .ok (.iastore, 1) := by decide +kernel
theorem dX12_house_86 : decode cX12_house 86 = .ok (.aload_n 0, 1) := by decide +kernel
theorem dX12_house_87 : decode cX12_house 87 = .ok (.getfield 16, 3) := by decide +kernel
theorem dX12_house_90 : decode cX12_house 90 = .ok (.aload_n 0, 1) := by decide +kernel
theorem dX12_house_91 : decode cX12_house 91 = .ok (.getfield 232, 3) := by decide +kernel
theorem dX12_house_94 : decode cX12_house 94 = .ok (.iload 6, 2) := by decide +kernel
theorem dX12_house_96 : decode cX12_house 96 = .ok (.iastore, 1) := by decide +kernel
theorem dX12_house_97 : decode cX12_house 97 = .ok (.aload_n 0, 1) := by decide +kernel
theorem dX12_house_98 : decode cX12_house 98 = .ok (.getfield 19, 3) := by decide +kernel
theorem dX12_house_101 : decode cX12_house 101 = .ok (.aload_n 0, 1) := by decide +kernel
theorem dX12_house_102 : decode cX12_house 102 = .ok (.getfield 232, 3) := by decide +kernel
theorem dX12_house_105 : decode cX12_house 105 = .ok (.iload 7, 2) := by decide +kernel
theorem dX12_house_107 : decode cX12_house 107 = .ok (.iastore, 1) := by decide +kernel
theorem dX12_house_108 : decode cX12_house 108 = .ok (.aload_n 0, 1) := by decide +kernel
theorem dX12_house_109 : decode cX12_house 109 = .ok (.dup, 1) := by decide +kernel
theorem dX12_house_110 : decode cX12_house 110 = .ok (.getfield 232, 3) := by decide +kernel
theorem dX12_house_113 : decode cX12_house 113 = .ok (.iconst 1, 1) := by decide +kernel
theorem dX12_house_114 : decode cX12_house 114 = .ok (.iadd, 1) := by decide +kernel
theorem dX12_house_115 : decode cX12_house 115 = .ok (.putfield 232, 3) := by decide +kernel
theorem dX12_house_118 : decode cX12_house 118 = .ok (.aload_n 0, 1) := by decide +kernel
theorem dX12_house_119 : decode cX12_house 119 = .ok (.getfield 232, 3) := by decide +kernel
theorem dX12_house_122 : decode cX12_house 122 = .ok (.iconst 1, 1) := by decide +kernel
theorem dX12_house_123 : decode cX12_house 123 = .ok (.isub, 1) := by decide +kernel
theorem dX12_house_124 : decode cX12_house 124 = .ok (.ireturn, 1) := by decide +kernel
theorem dX12_cut_0 : decode cX12_cut 0 = .ok (.iload_n 1, 1) := by decide +kernel
theorem dX12_cut_1 : decode cX12_cut 1 = .ok (.iconst 0, 1) := by decide +kernel
theorem dX12_cut_2 : decode cX12_cut 2 = .ok (.aload_n 0, 1) := by decide +kernel
theorem dX12_cut_3 : decode cX12_cut 3 = .ok (.getfield 232, 3) := by decide +kernel
theorem dX12_cut_6 : decode cX12_cut 6 = .ok (.iconst 1, 1) := by decide +kernel
theorem dX12_cut_7 : decode cX12_cut 7 = .ok (.isub, 1) := by decide +kernel
theorem dX12_cut_8 : decode cX12_cut 8 = .ok (.invokestatic 217, 3) := by decide +kernel
theorem dX12_cut_11 : decode cX12_cut 11 = .ok (.ifCond .eq 17, 3) := by decide +kernel
theorem dX12_cut_14 : decode cX12_cut 14 = .ok (.iload_n 2, 1) := by decide +kernel
theorem dX12_cut_15 : decode cX12_cut 15 = .ok (.iconst 0, 1) := by decide +kernel
theorem dX12_cut_16 : decode cX12_cut 16 = .ok (.aload_n 0, 1) := by decide +kernel
theorem dX12_cut_17 : decode cX12_cut 17 = .ok (.getfield 19, 3) := by decide +kernel
theorem dX12_cut_20 : decode cX12_cut 20 = .ok (.iload_n 1, 1) := by decide +kernel
theorem dX12_cut_21 : decode cX12_cut 21 = .ok (.iaload, 1) := by decide +kernel
theorem dX12_cut_22 : decode cX12_cut 22 = .ok (.invokestatic 217, 3) := by decide +kernel
theorem dX12_cut_25 : decode cX12_cut 25 = .ok (.ifCond .ne 6, 3) := by decide +kernel
theorem dX12_cut_28 : decode cX12_cut 28 = .ok (.bipush (-2), 2) := by decide +kernel
theorem dX12_cut_30 : decode cX12_cut 30 = .ok (.ireturn, 1) := by decide +kernel
theorem dX12_cut_31 : decode cX12_cut 31 = .ok (.aload_n 0, 1) := by decide +kernel
theorem dX12_cut_32 : decode cX12_cut 32 = .ok (.getfield 19, 3) := by decide +kernel
theorem dX12_cut_35 : decode cX12_cut 35 = .ok (.iload_n 1, 1) := by decide +kernel
theorem dX12_cut_36 : decode cX12_cut 36 = .ok (.iaload, 1) := by decide +kernel
theorem dX12_cut_37 : decode cX12_cut 37 = .ok (.istore_n 3, 1) := by decide +kernel
theorem dX12_cut_38 : decode cX12_cut 38 = .ok (.aload_n 0, 1) := by decide +kernel
theorem dX12_cut_39 : decode cX12_cut 39 = .ok (.getfield 19, 3) := by decide +kernel
theorem dX12_cut_42 : decode cX12_cut 42 = .ok (.iload_n 1, 1) := by decide +kernel
theorem dX12_cut_43 : decode cX12_cut 43 = .ok (.iload_n 2, 1) := by decide +kernel
theorem dX12_cut_44 : decode cX12_cut 44 = .ok (.iastore, 1) := by decide +kernel
theorem dX12_cut_45 : decode cX12_cut 45 = .ok (.iload_n 3, 1) := by decide +kernel
theorem dX12_cut_46 : decode cX12_cut 46 = .ok (.ireturn, 1) := by decide +kernel
theorem dX12_kerb_0 : decode cX12_kerb 0 = .ok (.iload_n 1, 1) := by decide +kernel
theorem dX12_kerb_1 : decode cX12_kerb 1 = .ok (.iload_n 2, 1) := by decide +kernel
theorem dX12_kerb_2 : decode cX12_kerb 2 = .ok (.iload_n 3, 1) := by decide +kernel
theorem dX12_kerb_3 : decode cX12_kerb 3 = .ok (.iload 4, 2) := by decide +kernel
theorem dX12_kerb_5 : decode cX12_kerb 5 = .ok (.invokestatic 228, 3) := by decide +kernel
theorem dX12_kerb_8 : decode cX12_kerb 8 = .ok (.ifCond .ne 6, 3) := by decide +kernel
theorem dX12_kerb_11 : decode cX12_kerb 11 = .ok (.bipush (-2), 2) := by decide +kernel
theorem dX12_kerb_13 : decode cX12_kerb 13 = .ok (.ireturn, 1) := by decide +kernel
theorem dX12_kerb_14 : decode cX12_kerb 14 = .ok (.aload_n 0, 1) := by decide +kernel
theorem dX12_kerb_15 : decode cX12_kerb 15 = .ok (.getfield 239, 3) := by decide +kernel
theorem dX12_kerb_18 : decode cX12_kerb 18 = .ok (.bipush 10, 2) := by decide +kernel
theorem dX12_kerb_20 : decode cX12_kerb 20 = .ok (.if_icmp .ne 6, 3) := by decide +kernel
theorem dX12_kerb_23 : decode cX12_kerb 23 = .ok (.bipush (-4), 2) := by decide +kernel
theorem dX12_kerb_25 : decode cX12_kerb 25 = .ok (.ireturn, 1) := by decide +kernel
theorem dX12_kerb_26 : decode cX12_kerb 26 = .ok (.aload_n 0, 1) := by decide +kernel
theorem dX12_kerb_27 : decode cX12_kerb 27 = .ok (.getfield 22, 3) := by decide +kernel
theorem dX12_kerb_30 : decode cX12_kerb 30 = .ok (.aload_n 0, 1) := by decide +kernel
theorem dX12_kerb_31 : decode cX12_kerb 31 = .ok (.getfield 239, 3) := by decide +kernel
theorem dX12_kerb_34 : decode cX12_kerb 34 = .ok (.iload_n 1, 1) := by decide +kernel
theorem dX12_kerb_35 : decode cX12_kerb 35 = .ok (.iload_n 2, 1) := by decide +kernel
theorem dX12_kerb_36 : decode cX12_kerb 36 = .ok (.iload_n 3, 1) := by decide +kernel
theorem dX12_kerb_37 : decode cX12_kerb 37 = .ok (.iload 4, 2) := by decide +kernel
theorem dX12_kerb_39 : decode cX12_kerb 39 = .ok (.invokestatic 235, 3) := by decide +kernel
theorem dX12_kerb_42 : decode cX12_kerb 42 = .ok (.aload_n 0, 1) := by decide +kernel
theorem dX12_kerb_43 : decode cX12_kerb 43 = .ok (.dup, 1) := by decide +kernel
theorem dX12_kerb_44 : decode cX12_kerb 44 = .ok (.getfield 239, 3) := by decide +kernel
theorem dX12_kerb_47 : decode cX12_kerb 47 = .ok (.iconst 1, 1) := by decide +kernel
theorem dX12_kerb_48 : decode cX12_kerb 48 = .ok (.iadd, 1) := by decide +kernel
theorem dX12_kerb_49 : decode cX12_kerb 49 = .ok (.putfield 239, 3) := by decide +kernel
theorem dX12_kerb_52 : decode cX12_kerb 52 = .ok (.aload_n 0, 1) := by decide +kernel
theorem dX12_kerb_53 : decode cX12_kerb 53 = .ok (.getfield 239, 3) := by decide +kernel
theorem dX12_kerb_56 : decode cX12_kerb 56 = .ok (.iconst 1, 1) := by decide +kernel
theorem dX12_kerb_57 : decode cX12_kerb 57 = .ok (.isub, 1) := by decide +kernel
theorem dX12_kerb_58 : decode cX12_kerb 58 = .ok (.ireturn, 1) := by decide +kernel
theorem dX12_wire_0 : decode cX12_wire 0 = .ok (.iload_n 1, 1) := by decide +kernel
theorem dX12_wire_1 : decode cX12_wire 1 = .ok (.iload_n 2, 1) := by decide +kernel
theorem dX12_wire_2 : decode cX12_wire 2 = .ok (.iload_n 3, 1) := by decide +kernel
theorem dX12_wire_3 : decode cX12_wire 3 = .ok (.iload 4, 2) := by decide +kernel
theorem dX12_wire_5 : decode cX12_wire 5 = .ok (.invokestatic 228, 3) := by decide +kernel
theorem dX12_wire_8 : decode cX12_wire 8 = .ok (.ifCond .eq 14, 3) := by decide +kernel
theorem dX12_wire_11 : decode cX12_wire 11 = .ok (.iload 5, 2) := by decide +kernel
theorem dX12_wire_13 : decode cX12_wire 13 = .ok (.iconst 1, 1) := by decide +kernel
theorem dX12_wire_14 : decode cX12_wire 14 = .ok (.bipush 99, 2) := by decide +kernel
theorem dX12_wire_16 : decode cX12_wire 16 = .ok (.invokestatic 217, 3) := by decide +kernel
theorem dX12_wire_19 : decode cX12_wire 19 = .ok (.ifCond .ne 6, 3) := by decide +kernel
theorem dX12_wire_22 : decode cX12_wire 22 = .ok (.bipush (-2), 2) := by decide +kernel
theorem dX12_wire_24 : decode cX12_wire 24 = .ok (.ireturn, 1) := by decide +kernel
theorem dX12_wire_25 : decode cX12_wire 25 = .ok (.aload_n 0, 1) := by decide +kernel
theorem dX12_wire_26 : decode cX12_wire 26 = .ok (.getfield 242, 3) := by decide +kernel
theorem dX12_wire_29 : decode cX12_wire 29 = .ok (.bipush 10, 2) := by decide +kernel
theorem dX12_wire_31 : decode cX12_wire 31 = .ok (.if_icmp .ne 6, 3) := by decide +kernel
theorem dX12_wire_34 : decode cX12_wire 34 = .ok (.bipush (-4), 2) := by decide +kernel
theorem dX12_wire_36 : decode cX12_wire 36 = .ok (.ireturn, 1) := by decide +kernel
theorem dX12_wire_37 : decode cX12_wire 37 = .ok (.aload_n 0, 1) := by decide +kernel
theorem dX12_wire_38 : decode cX12_wire 38 = .ok (.getfield 25, 3) := by decide +kernel
theorem dX12_wire_41 : decode cX12_wire 41 = .ok (.aload_n 0, 1) := by decide +kernel
theorem dX12_wire_42 : decode cX12_wire 42 = .ok (.getfield 242, 3) := by decide +kernel
theorem dX12_wire_45 : decode cX12_wire 45 = .ok (.iload_n 1, 1) := by decide +kernel
theorem dX12_wire_46 : decode cX12_wire 46 = .ok (.iload_n 2, 1) := by decide +kernel
theorem dX12_wire_47 : decode cX12_wire 47 = .ok (.iload_n 3, 1) := by decide +kernel
theorem dX12_wire_48 : decode cX12_wire 48 = .ok (.iload 4, 2) := by decide +kernel
theorem dX12_wire_50 : decode cX12_wire 50 = .ok (.invokestatic 235, 3) := by decide +kernel
theorem dX12_wire_53 : decode cX12_wire 53 = .ok (.aload_n 0, 1) := by decide +kernel
theorem dX12_wire_54 : decode cX12_wire 54 = .ok (.getfield 28, 3) := by decide +kernel
theorem dX12_wire_57 : decode cX12_wire 57 = .ok (.aload_n 0, 1) := by decide +kernel
theorem dX12_wire_58 : decode cX12_wire 58 = .ok (.getfield 242, 3) := by decide +kernel
theorem dX12_wire_61 : decode cX12_wire 61 = .ok (.iload 5, 2) := by decide +kernel
theorem dX12_wire_63 : decode cX12_wire 63 = .ok (.iastore, 1) := by decide +kernel
theorem dX12_wire_64 : decode cX12_wire 64 = .ok (.aload_n 0, 1) := by decide +kernel
theorem dX12_wire_65 : decode cX12_wire 65 = .ok (.dup, 1) := by decide +kernel
theorem dX12_wire_66 : decode cX12_wire 66 = .ok (.getfield 242, 3) := by decide +kernel
theorem dX12_wire_69 : decode cX12_wire 69 = .ok (.iconst 1, 1) := by decide +kernel
theorem dX12_wire_70 : decode cX12_wire 70 = .ok (.iadd, 1) := by decide +kernel
theorem dX12_wire_71 : decode cX12_wire 71 = .ok (.putfield 242, 3) := by decide +kernel
theorem dX12_wire_74 : decode cX12_wire 74 = .ok (.aload_n 0, 1) := by decide +kernel
theorem dX12_wire_75 : decode cX12_wire 75 = .ok (.getfield 242, 3) := by decide +kernel
theorem dX12_wire_78 : decode cX12_wire 78 = .ok (.iconst 1, 1) := by decide +kernel
theorem dX12_wire_79 : decode cX12_wire 79 = .ok (.isub, 1) := by decide +kernel
theorem dX12_wire_80 : decode cX12_wire 80 = .ok (.ireturn, 1) := by decide +kernel
theorem dX12_down_0 : decode cX12_down 0 = .ok (.iload_n 1, 1) := by decide +kernel
theorem dX12_down_1 : decode cX12_down 1 = .ok (.iconst 0, 1) := by decide +kernel
theorem dX12_down_2 : decode cX12_down 2 = .ok (.aload_n 0, 1) := by decide +kernel
theorem dX12_down_3 : decode cX12_down 3 = .ok (.getfield 242, 3) := by decide +kernel
theorem dX12_down_6 : decode cX12_down 6 = .ok (.iconst 1, 1) := by decide +kernel
theorem dX12_down_7 : decode cX12_down 7 = .ok (.isub, 1) := by decide +kernel
theorem dX12_down_8 : decode cX12_down 8 = .ok (.invokestatic 217, 3) := by decide +kernel
theorem dX12_down_11 : decode cX12_down 11 = .ok (.ifCond .ne 6, 3) := by decide +kernel
theorem dX12_down_14 : decode cX12_down 14 = .ok (.bipush (-2), 2) := by decide +kernel
theorem dX12_down_16 : decode cX12_down 16 = .ok (.ireturn, 1) := by decide +kernel
theorem dX12_down_17 : decode cX12_down 17 = .ok (.aload_n 0, 1) := by decide +kernel
theorem dX12_down_18 : decode cX12_down 18 = .ok (.getfield 31, 3) := by decide +kernel
theorem dX12_down_21 : decode cX12_down 21 = .ok (.iload_n 1, 1) := by decide +kernel
theorem dX12_down_22 : decode cX12_down 22 = .ok (.baload, 1) := by decide +kernel
theorem dX12_down_23 : decode cX12_down 23 = .ok (.iload_n 2, 1) := by decide +kernel
theorem dX12_down_24 : decode cX12_down 24 = .ok (.if_icmp .ne 7, 3) := by decide +kernel
theorem dX12_down_27 : decode cX12_down 27 = .ok (.iconst 1, 1) := by decide +kernel
theorem dX12_down_28 : decode cX12_down 28 = .ok (.goto 4, 3) := by decide +kernel
theorem dX12_down_31 : decode cX12_down 31 = .ok (.iconst 0, 1) := by decide +kernel
theorem dX12_down_32 : decode cX12_down 32 = .ok (.istore_n 3, 1) := by decide +kernel
theorem dX12_down_33 : decode cX12_down 33 = .ok (.aload_n 0, 1) := by decide +kernel
theorem dX12_down_34 : decode cX12_down 34 = .ok (.getfield 31, 3) := by decide +kernel
theorem dX12_down_37 : decode cX12_down 37 = .ok (.iload_n 1, 1) := by decide +kernel
theorem dX12_down_38 : decode cX12_down 38 = .ok (.iload_n 2, 1) := by decide +kernel
theorem dX12_down_39 : decode cX12_down 39 = .ok (.bastore, 1) := by decide +kernel
theorem dX12_down_40 : decode cX12_down 40 = .ok (.iload_n 3, 1) := by decide +kernel
theorem dX12_down_41 : decode cX12_down 41 = .ok (.ifCond .eq 7, 3) := by decide +kernel
theorem dX12_down_44 : decode cX12_down 44 = .ok (.iconst 0, 1) := by decide +kernel
theorem dX12_down_45 : decode cX12_down 45 = .ok (.goto 4, 3) := by decide +kernel
theorem dX12_down_48 : decode cX12_down 48 = .ok (.iconst 1, 1) := by decide +kernel
theorem dX12_down_49 : decode cX12_down 49 = .ok (.ireturn, 1) := by decide +kernel
theorem dX12_slope_0 : decode cX12_slope 0 = .ok (.iload_n 1, 1) := by decide +kernel
theorem dX12_slope_1 : decode cX12_slope 1 = .ok (.iload_n 2, 1) := by decide +kernel
theorem dX12_slope_2 : decode cX12_slope 2 = .ok (.iload_n 3, 1) := by decide +kernel
theorem dX12_slope_3 : decode cX12_slope 3 = .ok (.iload 4, 2) := by decide +kernel
theorem dX12_slope_5 : decode cX12_slope 5 = .ok (.invokestatic 228, 3) := by decide +kernel
theorem dX12_slope_8 : decode cX12_slope 8 = .ok (.ifCond .eq 31, 3) := by decide +kernel
theorem dX12_slope_11 : decode cX12_slope 11 = .ok (.iload 5, 2) := by decide +kernel
theorem dX12_slope_13 : decode cX12_slope 13 = .ok (.sipush (-200), 3) := by decide +kernel
theorem dX12_slope_16 : decode cX12_slope 16 = .ok (.sipush 200, 3) := by decide +kernel
theorem dX12_slope_19 : decode cX12_slope 19 = .ok (.invokestatic 217, 3) := by decide +kernel
theorem dX12_slope_22 : decode cX12_slope 22 = .ok (.ifCond .eq 17, 3) := by decide +kernel
theorem dX12_slope_25 : decode cX12_slope 25 = .ok (.iload 6, 2) := by decide +kernel
theorem dX12_slope_27 : decode cX12_slope 27 = .ok (.sipush (-200), 3) := by decide +kernel
theorem dX12_slope_30 : decode cX12_slope 30 = .ok (.sipush 200, 3) := by decide +kernel
theorem dX12_slope_33 : decode cX12_slope 33 = .ok (.invokestatic 217, 3) := by decide +kernel
theorem dX12_slope_36 : decode cX12_slope 36 = .ok (.ifCond .ne 6, 3) := by decide +kernel
theorem dX12_slope_39 : decode cX12_slope 39 = .ok (.bipush (-2), 2) := by decide +kernel
theorem dX12_slope_41 : decode cX12_slope 41 = .ok (.ireturn, 1) := by decide +kernel
theorem dX12_slope_42 : decode cX12_slope 42 = .ok (.aload_n 0, 1) := by decide +kernel
theorem dX12_slope_43 : decode cX12_slope 43 = .ok (.getfield 245, 3) := by decide +kernel
theorem dX12_slope_46 : decode cX12_slope 46 = .ok (.bipush 10, 2) := by decide +kernel
theorem dX12_slope_48 : decode cX12_slope 48 = .ok (.if_icmp .ne 6, 3) := by decide +kernel
theorem dX12_slope_51 : decode cX12_slope 51 = .ok (.bipush (-4), 2) := by decide +kernel
theorem dX12_slope_53 : decode cX12_slope 53 = .ok (.ireturn, 1) := by decide +kernel
theorem dX12_slope_54 : decode cX12_slope 54 = .ok (.aload_n 0, 1) := by decide +kernel
theorem dX12_slope_55 : decode cX12_slope 55 = .ok (.getfield 35, 3) := by decide +kernel
theorem dX12_slope_58 : decode cX12_slope 58 = .ok (.aload_n 0, 1) := by decide +kernel
theorem dX12_slope_59 : decode cX12_slope 59 = .ok (.getfield 245, 3) := by decide +kernel
theorem dX12_slope_62 : decode cX12_slope 62 = .ok (.iload_n 1, 1) := by decide +kernel
theorem dX12_slope_63 : decode cX12_slope 63 = .ok (.iload_n 2, 1) := by decide +kernel
theorem dX12_slope_64 : decode cX12_slope 64 = .ok (.iload_n 3, 1) := by decide +kernel
theorem dX12_slope_65 : decode cX12_slope 65 = .ok (.iload 4, 2) := by decide +kernel
theorem dX12_slope_67 : decode cX12_slope 67 = .ok (.invokestatic 235, 3) := by decide +kernel
theorem dX12_slope_70 : decode cX12_slope 70 = .ok (.aload_n 0, 1) := by decide +kernel
theorem dX12_slope_71 : decode cX12_slope 71 = .ok (.getfield 38, 3) := by decide +kernel
theorem dX12_slope_74 : decode cX12_slope 74 = .ok (.aload_n 0, 1) := by decide +kernel
theorem dX12_slope_75 : decode cX12_slope 75 = .ok (.getfield 245, 3) := by decide +kernel
theorem dX12_slope_78 : decode cX12_slope 78 = .ok (.iload 5, 2) := by decide +kernel
theorem dX12_slope_80 : decode cX12_slope 80 = .ok (.iastore, 1) := by decide +kernel
theorem dX12_slope_81 : decode cX12_slope 81 = .ok (.aload_n 0, 1) := by decide +kernel
theorem dX12_slope_82 : decode cX12_slope 82 = .ok (.getfield 41, 3) := by decide +kernel
theorem dX12_slope_85 : decode cX12_slope 85 = .ok (.aload_n 0, 1) := by decide +kernel
theorem dX12_slope_86 : decode cX12_slope 86 = .ok (.getfield 245, 3) := by decide +kernel
theorem dX12_slope_89 : decode cX12_slope 89 = .ok (.iload 6, 2) := by decide +kernel
theorem dX12_slope_91 : decode cX12_slope 91 = .ok (.iastore, 1) := by decide +kernel
theorem dX12_slope_92 : decode cX12_slope 92 = .ok (.aload_n 0, 1) := by decide +kernel
theorem dX12_slope_93 : decode cX12_slope 93 = .ok (.getfield 44, 3) := by decide +kernel
theorem dX12_slope_96 : decode cX12_slope 96 = .ok (.aload_n 0, 1) := by decide +kernel
theorem dX12_slope_97 : decode cX12_slope 97 = .ok (.getfield 245, 3) := by decide +kernel
theorem dX12_slope_100 : decode cX12_slope 100 = .ok (.iload 7, 2) := by decide +kernel
theorem dX12_slope_102 : decode cX12_slope 102 = .ok (.bastore, 1) := by decide +kernel
theorem dX12_slope_103 : decode cX12_slope 103 = .ok (.aload_n 0, 1) := by decide +kernel
theorem dX12_slope_104 : decode cX12_slope 104 = .ok (.dup, 1) := by decide +kernel
theorem dX12_slope_105 : decode cX12_slope 105 = .ok (.getfield 245, 3) := by decide +kernel
theorem dX12_slope_108 : decode cX12_slope 108 = .ok (.iconst 1, 1) := by decide +kernel
theorem dX12_slope_109 : decode cX12_slope 109 = .ok (.iadd, 1) := by decide +kernel
theorem dX12_slope_110 : decode cX12_slope 110 = .ok (.putfield 245, 3) := by decide +kernel
theorem dX12_slope_113 : decode cX12_slope 113 = .ok (.aload_n 0, 1) := by decide +kernel
theorem dX12_slope_114 : decode cX12_slope 114 = .ok (.getfield 245, 3) := by decide +kernel
theorem dX12_slope_117 : decode cX12_slope 117 = .ok (.iconst 1, 1) := by decide +kernel
theorem dX12_slope_118 : decode cX12_slope 118 = .ok (.isub, 1) := by decide +kernel
theorem dX12_slope_119 : decode cX12_slope 119 = .ok (.ireturn, 1) := by decide +kernel
theorem dX12_rain_0 : decode cX12_rain 0 = .ok (.iconst 0, 1) := by decide +kernel
theorem dX12_rain_1 : decode cX12_rain 1 = .ok (.istore_n 2, 1) := by decide +kernel
theorem dX12_rain_2 : decode cX12_rain 2 = .ok (.iconst 0, 1) := by decide +kernel
theorem dX12_rain_3 : decode cX12_rain 3 = .ok (.istore_n 3, 1) := by decide +kernel
theorem dX12_rain_4 : decode cX12_rain 4 = .ok (.iload_n 3, 1) := by decide +kernel
theorem dX12_rain_5 : decode cX12_rain 5 = .ok (.aload_n 0, 1) := by decide +kernel
theorem dX12_rain_6 : decode cX12_rain 6 = .ok (.getfield 245, 3) := by decide +kernel
theorem dX12_rain_9 : decode cX12_rain 9 = .ok (.if_icmp .ge 34, 3) := by decide +kernel
theorem dX12_rain_12 : decode cX12_rain 12 = .ok (.iload_n 2, 1) := by decide +kernel
theorem dX12_rain_13 : decode cX12_rain 13 = .ok (.aload_n 0, 1) := by decide +kernel
theorem dX12_rain_14 : decode cX12_rain 14 = .ok (.getfield 44, 3) := by decide +kernel
theorem dX12_rain_17 : decode cX12_rain 17 = .ok (.iload_n 3, 1) := by decide +kernel
theorem dX12_rain_18 : decode cX12_rain 18 = .ok (.baload, 1) := by decide +kernel
theorem dX12_rain_19 : decode cX12_rain 19 = .ok (.iload_n 1, 1) := by decide +kernel
theorem dX12_rain_20 : decode cX12_rain 20 = .ok (.if_icmp .ne 7, 3) := by decide +kernel
theorem dX12_rain_23 : decode cX12_rain 23 = .ok (.iconst 0, 1) := by decide +kernel
theorem dX12_rain_24 : decode cX12_rain 24 = .ok (.goto 4, 3) := by decide +kernel
theorem dX12_rain_27 : decode cX12_rain 27 = .ok (.iconst 1, 1) := by decide +kernel
theorem dX12_rain_28 : decode cX12_rain 28 = .ok (.iadd, 1) := by decide +kernel
theorem dX12_rain_29 : decode cX12_rain 29 = .ok (.istore_n 2, 1) := by decide +kernel
theorem dX12_rain_30 : decode cX12_rain 30 = .ok (.aload_n 0, 1) := by decide +kernel
theorem dX12_rain_31 : decode cX12_rain 31 = .ok (.getfield 44, 3) := by decide +kernel
theorem dX12_rain_34 : decode cX12_rain 34 = .ok (.iload_n 3, 1) := by decide +kernel
theorem dX12_rain_35 : decode cX12_rain 35 = .ok (.iload_n 1, 1) := by decide +kernel
theorem dX12_rain_36 : decode cX12_rain 36 = .ok (.bastore, 1) := by decide +kernel
theorem dX12_rain_37 : decode cX12_rain 37 = .ok (.iinc 3 1, 3) := by decide +kernel
theorem dX12_rain_40 : decode cX12_rain 40 = .ok (.goto (-36), 3) := by decide +kernel
theorem dX12_rain_43 : decode cX12_rain 43 = .ok (.iload_n 2, 1) := by decide +kernel
theorem dX12_rain_44 : decode cX12_rain 44 = .ok (.ireturn, 1) := by decide +kernel
theorem dX12_slopeAt_0 : decode cX12_slopeAt 0 = .ok (.iconst 0, 1) := by decide +kernel
theorem dX12_slopeAt_1 : decode cX12_slopeAt 1 = .ok (.istore_n 3, 1) := by decide +kernel
theorem dX12_slopeAt_2 : decode cX12_slopeAt 2 = .ok (.iload_n 3, 1) := by decide +kernel
theorem dX12_slopeAt_3 : decode cX12_slopeAt 3 = .ok (.aload_n 0, 1) := by decide +kernel
theorem dX12_slopeAt_4 : decode cX12_slopeAt 4 = .ok (.getfield 245, 3) := by decide +kernel
theorem dX12_slopeAt_7 : decode cX12_slopeAt 7 = .ok (.if_icmp .ge 76, 3) := by decide +kernel
theorem dX12_slopeAt_10 : decode cX12_slopeAt 10 = .ok (.iconst 4, 1) := by decide +kernel
theorem dX12_slopeAt_11 : decode cX12_slopeAt 11 = .ok (.iload_n 3, 1) := by decide +kernel
theorem dX12_slopeAt_12 : decode cX12_slopeAt 12 = .ok (.imul, 1) := by decide +kernel
theorem dX12_slopeAt_13 : decode cX12_slopeAt 13 = .ok (.istore 4, 2) := by decide +kernel
theorem dX12_slopeAt_15 : decode cX12_slopeAt 15 = .ok (.iload_n 1, 1) := by decide +kernel
theorem dX12_slopeAt_16 : decode cX12_slopeAt 16 = .ok (.bipush 65, 2) := by decide +kernel
theorem dX12_slopeAt_18 : decode cX12_slopeAt 18 = .ok (.aload_n 0, 1) := by decide +kernel
theorem dX12_slopeAt_19 : decode cX12_slopeAt 19 = .ok (.getfield 35, 3) := by decide +kernel
theorem dX12_slopeAt_22 : decode cX12_slopeAt 22 = .ok (.iload 4, 2) := by decide +kernel
theorem dX12_slopeAt_24 : decode cX12_slopeAt 24 = .ok (.iaload, 1) := by decide +kernel
theorem dX12_slopeAt_25 : decode cX12_slopeAt 25 = .ok (.imul, 1) := by decide +kernel
theorem dX12_slopeAt_26 : decode cX12_slopeAt 26 = .ok (.bipush 65, 2) := by decide +kernel
theorem dX12_slopeAt_28 : decode cX12_slopeAt 28 = .ok (.aload_n 0, 1) := by decide +kernel
theorem dX12_slopeAt_29 : decode cX12_slopeAt 29 = .ok (.getfield 35, 3) := by decide +kernel
theorem dX12_slopeAt_32 : decode cX12_slopeAt 32 = .ok (.iload 4, 2) := by decide +kernel
theorem dX12_slopeAt_34 : decode cX12_slopeAt 34 = .ok (.iconst 2, 1) := by decide +kernel
theorem dX12_slopeAt_35 : decode cX12_slopeAt 35 = .ok (.iadd, 1) := by decide +kernel
theorem dX12_slopeAt_36 : decode cX12_slopeAt 36 = .ok (.iaload, 1) := by decide +kernel
theorem dX12_slopeAt_37 : decode cX12_slopeAt 37 = .ok (.imul, 1) := by decide +kernel
theorem dX12_slopeAt_38 : decode cX12_slopeAt 38 = .ok (.invokestatic 217, 3) := by decide +kernel
theorem dX12_slopeAt_41 : decode cX12_slopeAt 41 = .ok (.ifCond .eq 36, 3) := by decide +kernel
theorem dX12_slopeAt_44 : decode cX12_slopeAt 44 = .ok (.iload_n 2, 1) := by decide +kernel
theorem dX12_slopeAt_45 : decode cX12_slopeAt 45 = .ok (.bipush 65, 2) := by decide +kernel
theorem dX12_slopeAt_47 : decode cX12_slopeAt 47 = .ok (.aload_n 0, 1) := by decide +kernel
theorem dX12_slopeAt_48 : decode cX12_slopeAt 48 = .ok (.getfield 35, 3) := by decide +kernel
theorem dX12_slopeAt_51 : decode cX12_slopeAt 51 = .ok (.iload 4, 2) := by decide +kernel
theorem dX12_slopeAt_53 : decode cX12_slopeAt 53 = .ok (.iconst 1, 1) := by decide +kernel
theorem dX12_slopeAt_54 : decode cX12_slopeAt 54 = .ok (.iadd, 1) := by decide +kernel
theorem dX12_slopeAt_55 : decode cX12_slopeAt 55 = .ok (.iaload, 1) := by decide +kernel
theorem dX12_slopeAt_56 : decode cX12_slopeAt 56 = .ok (.imul, 1) := by decide +kernel
theorem dX12_slopeAt_57 : decode cX12_slopeAt 57 = .ok (.bipush 65, 2) := by decide +kernel
theorem dX12_slopeAt_59 : decode cX12_slopeAt 59 = .ok (.aload_n 0, 1) := by decide +kernel
theorem dX12_slopeAt_60 : decode cX12_slopeAt 60 = .ok (.getfield 35, 3) := by decide +kernel
theorem dX12_slopeAt_63 : decode cX12_slopeAt 63 = .ok (.iload 4, 2) := by decide +kernel
theorem dX12_slopeAt_65 : decode cX12_slopeAt 65 = .ok (.iconst 3, 1) := by decide +kernel
theorem dX12_slopeAt_66 : decode cX12_slopeAt 66 = .ok (.iadd, 1) := by decide +kernel
theorem dX12_slopeAt_67 : decode cX12_slopeAt 67 = .ok (.iaload, 1) := by decide +kernel
theorem dX12_slopeAt_68 : decode cX12_slopeAt 68 = .ok (.imul, 1) := by decide +kernel
theorem dX12_slopeAt_69 : decode cX12_slopeAt 69 = .ok (.invokestatic 217, 3) := by decide +kernel
theorem dX12_slopeAt_72 : decode cX12_slopeAt 72 = .ok (.ifCond .eq 5, 3) := by decide +kernel
theorem dX12_slopeAt_75 : decode cX12_slopeAt 75 = .ok (.iload_n 3, 1) := by decide +kernel
theorem dX12_slopeAt_76 : decode cX12_slopeAt 76 = .ok (.ireturn, 1) := by decide +kernel
theorem dX12_slopeAt_77 : decode cX12_slopeAt 77 = .ok (.iinc 3 1, 3) := by decide +kernel
theorem dX12_slopeAt_80 : decode cX12_slopeAt 80 = .ok (.goto (-78), 3) := by decide +kernel
theorem dX12_slopeAt_83 : decode cX12_slopeAt 83 = .ok (.iconst (-1), 1) := by decide +kernel
theorem dX12_slopeAt_84 : decode cX12_slopeAt 84 = .ok (.ireturn, 1) := by decide +kernel
theorem dX12_ground_0 : decode cX12_ground 0 = .ok (.iload_n 1, 1) := by decide +kernel
theorem dX12_ground_1 : decode cX12_ground 1 = .ok (.ldc 248, 2) := by decide +kernel
theorem dX12_ground_3 : decode cX12_ground 3 = .ok (.ldc 249, 2) := by decide +kernel
theorem dX12_ground_5 : decode cX12_ground 5 = .ok (.invokestatic 217, 3) := by decide +kernel
theorem dX12_ground_8 : decode cX12_ground 8 = .ok (.ifCond .eq 23, 3) := by decide +kernel
theorem dX12_ground_11 : decode cX12_ground 11 = .ok (.iload_n 2, 1) := by decide +kernel
theorem dX12_ground_12 : decode cX12_ground 12 = .ok (.ldc 248, 2) := by decide +kernel
theorem dX12_ground_14 : decode cX12_ground 14 = .ok (.ldc 249, 2) := by decide +kernel
theorem dX12_ground_16 : decode cX12_ground 16 = .ok (.invokestatic 217, 3) := by decide +kernel
theorem dX12_ground_19 : decode cX12_ground 19 = .ok (.ifCond .eq 12, 3) := by decide +kernel
theorem dX12_ground_22 : decode cX12_ground 22 = .ok (.iload_n 3, 1) := by decide +kernel
theorem dX12_ground_23 : decode cX12_ground 23 = .ok (.iconst 0, 1) := by decide +kernel
theorem dX12_ground_24 : decode cX12_ground 24 = .ok (.iconst 3, 1) := by decide +kernel
theorem dX12_ground_25 : decode cX12_ground 25 = .ok (.invokestatic 217, 3) := by decide +kernel
theorem dX12_ground_28 : decode cX12_ground 28 = .ok (.ifCond .ne 7, 3) := by decide +kernel
theorem dX12_ground_31 : decode cX12_ground 31 = .ok (.sipush (-1000), 3) := by decide +kernel
theorem dX12_ground_34 : decode cX12_ground 34 = .ok (.ireturn, 1) := by decide +kernel
theorem dX12_ground_35 : decode cX12_ground 35 = .ok (.aload_n 0, 1) := by decide +kernel
theorem dX12_ground_36 : decode cX12_ground 36 = .ok (.iload_n 1, 1) := by decide +kernel
theorem dX12_ground_37 : decode cX12_ground 37 = .ok (.iload_n 2, 1) := by decide +kernel
theorem dX12_ground_38 : decode cX12_ground 38 = .ok (.invokevirtual 250, 3) := by decide +kernel
theorem dX12_ground_41 : decode cX12_ground 41 = .ok (.istore 4, 2) := by decide +kernel
theorem dX12_ground_43 : decode cX12_ground 43 = .ok (.iload_n 3, 1) := by decide +kernel
theorem dX12_ground_44 : decode cX12_ground 44 = .ok (.ifCond .ne 6, 3) := by decide +kernel
theorem dX12_ground_47 : decode cX12_ground 47 = .ok (.iload 4, 2) := by decide +kernel
theorem dX12_ground_49 : decode cX12_ground 49 = .ok (.ireturn, 1) := by decide +kernel
theorem dX12_ground_50 : decode cX12_ground 50 = .ok (.iload 4, 2) := by decide +kernel
theorem dX12_ground_52 : decode cX12_ground 52 = .ok (.iconst (-1), 1) := by decide +kernel
theorem dX12_ground_53 : decode cX12_ground 53 = .ok (.if_icmp .ne 7, 3) := by decide +kernel
theorem dX12_ground_56 : decode cX12_ground 56 = .ok (.iconst 0, 1) := by decide +kernel
theorem dX12_ground_57 : decode cX12_ground 57 = .ok (.goto 48, 3) := by decide +kernel
theorem dX12_ground_60 : decode cX12_ground 60 = .ok (.iload_n 3, 1) := by decide +kernel
theorem dX12_ground_61 : decode cX12_ground 61 = .ok (.iconst 1, 1) := by decide +kernel
theorem dX12_ground_62 : decode cX12_ground 62 = .ok (.if_icmp .ne 13, 3) := by decide +kernel
theorem dX12_ground_65 : decode cX12_ground 65 = .ok (.aload_n 0, 1) := by decide +kernel
theorem dX12_ground_66 : decode cX12_ground 66 = .ok (.getfield 38, 3) := by decide +kernel
theorem dX12_ground_69 : decode cX12_ground 69 = .ok (.iload 4, 2) := by decide +kernel
theorem dX12_ground_71 : decode cX12_ground 71 = .ok (.iaload, 1) := by decide +kernel
theorem dX12_ground_72 : decode cX12_ground 72 = .ok (.goto 33, 3) := by decide +kernel
theorem dX12_ground_75 : decode cX12_ground 75 = .ok (.iload_n 3, 1) := by decide +kernel
theorem dX12_ground_76 : decode cX12_ground 76 = .ok (.iconst 2, 1) := by decide +kernel
theorem dX12_ground_77 : decode cX12_ground 77 = .ok (.if_icmp .ne 13, 3) := by decide +kernel
theorem dX12_ground_80 : decode cX12_ground 80 = .ok (.aload_n 0, 1) := by decide +kernel
theorem dX12_ground_81 : decode cX12_ground 81 = .ok (.getfield 41, 3) := by decide +kernel
theorem dX12_ground_84 : decode cX12_ground 84 = .ok (.iload 4, 2) := by decide +kernel
theorem dX12_ground_86 : decode cX12_ground 86 = .ok (.iaload, 1) := by decide +kernel
theorem dX12_ground_87 : decode cX12_ground 87 = .ok (.goto 18, 3) := by decide +kernel
theorem dX12_ground_90 : decode cX12_ground 90 = .ok (.aload_n 0, 1) := by decide +kernel
theorem dX12_ground_91 : decode cX12_ground 91 = .ok (.getfield 44, 3) := by decide +kernel
theorem dX12_ground_94 : decode cX12_ground 94 = .ok (.iload 4, 2) := by decide +kernel
theorem dX12_ground_96 : decode cX12_ground 96 = .ok (.baload, 1) := by decide +kernel
theorem dX12_ground_97 : decode cX12_ground 97 = .ok (.ifCond .eq 7, 3) := by decide +kernel
theorem dX12_ground_100 : decode cX12_ground 100 = .ok (.iconst 1, 1) := by decide +kernel
theorem dX12_ground_101 : decode cX12_ground 101 = .ok (.goto 4, 3) := by decide +kernel
theorem dX12_ground_104 : decode cX12_ground 104 = .ok (.iconst 0, 1) := by decide +kernel
theorem dX12_ground_105 : decode cX12_ground 105 = .ok (.ireturn, 1) := by decide +kernel
theorem dX12_isCar_0 : decode cX12_isCar 0 = .ok (.iload_n 1, 1) := by decide +kernel
theorem dX12_isCar_1 : decode cX12_isCar 1 = .ok (.iconst 0, 1) := by decide +kernel
theorem dX12_isCar_2 : decode cX12_isCar 2 = .ok (.aload_n 0, 1) := by decide +kernel
theorem dX12_isCar_3 : decode cX12_isCar 3 = .ok (.getfield 254, 3) := by decide +kernel
theorem dX12_isCar_6 : decode cX12_isCar 6 = .ok (.iconst 1, 1) := by decide +kernel
theorem dX12_isCar_7 : decode cX12_isCar 7 = .ok (.isub, 1) := by decide +kernel
theorem dX12_isCar_8 : decode cX12_isCar 8 = .ok (.invokestatic 217, 3) := by decide +kernel
theorem dX12_isCar_11 : decode cX12_isCar 11 = .ok (.ireturn, 1) := by decide +kernel
theorem dX12_car_0 : decode cX12_car 0 = .ok (.iload_n 1, 1) := by decide +kernel
theorem dX12_car_1 : decode cX12_car 1 = .ok (.iconst 2, 1) := by decide +kernel
theorem dX12_car_2 : decode cX12_car 2 = .ok (.bipush 30, 2) := by decide +kernel
theorem dX12_car_4 : decode cX12_car 4 = .ok (.invokestatic 217, 3) := by decide +kernel
theorem dX12_car_7 : decode cX12_car 7 = .ok (.ifCond .eq 35, 3) := by decide +kernel
theorem dX12_car_10 : decode cX12_car 10 = .ok (.iload_n 2, 1) := by decide +kernel
theorem dX12_car_11 : decode cX12_car 11 = .ok (.iconst 2, 1) := by decide +kernel
theorem dX12_car_12 : decode cX12_car 12 = .ok (.bipush 30, 2) := by decide +kernel
theorem dX12_car_14 : decode cX12_car 14 = .ok (.invokestatic 217, 3) := by decide +kernel
theorem dX12_car_17 : decode cX12_car 17 = .ok (.ifCond .eq 25, 3) := by decide +kernel
theorem dX12_car_20 : decode cX12_car 20 = .ok (.iload_n 3, 1) := by decide +kernel
theorem dX12_car_21 : decode cX12_car 21 = .ok (.iconst 1, 1) := by decide +kernel
theorem dX12_car_22 : decode cX12_car 22 = .ok (.sipush 999, 3) := by decide +kernel
theorem dX12_car_25 : decode cX12_car 25 = .ok (.invokestatic 217, 3) := by decide +kernel
theorem dX12_car_28 : decode cX12_car 28 = .ok (.ifCond .eq 14, 3) := by decide +kernel
theorem dX12_car_31 : decode cX12_car 31 = .ok (.iload 4, 2) := by decide +kernel
theorem dX12_car_33 : decode cX12_car 33 = .ok (.iconst 0, 1) := by decide +kernel
theorem dX12_car_34 : decode cX12_car 34 = .ok (.bipush 20, 2) := by decide +kernel
theorem dX12_car_36 : decode cX12_car 36 = .ok (.invokestatic 217, 3) := by decide +kernel
theorem dX12_car_39 : decode cX12_car 39 = .ok (.ifCond .ne 6, 3) := by decide +kernel
theorem dX12_car_42 : decode cX12_car 42 = .ok (.bipush (-2), 2) := by decide +kernel
theorem dX12_car_44 : decode cX12_car 44 = .ok (.ireturn, 1) := by decide +kernel
theorem dX12_car_45 : decode cX12_car 45 = .ok (.aload_n 0, 1) := by decide +kernel
theorem dX12_car_46 : decode cX12_car 46 = .ok (.getfield 254, 3) := by decide +kernel
theorem dX12_car_49 : decode cX12_car 49 = .ok (.iconst 4, 1) := by decide +kernel
theorem dX12_car_50 : decode cX12_car 50 = .ok (.if_icmp .ne 6, 3) := by decide +kernel
theorem dX12_car_53 : decode cX12_car 53 = .ok (.bipush (-4), 2) := by decide +kernel
theorem dX12_car_55 : decode cX12_car 55 = .ok (.ireturn, 1) := by decide +kernel
theorem dX12_car_56 : decode cX12_car 56 = .ok (.aload_n 0, 1) := by decide +kernel
theorem dX12_car_57 : decode cX12_car 57 = .ok (.getfield 47, 3) := by decide +kernel
theorem dX12_car_60 : decode cX12_car 60 = .ok (.aload_n 0, 1) := by decide +kernel
theorem dX12_car_61 : decode cX12_car 61 = .ok (.getfield 254, 3) := by decide +kernel
theorem dX12_car_64 : decode cX12_car 64 = .ok (.iload_n 1, 1) := by decide +kernel
theorem dX12_car_65 : decode cX12_car 65 = .ok (.iastore, 1) := by decide +kernel
theorem dX12_car_66 : decode cX12_car 66 = .ok (.aload_n 0, 1) := by decide +kernel
theorem dX12_car_67 : decode cX12_car 67 = .ok (.getfield 50, 3) := by decide +kernel
theorem dX12_car_70 : decode cX12_car 70 = .ok (.aload_n 0, 1) := by decide +kernel
theorem dX12_car_71 : decode cX12_car 71 = .ok (.getfield 254, 3) := by decide +kernel
theorem dX12_car_74 : decode cX12_car 74 = .ok (.iload_n 2, 1) := by decide +kernel
theorem dX12_car_75 : decode cX12_car 75 = .ok (.iastore, 1) := by decide +kernel
theorem dX12_car_76 : decode cX12_car 76 = .ok (.aload_n 0, 1) := by decide +kernel
theorem dX12_car_77 : decode cX12_car 77 = .ok (.getfield 53, 3) := by decide +kernel
theorem dX12_car_80 : decode cX12_car 80 = .ok (.aload_n 0, 1) := by decide +kernel
theorem dX12_car_81 : decode cX12_car 81 = .ok (.getfield 254, 3) := by decide +kernel
theorem dX12_car_84 : decode cX12_car 84 = .ok (.iload_n 3, 1) := by decide +kernel
theorem dX12_car_85 : decode cX12_car 85 = .ok (.iastore, 1) := by decide +kernel
theorem dX12_car_86 : decode cX12_car 86 = .ok (.aload_n 0, 1) := by decide +kernel
theorem dX12_car_87 : decode cX12_car 87 = .ok (.getfield 56, 3) := by decide +kernel
theorem dX12_car_90 : decode cX12_car 90 = .ok (.aload_n 0, 1) := by decide +kernel
theorem dX12_car_91 : decode cX12_car 91 = .ok (.getfield 254, 3) := by decide +kernel
theorem dX12_car_94 : decode cX12_car 94 = .ok (.iload 4, 2) := by decide +kernel
theorem dX12_car_96 : decode cX12_car 96 = .ok (.iastore, 1) := by decide +kernel
theorem dX12_car_97 : decode cX12_car 97 = .ok (.aload_n 0, 1) := by decide +kernel
theorem dX12_car_98 : decode cX12_car 98 = .ok (.dup, 1) := by decide +kernel
theorem dX12_car_99 : decode cX12_car 99 = .ok (.getfield 254, 3) := by decide +kernel
theorem dX12_car_102 : decode cX12_car 102 = .ok (.iconst 1, 1) := by decide +kernel
theorem dX12_car_103 : decode cX12_car 103 = .ok (.iadd, 1) := by decide +kernel
theorem dX12_car_104 : decode cX12_car 104 = .ok (.putfield 254, 3) := by decide +kernel
theorem dX12_car_107 : decode cX12_car 107 = .ok (.aload_n 0, 1) := by decide +kernel
theorem dX12_car_108 : decode cX12_car 108 = .ok (.getfield 254, 3) := by decide +kernel
theorem dX12_car_111 : decode cX12_car 111 = .ok (.iconst 1, 1) := by decide +kernel
theorem dX12_car_112 : decode cX12_car 112 = .ok (.isub, 1) := by decide +kernel
theorem dX12_car_113 : decode cX12_car 113 = .ok (.ireturn, 1) := by decide +kernel
theorem dX12_footOf_0 : decode cX12_footOf 0 = .ok (.iload_n 2, 1) := by decide +kernel
theorem dX12_footOf_1 : decode cX12_footOf 1 = .ok (.ifCond .ne 7, 3) := by decide +kernel
theorem dX12_footOf_4 : decode cX12_footOf 4 = .ok (.iconst 0, 1) := by decide +kernel
theorem dX12_footOf_5 : decode cX12_footOf 5 = .ok (.goto 15, 3) := by decide +kernel
theorem dX12_footOf_8 : decode cX12_footOf 8 = .ok (.aload_n 0, 1) := by decide +kernel
theorem dX12_footOf_9 : decode cX12_footOf 9 = .ok (.getfield 62, 3) := by decide +kernel
theorem dX12_footOf_12 : decode cX12_footOf 12 = .ok (.iconst 5, 1) := by decide +kernel
theorem dX12_footOf_13 : decode cX12_footOf 13 = .ok (.iload_n 1, 1) := by decide +kernel
theorem dX12_footOf_14 : decode cX12_footOf 14 = .ok (.imul, 1) := by decide +kernel
theorem dX12_footOf_15 : decode cX12_footOf 15 = .ok (.iload_n 2, 1) := by decide +kernel
theorem dX12_footOf_16 : decode cX12_footOf 16 = .ok (.iadd, 1) := by decide +kernel
theorem dX12_footOf_17 : decode cX12_footOf 17 = .ok (.iconst 1, 1) := by decide +kernel
theorem dX12_footOf_18 : decode cX12_footOf 18 = .ok (.isub, 1) := by decide +kernel
theorem dX12_footOf_19 : decode cX12_footOf 19 = .ok (.iaload, 1) := by decide +kernel
theorem dX12_footOf_20 : decode cX12_footOf 20 = .ok (.ireturn, 1) := by decide +kernel
theorem dX12_storey_0 : decode cX12_storey 0 = .ok (.aload_n 0, 1) := by decide +kernel
theorem dX12_storey_1 : decode cX12_storey 1 = .ok (.iload_n 1, 1) := by decide +kernel
theorem dX12_storey_2 : decode cX12_storey 2 = .ok (.invokevirtual 257, 3) := by decide +kernel
theorem dX12_storey_5 : decode cX12_storey 5 = .ok (.ifCond .eq 46, 3) := by decide +kernel
theorem dX12_storey_8 : decode cX12_storey 8 = .ok (.iload_n 2, 1) := by decide +kernel
theorem dX12_storey_9 : decode cX12_storey 9 = .ok (.aload_n 0, 1) := by decide +kernel
theorem dX12_storey_10 : decode cX12_storey 10 = .ok (.iload_n 1, 1) := by decide +kernel
theorem dX12_storey_11 : decode cX12_storey 11 = .ok (.aload_n 0, 1) := by decide +kernel
theorem dX12_storey_12 : decode cX12_storey 12 = .ok (.getfield 59, 3) := by decide +kernel
theorem dX12_storey_15 : decode cX12_storey 15 = .ok (.iload_n 1, 1) := by decide +kernel
theorem dX12_storey_16 : decode cX12_storey 16 = .ok (.iaload, 1) := by decide +kernel
theorem dX12_storey_17 : decode cX12_storey 17 = .ok (.invokevirtual 260, 3) := by decide +kernel
theorem dX12_storey_20 : decode cX12_storey 20 = .ok (.iconst 1, 1) := by decide +kernel
theorem dX12_storey_21 : decode cX12_storey 21 = .ok (.iadd, 1) := by decide +kernel
theorem dX12_storey_22 : decode cX12_storey 22 = .ok (.bipush 99, 2) := by decide +kernel
theorem dX12_storey_24 : decode cX12_storey 24 = .ok (.invokestatic 217, 3) := by decide +kernel
theorem dX12_storey_27 : decode cX12_storey 27 = .ok (.ifCond .eq 24, 3) := by decide +kernel
theorem dX12_storey_30 : decode cX12_storey 30 = .ok (.iload_n 3, 1) := by decide +kernel
theorem dX12_storey_31 : decode cX12_storey 31 = .ok (.iconst 1, 1) := by decide +kernel
theorem dX12_storey_32 : decode cX12_storey 32 = .ok (.bipush 30, 2) := by decide +kernel
theorem dX12_storey_34 : decode cX12_storey 34 = .ok (.invokestatic 217, 3) := by decide +kernel
theorem dX12_storey_37 : decode cX12_storey 37 = .ok (.ifCond .eq 14, 3) := by decide +kernel
theorem dX12_storey_40 : decode cX12_storey 40 = .ok (.iload 4, 2) := by decide +kernel
theorem dX12_storey_42 : decode cX12_storey 42 = .ok (.iconst 1, 1) := by decide +kernel
theorem dX12_storey_43 : decode cX12_storey 43 = .ok (.bipush 30, 2) := by decide +kernel
theorem dX12_storey_45 : decode cX12_storey 45 = .ok (.invokestatic 217, 3) := by decide +kernel
theorem dX12_storey_48 : decode cX12_storey 48 = .ok (.ifCond .ne 6, 3) := by decide +kernel
theorem dX12_storey_51 : decode cX12_storey 51 = .ok (.bipush (-2), 2) := by decide +kernel
theorem dX12_storey_53 : decode cX12_storey 53 = .ok (.ireturn, 1) := by decide +kernel
theorem dX12_storey_54 : decode cX12_storey 54 = .ok (.aload_n 0, 1) := by decide +kernel
theorem dX12_storey_55 : decode cX12_storey 55 = .ok (.getfield 59, 3) := by decide +kernel
theorem dX12_storey_58 : decode cX12_storey 58 = .ok (.iload_n 1, 1) := by decide +kernel
theorem dX12_storey_59 : decode cX12_storey 59 = .ok (.iaload, 1) := by decide +kernel
theorem dX12_storey_60 : decode cX12_storey 60 = .ok (.iconst 5, 1) := by decide +kernel
theorem dX12_storey_61 : decode cX12_storey 61 = .ok (.if_icmp .ne 6, 3) := by decide +kernel
theorem dX12_storey_64 : decode cX12_storey 64 = .ok (.bipush (-4), 2) := by decide +kernel
theorem dX12_storey_66 : decode cX12_storey 66 = .ok (.ireturn, 1) := by decide +kernel
theorem dX12_storey_67 : decode cX12_storey 67 = .ok (.iconst 5, 1) := by decide +kernel
theorem dX12_storey_68 : decode cX12_storey 68 = .ok (.iload_n 1, 1) := by decide +kernel
theorem dX12_storey_69 : decode cX12_storey 69 = .ok (.imul, 1) := by decide +kernel
theorem dX12_storey_70 : decode cX12_storey 70 = .ok (.aload_n 0, 1) := by decide +kernel
theorem dX12_storey_71 : decode cX12_storey 71 = .ok (.getfield 59, 3) := by decide +kernel
theorem dX12_storey_74 : decode cX12_storey 74 = .ok (.iload_n 1, 1) := by decide +kernel
theorem dX12_storey_75 : decode cX12_storey 75 = .ok (.iaload, 1) := by decide +kernel
theorem dX12_storey_76 : decode cX12_storey 76 = .ok (.iadd, 1) := by decide +kernel
theorem dX12_storey_77 : decode cX12_storey 77 = .ok (.istore 5, 2) := by decide +kernel
theorem dX12_storey_79 : decode cX12_storey 79 = .ok (.aload_n 0, 1) := by decide +kernel
theorem dX12_storey_80 : decode cX12_storey 80 = .ok (.getfield 62, 3) := by decide +kernel
theorem dX12_storey_83 : decode cX12_storey 83 = .ok (.iload 5, 2) := by decide +kernel
theorem dX12_storey_85 : decode cX12_storey 85 = .ok (.iload_n 2, 1) := by decide +kernel
theorem dX12_storey_86 : decode cX12_storey 86 = .ok (.iastore, 1) := by decide +kernel
theorem dX12_storey_87 : decode cX12_storey 87 = .ok (.aload_n 0, 1) := by decide +kernel
theorem dX12_storey_88 : decode cX12_storey 88 = .ok (.getfield 65, 3) := by decide +kernel
theorem dX12_storey_91 : decode cX12_storey 91 = .ok (.iload 5, 2) := by decide +kernel
theorem dX12_storey_93 : decode cX12_storey 93 = .ok (.iload_n 3, 1) := by decide +kernel
theorem dX12_storey_94 : decode cX12_storey 94 = .ok (.iastore, 1) := by decide +kernel
theorem dX12_storey_95 : decode cX12_storey 95 = .ok (.aload_n 0, 1) := by decide +kernel
theorem dX12_storey_96 : decode cX12_storey 96 = .ok (.getfield 68, 3) := by decide +kernel
theorem dX12_storey_99 : decode cX12_storey 99 = .ok (.iload 5, 2) := by decide +kernel
theorem dX12_storey_101 : decode cX12_storey 101 = .ok (.iload 4, 2) := by decide +kernel
theorem dX12_storey_103 : decode cX12_storey 103 = .ok (.iastore, 1) := by decide +kernel
theorem dX12_storey_104 : decode cX12_storey 104 = .ok (.aload_n 0, 1) := by decide +kernel
theorem dX12_storey_105 : decode cX12_storey 105 = .ok (.getfield 59, 3) := by decide +kernel
theorem dX12_storey_108 : decode cX12_storey 108 = .ok (.iload_n 1, 1) := by decide +kernel
theorem dX12_storey_109 : decode cX12_storey 109 = .ok (.dup2, 1) := by decide +kernel
theorem dX12_storey_110 : decode cX12_storey 110 = .ok (.iaload, 1) := by decide +kernel
theorem dX12_storey_111 : decode cX12_storey 111 = .ok (.iconst 1, 1) := by decide +kernel
theorem dX12_storey_112 : decode cX12_storey 112 = .ok (.iadd, 1) := by decide +kernel
theorem dX12_storey_113 : decode cX12_storey 113 = .ok (.iastore, 1) := by decide +kernel
theorem dX12_storey_114 : decode cX12_storey 114 = .ok (.aload_n 0, 1) := by decide +kernel
theorem dX12_storey_115 : decode cX12_storey 115 = .ok (.getfield 59, 3) := by decide +kernel
theorem dX12_storey_118 : decode cX12_storey 118 = .ok (.iload_n 1, 1) := by decide +kernel
theorem dX12_storey_119 : decode cX12_storey 119 = .ok (.iaload, 1) := by decide +kernel
theorem dX12_storey_120 : decode cX12_storey 120 = .ok (.ireturn, 1) := by decide +kernel
theorem dX12_halfLong_0 : decode cX12_halfLong 0 = .ok (.iconst 5, 1) := by decide +kernel
theorem dX12_halfLong_1 : decode cX12_halfLong 1 = .ok (.iload_n 1, 1) := by decide +kernel
theorem dX12_halfLong_2 : decode cX12_halfLong 2 = .ok (.imul, 1) := by decide +kernel
theorem dX12_halfLong_3 : decode cX12_halfLong 3 = .ok (.iload_n 2, 1) := by decide +kernel
theorem dX12_halfLong_4 : decode cX12_halfLong 4 = .ok (.iadd, 1) := by decide +kernel
theorem dX12_halfLong_5 : decode cX12_halfLong 5 = .ok (.istore_n 3, 1) := by decide +kernel
theorem dX12_halfLong_6 : decode cX12_halfLong 6 = .ok (.aload_n 0, 1) := by decide +kernel
theorem dX12_halfLong_7 : decode cX12_halfLong 7 = .ok (.getfield 65, 3) := by decide +kernel
theorem dX12_halfLong_10 : decode cX12_halfLong 10 = .ok (.iload_n 3, 1) := by decide +kernel
theorem dX12_halfLong_11 : decode cX12_halfLong 11 = .ok (.iaload, 1) := by decide +kernel
theorem dX12_halfLong_12 : decode cX12_halfLong 12 = .ok (.aload_n 0, 1) := by decide +kernel
theorem dX12_halfLong_13 : decode cX12_halfLong 13 = .ok (.getfield 56, 3) := by decide +kernel
theorem dX12_halfLong_16 : decode cX12_halfLong 16 = .ok (.iload_n 1, 1) := by decide +kernel
theorem dX12_halfLong_17 : decode cX12_halfLong 17 = .ok (.iaload, 1) := by decide +kernel
theorem dX12_halfLong_18 : decode cX12_halfLong 18 = .ok (.aload_n 0, 1) := by decide +kernel
theorem dX12_halfLong_19 : decode cX12_halfLong 19 = .ok (.getfield 62, 3) := by decide +kernel
theorem dX12_halfLong_22 : decode cX12_halfLong 22 = .ok (.iload_n 3, 1) := by decide +kernel
theorem dX12_halfLong_23 : decode cX12_halfLong 23 = .ok (.iaload, 1) := by decide +kernel
theorem dX12_halfLong_24 : decode cX12_halfLong 24 = .ok (.imul, 1) := by decide +kernel
theorem dX12_halfLong_25 : decode cX12_halfLong 25 = .ok (.bipush 100, 2) := by decide +kernel
theorem dX12_halfLong_27 : decode cX12_halfLong 27 = .ok (.idiv, 1) := by decide +kernel
theorem dX12_halfLong_28 : decode cX12_halfLong 28 = .ok (.iadd, 1) := by decide +kernel
theorem dX12_halfLong_29 : decode cX12_halfLong 29 = .ok (.ireturn, 1) := by decide +kernel
theorem dX12_halfBroad_0 : decode cX12_halfBroad 0 = .ok (.iconst 5, 1) := by decide +kernel
theorem dX12_halfBroad_1 : decode cX12_halfBroad 1 = .ok (.iload_n 1, 1) := by decide +kernel
theorem dX12_halfBroad_2 : decode cX12_halfBroad 2 = .ok (.imul, 1) := by decide +kernel
theorem dX12_halfBroad_3 : decode cX12_halfBroad 3 = .ok (.iload_n 2, 1) := by decide +kernel
theorem dX12_halfBroad_4 : decode cX12_halfBroad 4 = .ok (.iadd, 1) := by decide +kernel
theorem dX12_halfBroad_5 : decode cX12_halfBroad 5 = .ok (.istore_n 3, 1) := by decide +kernel
theorem dX12_halfBroad_6 : decode cX12_halfBroad 6 = .ok (.aload_n 0, 1) := by decide +kernel
theorem dX12_halfBroad_7 : decode cX12_halfBroad 7 = .ok (.getfield 68, 3) := by decide +kernel
theorem dX12_halfBroad_10 : decode cX12_halfBroad 10 = .ok (.iload_n 3, 1) := by decide +kernel
theorem dX12_halfBroad_11 : decode cX12_halfBroad 11 = .ok (.iaload, 1) := by decide +kernel
theorem dX12_halfBroad_12 : decode cX12_halfBroad 12 = .ok (.aload_n 0, 1) := by decide +kernel
theorem dX12_halfBroad_13 : decode cX12_halfBroad 13 = .ok (.getfield 56, 3) := by decide +kernel
theorem dX12_halfBroad_16 : decode cX12_halfBroad 16 = .ok (.iload_n 1, 1) := by decide +kernel
theorem dX12_halfBroad_17 : decode cX12_halfBroad 17 = .ok (.iaload, 1) := by decide +kernel
theorem dX12_halfBroad_18 : decode cX12_halfBroad 18 = .ok (.aload_n 0, 1) := by decide +kernel
theorem dX12_halfBroad_19 : decode cX12_halfBroad 19 = .ok (.getfield 62, 3) := by decide +kernel
theorem dX12_halfBroad_22 : decode cX12_halfBroad 22 = .ok (.iload_n 3, 1) := by decide +kernel
theorem dX12_halfBroad_23 : decode cX12_halfBroad 23 = .ok (.iaload, 1) := by decide +kernel
theorem dX12_halfBroad_24 : decode cX12_halfBroad 24 = .ok (.imul, 1) := by decide +kernel
theorem dX12_halfBroad_25 : decode cX12_halfBroad 25 = .ok (.bipush 100, 2) := by decide +kernel
theorem dX12_halfBroad_27 : decode cX12_halfBroad 27 = .ok (.idiv, 1) := by decide +kernel
theorem dX12_halfBroad_28 : decode cX12_halfBroad 28 = .ok (.iadd, 1) := by decide +kernel
theorem dX12_halfBroad_29 : decode cX12_halfBroad 29 = .ok (.ireturn, 1) := by decide +kernel
theorem dX12_amount_0 : decode cX12_amount 0 = .ok (.iload_n 0, 1) := by decide +kernel
theorem dX12_amount_1 : decode cX12_amount 1 = .ok (.ifCond .ge 8, 3) := by decide +kernel
theorem dX12_amount_4 : decode cX12_amount 4 = .ok (.iload_n 0, 1) := by decide +kernel
theorem dX12_amount_5 : decode cX12_amount 5 = .ok (.ineg, 1) := by decide +kernel
theorem dX12_amount_6 : decode cX12_amount 6 = .ok (.goto 4, 3) := by decide +kernel
theorem dX12_amount_9 : decode cX12_amount 9 = .ok (.iload_n 0, 1) := by decide +kernel
theorem dX12_amount_10 : decode cX12_amount 10 = .ok (.ireturn, 1) := by decide +kernel
theorem dX12_areApart_0 : decode cX12_areApart 0 = .ok (.iload 8, 2) := by decide +kernel
theorem dX12_areApart_2 : decode cX12_areApart 2 = .ok (.invokestatic 214, 3) := by decide +kernel
theorem dX12_areApart_5 : decode cX12_areApart 5 = .ok (.istore 9, 2) := by decide +kernel
theorem dX12_areApart_7 : decode cX12_areApart 7 = .ok (.iload 8, 2) := by decide +kernel
theorem dX12_areApart_9 : decode cX12_areApart 9 = .ok (.invokestatic 225, 3) := by decide +kernel
theorem dX12_areApart_12 : decode cX12_areApart 12 = .ok (.istore 10, 2) := by decide +kernel
theorem dX12_areApart_14 : decode cX12_areApart 14 = .ok (.iload_n 0, 1) := by decide +kernel
theorem dX12_areApart_15 : decode cX12_areApart 15 = .ok (.iload 9, 2) := by decide +kernel
theorem dX12_areApart_17 : decode cX12_areApart 17 = .ok (.imul, 1) := by decide +kernel
theorem dX12_areApart_18 : decode cX12_areApart 18 = .ok (.iload_n 1, 1) := by decide +kernel
theorem dX12_areApart_19 : decode cX12_areApart 19 = .ok (.iload 10, 2) := by decide +kernel
theorem dX12_areApart_21 : decode cX12_areApart 21 = .ok (.imul, 1) := by decide +kernel
theorem dX12_areApart_22 : decode cX12_areApart 22 = .ok (.iadd, 1) := by decide +kernel
theorem dX12_areApart_23 : decode cX12_areApart 23 = .ok (.invokestatic 263, 3) := by decide +kernel
theorem dX12_areApart_26 : decode cX12_areApart 26 = .ok (.istore 11, 2) := by decide +kernel
theorem dX12_areApart_28 : decode cX12_areApart 28 = .ok (.iload_n 3, 1) := by decide +kernel
theorem dX12_areApart_29 : decode cX12_areApart 29 = .ok (.iload_n 2, 1) := by decide +kernel
theorem dX12_areApart_30 : decode cX12_areApart 30 = .ok (.invokestatic 214, 3) := by decide +kernel
theorem dX12_areApart_33 : decode cX12_areApart 33 = .ok (.iload 9, 2) := by decide +kernel
theorem dX12_areApart_35 : decode cX12_areApart 35 = .ok (.imul, 1) := by decide +kernel
theorem dX12_areApart_36 : decode cX12_areApart 36 = .ok (.iload_n 2, 1) := by decide +kernel
theorem dX12_areApart_37 : decode cX12_areApart 37 = .ok (.invokestatic 225, 3) := by decide +kernel
theorem dX12_areApart_40 : decode cX12_areApart 40 = .ok (.iload 10, 2) := by decide +kernel
theorem dX12_areApart_42 : decode cX12_areApart 42 = .ok (.imul, 1) := by decide +kernel
theorem dX12_areApart_43 : decode cX12_areApart 43 = .ok (.iadd, 1) := by decide +kernel
theorem dX12_areApart_44 : decode cX12_areApart 44 = .ok (.invokestatic 263, 3) := by decide +kernel
theorem dX12_areApart_47 : decode cX12_areApart 47 = .ok (.imul, 1) := by decide +kernel
theorem dX12_areApart_48 : decode cX12_areApart 48 = .ok (.iload 4, 2) := by decide +kernel
theorem dX12_areApart_50 : decode cX12_areApart 50 = .ok (.iload_n 2, 1) := by decide +kernel
theorem dX12_areApart_51 : decode cX12_areApart 51 = .ok (.invokestatic 225, 3) := by decide +kernel
theorem dX12_areApart_54 : decode cX12_areApart 54 = .ok (.ineg, 1) := by decide +kernel
theorem dX12_areApart_55 : decode cX12_areApart 55 = .ok (.iload 9, 2) := by decide +kernel
theorem dX12_areApart_57 : decode cX12_areApart 57 = .ok (.imul, 1) := by decide +kernel
theorem dX12_areApart_58 : decode cX12_areApart 58 = .ok (.iload_n 2, 1) := by decide +kernel
theorem dX12_areApart_59 : decode cX12_areApart 59 = .ok (.invokestatic 214, 3) := by decide +kernel
theorem dX12_areApart_62 : decode cX12_areApart 62 = .ok (.iload 10, 2) := by decide +kernel
theorem dX12_areApart_64 : decode cX12_areApart 64 = .ok (.imul, 1) := by decide +kernel
theorem dX12_areApart_65 : decode cX12_areApart 65 = .ok (.iadd, 1) := by decide +kernel
theorem dX12_areApart_66 : decode cX12_areApart 66 = .ok (.invokestatic 263, 3) := by decide +kernel
theorem dX12_areApart_69 : decode cX12_areApart 69 = .ok (.imul, 1) := by decide +kernel
theorem dX12_areApart_70 : decode cX12_areApart 70 = .ok (.iadd, 1) := by decide +kernel
theorem dX12_areApart_71 : decode cX12_areApart 71 = .ok (.istore 12, 2) := by decide +kernel
theorem dX12_areApart_73 : decode cX12_areApart 73 = .ok (.iload 6, 2) := by decide +kernel
theorem dX12_areApart_75 : decode cX12_areApart 75 = .ok (.iload 5, 2) := by decide +kernel
theorem dX12_areApart_77 : decode cX12_areApart 77 = .ok (.invokestatic 214, 3) := by decide +kernel
theorem dX12_areApart_80 : decode cX12_areApart 80 = .ok (.iload 9, 2) := by decide +kernel
theorem dX12_areApart_82 : decode cX12_areApart 82 = .ok (.imul, 1) := by decide +kernel
theorem dX12_areApart_83 : decode cX12_areApart 83 = .ok (.iload 5, 2) := by decide +kernel
theorem dX12_areApart_85 : decode cX12_areApart 85 = .ok (.invokestatic 225, 3) := by decide +kernel
theorem dX12_areApart_88 : decode cX12_areApart 88 = .ok (.iload 10, 2) := by decide +kernel
theorem dX12_areApart_90 : decode cX12_areApart 90 = .ok (.imul, 1) := by decide +kernel
theorem dX12_areApart_91 : decode cX12_areApart 91 = .ok (.iadd, 1) := by decide +kernel
theorem dX12_areApart_92 : decode cX12_areApart 92 = .ok (.invokestatic 263, 3) := by decide +kernel
theorem dX12_areApart_95 : decode cX12_areApart 95 = .ok (.imul, 1) := by decide +kernel
theorem dX12_areApart_96 : decode cX12_areApart 96 = .ok (.iload 7, 2) := by decide +kernel
theorem dX12_areApart_98 : decode cX12_areApart 98 = .ok (.iload 5, 2) := by decide +kernel
theorem dX12_areApart_100 : decode cX12_areApart 100 = .ok (.invokestatic 225, 3) := by decide +kernel
theorem dX12_areApart_103 : decode cX12_areApart 103 = .ok (.ineg, 1) := by decide +kernel
theorem dX12_areApart_104 : decode cX12_areApart 104 = .ok (.iload 9, 2) := by decide +kernel
theorem dX12_areApart_106 : decode cX12_areApart 106 = .ok (.imul, 1) := by decide +kernel
theorem dX12_areApart_107 : decode cX12_areApart 107 = .ok (.iload 5, 2) := by decide +kernel
theorem dX12_areApart_109 : decode cX12_areApart 109 = .ok (.invokestatic 214, 3) := by decide +kernel
theorem dX12_areApart_112 : decode cX12_areApart 112 = .ok (.iload 10, 2) := by decide +kernel
theorem dX12_areApart_114 : decode cX12_areApart 114 = .ok (.imul, 1) := by decide +kernel
theorem dX12_areApart_115 : decode cX12_areApart 115 = .ok (.iadd, 1) := by decide +kernel
theorem dX12_areApart_116 : decode cX12_areApart 116 = .ok (.invokestatic 263, 3) := by decide +kernel
theorem dX12_areApart_119 : decode cX12_areApart 119 = .ok (.imul, 1) := by decide +kernel
theorem dX12_areApart_120 : decode cX12_areApart 120 = .ok (.iadd, 1) := by decide +kernel
theorem dX12_areApart_121 : decode cX12_areApart 121 = .ok (.istore 13, 2) := by decide +kernel
theorem dX12_areApart_123 : decode cX12_areApart 123 = .ok (.iload 11, 2) := by decide +kernel
theorem dX12_areApart_125 : decode cX12_areApart 125 = .ok (.iload 12, 2) := by decide +kernel
theorem dX12_areApart_127 : decode cX12_areApart 127 = .ok (.iload 13, 2) := by decide +kernel
theorem dX12_areApart_129 : decode cX12_areApart 129 = .ok (.iadd, 1) := by decide +kernel
theorem dX12_areApart_130 : decode cX12_areApart 130 = .ok (.if_icmp .lt 7, 3) := by decide +kernel
theorem dX12_areApart_133 : decode cX12_areApart 133 = .ok (.iconst 1, 1) := by decide +kernel
theorem dX12_areApart_134 : decode cX12_areApart 134 = .ok (.goto 4, 3) := by decide +kernel
theorem dX12_areApart_137 : decode cX12_areApart 137 = .ok (.iconst 0, 1) := by decide +kernel
theorem dX12_areApart_138 : decode cX12_areApart 138 = .ok (.ireturn, 1) := by decide +kernel
theorem dX12_touch_0 : decode cX12_touch 0 = .ok (.iload_n 0, 1) := by decide +kernel
theorem dX12_touch_1 : decode cX12_touch 1 = .ok (.iload_n 1, 1) := by decide +kernel
theorem dX12_touch_2 : decode cX12_touch 2 = .ok (.iload_n 2, 1) := by decide +kernel
theorem dX12_touch_3 : decode cX12_touch 3 = .ok (.iload_n 3, 1) := by decide +kernel
theorem dX12_touch_4 : decode cX12_touch 4 = .ok (.iload 4, 2) := by decide +kernel
theorem dX12_touch_6 : decode cX12_touch 6 = .ok (.iload 5, 2) := by decide +kernel
theorem dX12_touch_8 : decode cX12_touch 8 = .ok (.iload 6, 2) := by decide +kernel
theorem dX12_touch_10 : decode cX12_touch 10 = .ok (.iload 7, 2) := by decide +kernel
theorem dX12_touch_12 : decode cX12_touch 12 = .ok (.iload_n 2, 1) := by decide +kernel
theorem dX12_touch_13 : decode cX12_touch 13 = .ok (.invokestatic 266, 3) := by decide +kernel
theorem dX12_touch_16 : decode cX12_touch 16 = .ok (.istore 8, 2) := by decide +kernel
theorem dX12_touch_18 : decode cX12_touch 18 = .ok (.iload 8, 2) := by decide +kernel
theorem dX12_touch_20 : decode cX12_touch 20 = .ok (.iload_n 0, 1) := by decide +kernel
theorem dX12_touch_21 : decode cX12_touch 21 = .ok (.iload_n 1, 1) := by decide +kernel
theorem dX12_touch_22 : decode cX12_touch 22 = .ok (.iload_n 2, 1) := by decide +kernel
theorem dX12_touch_23 : decode cX12_touch 23 = .ok (.iload_n 3, 1) := by decide +kernel
theorem dX12_touch_24 : decode cX12_touch 24 = .ok (.iload 4, 2) := by decide +kernel
theorem dX12_touch_26 : decode cX12_touch 26 = .ok (.iload 5, 2) := by decide +kernel
theorem dX12_touch_28 : decode cX12_touch 28 = .ok (.iload 6, 2) := by decide +kernel
theorem dX12_touch_30 : decode cX12_touch 30 = .ok (.iload 7, 2) := by decide +kernel
theorem dX12_touch_32 : decode cX12_touch 32 = .ok (.iload_n 2, 1) := by decide +kernel
theorem dX12_touch_33 : decode cX12_touch 33 = .ok (.bipush 9, 2) := by decide +kernel
theorem dX12_touch_35 : decode cX12_touch 35 = .ok (.iadd, 1) := by decide +kernel
theorem dX12_touch_36 : decode cX12_touch 36 = .ok (.invokestatic 266, 3) := by decide +kernel
theorem dX12_touch_39 : decode cX12_touch 39 = .ok (.ior, 1) := by decide +kernel
theorem dX12_touch_40 : decode cX12_touch 40 = .ok (.istore 8, 2) := by decide +kernel
theorem dX12_touch_42 : decode cX12_touch 42 = .ok (.iload 8, 2) := by decide +kernel
theorem dX12_touch_44 : decode cX12_touch 44 = .ok (.iload_n 0, 1) := by decide +kernel
theorem dX12_touch_45 : decode cX12_touch 45 = .ok (.iload_n 1, 1) := by decide +kernel
theorem dX12_touch_46 : decode cX12_touch 46 = .ok (.iload_n 2, 1) := by decide +kernel
theorem dX12_touch_47 : decode cX12_touch 47 = .ok (.iload_n 3, 1) := by decide +kernel
theorem dX12_touch_48 : decode cX12_touch 48 = .ok (.iload 4, 2) := by decide +kernel
theorem dX12_touch_50 : decode cX12_touch 50 = .ok (.iload 5, 2) := by decide +kernel
theorem dX12_touch_52 : decode cX12_touch 52 = .ok (.iload 6, 2) := by decide +kernel
theorem dX12_touch_54 : decode cX12_touch 54 = .ok (.iload 7, 2) := by decide +kernel
theorem dX12_touch_56 : decode cX12_touch 56 = .ok (.iload 5, 2) := by decide +kernel
theorem dX12_touch_58 : decode cX12_touch 58 = .ok (.invokestatic 266, 3) := by decide +kernel
theorem dX12_touch_61 : decode cX12_touch 61 = .ok (.ior, 1) := by decide +kernel
theorem dX12_touch_62 : decode cX12_touch 62 = .ok (.istore 8, 2) := by decide +kernel
theorem dX12_touch_64 : decode cX12_touch 64 = .ok (.iload 8, 2) := by decide +kernel
theorem dX12_touch_66 : decode cX12_touch 66 = .ok (.iload_n 0, 1) := by decide +kernel
theorem dX12_touch_67 : decode cX12_touch 67 = .ok (.iload_n 1, 1) := by decide +kernel
theorem dX12_touch_68 : decode cX12_touch 68 = .ok (.iload_n 2, 1) := by decide +kernel
theorem dX12_touch_69 : decode cX12_touch 69 = .ok (.iload_n 3, 1) := by decide +kernel
theorem dX12_touch_70 : decode cX12_touch 70 = .ok (.iload 4, 2) := by decide +kernel
theorem dX12_touch_72 : decode cX12_touch 72 = .ok (.iload 5, 2) := by decide +kernel
theorem dX12_touch_74 : decode cX12_touch 74 = .ok (.iload 6, 2) := by decide +kernel
theorem dX12_touch_76 : decode cX12_touch 76 = .ok (.iload 7, 2) := by decide +kernel
theorem dX12_touch_78 : decode cX12_touch 78 = .ok (.iload 5, 2) := by decide +kernel
theorem dX12_touch_80 : decode cX12_touch 80 = .ok (.bipush 9, 2) := by decide +kernel
theorem dX12_touch_82 : decode cX12_touch 82 = .ok (.iadd, 1) := by decide +kernel
theorem dX12_touch_83 : decode cX12_touch 83 = .ok (.invokestatic 266, 3) := by decide +kernel
theorem dX12_touch_86 : decode cX12_touch 86 = .ok (.ior, 1) := by decide +kernel
theorem dX12_touch_87 : decode cX12_touch 87 = .ok (.istore 8, 2) := by decide +kernel
theorem dX12_touch_89 : decode cX12_touch 89 = .ok (.iload 8, 2) := by decide +kernel
theorem dX12_touch_91 : decode cX12_touch 91 = .ok (.ifCond .ne 7, 3) := by decide +kernel
theorem dX12_touch_94 : decode cX12_touch 94 = .ok (.iconst 1, 1) := by decide +kernel
theorem dX12_touch_95 : decode cX12_touch 95 = .ok (.goto 4, 3) := by decide +kernel
theorem dX12_touch_98 : decode cX12_touch 98 = .ok (.iconst 0, 1) := by decide +kernel
theorem dX12_touch_99 : decode cX12_touch 99 = .ok (.ireturn, 1) := by decide +kernel
theorem dX12_touchesBox_0 : decode cX12_touchesBox 0 = .ok (.iconst 4, 1) := by decide +kernel
theorem dX12_touchesBox_1 : decode cX12_touchesBox 1 = .ok (.iload 4, 2) := by decide +kernel
theorem dX12_touchesBox_3 : decode cX12_touchesBox 3 = .ok (.imul, 1) := by decide +kernel
theorem dX12_touchesBox_4 : decode cX12_touchesBox 4 = .ok (.istore 6, 2) := by decide +kernel
theorem dX12_touchesBox_6 : decode cX12_touchesBox 6 = .ok (.bipush 65, 2) := by decide +kernel
theorem dX12_touchesBox_8 : decode cX12_touchesBox 8 = .ok (.aload_n 3, 1) := by decide +kernel
theorem dX12_touchesBox_9 : decode cX12_touchesBox 9 = .ok (.iload 6, 2) := by decide +kernel
theorem dX12_touchesBox_11 : decode cX12_touchesBox 11 = .ok (.iaload, 1) := by decide +kernel
theorem dX12_touchesBox_12 : decode cX12_touchesBox 12 = .ok (.aload_n 3, 1) := by decide +kernel
theorem dX12_touchesBox_13 : decode cX12_touchesBox 13 = .ok (.iload 6, 2) := by decide +kernel
theorem dX12_touchesBox_15 : decode cX12_touchesBox 15 = .ok (.iconst 2, 1) := by decide +kernel
theorem dX12_touchesBox_16 : decode cX12_touchesBox 16 = .ok (.iadd, 1) := by decide +kernel
theorem dX12_touchesBox_17 : decode cX12_touchesBox 17 = .ok (.iaload, 1) := by decide +kernel
theorem dX12_touchesBox_18 : decode cX12_touchesBox 18 = .ok (.iadd, 1) := by decide +kernel
theorem dX12_touchesBox_19 : decode cX12_touchesBox 19 = .ok (.imul, 1) := by decide +kernel
theorem dX12_touchesBox_20 : decode cX12_touchesBox 20 = .ok (.iconst 2, 1) := by decide +kernel
theorem dX12_touchesBox_21 : decode cX12_touchesBox 21 = .ok (.aload_n 0, 1) := by decide +kernel
theorem dX12_touchesBox_22 : decode cX12_touchesBox 22 = .ok (.getfield 270, 3) := by decide +kernel
theorem dX12_touchesBox_25 : decode cX12_touchesBox 25 = .ok (.imul, 1) := by decide +kernel
theorem dX12_touchesBox_26 : decode cX12_touchesBox 26 = .ok (.isub, 1) := by decide +kernel
theorem dX12_touchesBox_27 : decode cX12_touchesBox 27 = .ok (.istore 7, 2) := by decide +kernel
theorem dX12_touchesBox_29 : decode cX12_touchesBox 29 = .ok (.bipush 65, 2) := by decide +kernel
theorem dX12_touchesBox_31 : decode cX12_touchesBox 31 = .ok (.aload_n 3, 1) := by decide +kernel
theorem dX12_touchesBox_32 : decode cX12_touchesBox 32 = .ok (.iload 6, 2) := by decide +kernel
theorem dX12_touchesBox_34 : decode cX12_touchesBox 34 = .ok (.iconst 1, 1) := by decide +kernel
theorem dX12_touchesBox_35 : decode cX12_touchesBox 35 = .ok (.iadd, 1) := by decide +kernel
theorem dX12_touchesBox_36 : decode cX12_touchesBox 36 = .ok (.iaload, 1) := by decide +kernel
theorem dX12_touchesBox_37 : decode cX12_touchesBox 37 = .ok (.aload_n 3, 1) := by decide +kernel
theorem dX12_touchesBox_38 : decode cX12_touchesBox 38 = .ok (.iload 6, 2) := by decide +kernel
theorem dX12_touchesBox_40 : decode cX12_touchesBox 40 = .ok (.iconst 3, 1) := by decide +kernel
theorem dX12_touchesBox_41 : decode cX12_touchesBox 41 = .ok (.iadd, 1) := by decide +kernel
theorem dX12_touchesBox_42 : decode cX12_touchesBox 42 = .ok (.iaload, 1) := by decide +kernel
theorem dX12_touchesBox_43 : decode cX12_touchesBox 43 = .ok (.iadd, 1) := by decide +kernel
theorem dX12_touchesBox_44 : decode cX12_touchesBox 44 = .ok (.imul, 1) := by decide +kernel
theorem dX12_touchesBox_45 : decode cX12_touchesBox 45 = .ok (.iconst 2, 1) := by decide +kernel
theorem dX12_touchesBox_46 : decode cX12_touchesBox 46 = .ok (.aload_n 0, 1) := by decide +kernel
theorem dX12_touchesBox_47 : decode cX12_touchesBox 47 = .ok (.getfield 273, 3) := by decide +kernel
theorem dX12_touchesBox_50 : decode cX12_touchesBox 50 = .ok (.imul, 1) := by decide +kernel
theorem dX12_touchesBox_51 : decode cX12_touchesBox 51 = .ok (.isub, 1) := by decide +kernel
theorem dX12_touchesBox_52 : decode cX12_touchesBox 52 = .ok (.istore 8, 2) := by decide +kernel
theorem dX12_touchesBox_54 : decode cX12_touchesBox 54 = .ok (.aload_n 3, 1) := by decide +kernel
theorem dX12_touchesBox_55 : decode cX12_touchesBox 55 = .ok (.iload 6, 2) := by decide +kernel
theorem dX12_touchesBox_57 : decode cX12_touchesBox 57 = .ok (.iconst 2, 1) := by decide +kernel
theorem dX12_touchesBox_58 : decode cX12_touchesBox 58 = .ok (.iadd, 1) := by decide +kernel
theorem dX12_touchesBox_59 : decode cX12_touchesBox 59 = .ok (.iaload, 1) := by decide +kernel
theorem dX12_touchesBox_60 : decode cX12_touchesBox 60 = .ok (.aload_n 3, 1) := by decide +kernel
theorem dX12_touchesBox_61 : decode cX12_touchesBox 61 = .ok (.iload 6, 2) := by decide +kernel
theorem dX12_touchesBox_63 : decode cX12_touchesBox 63 = .ok (.iaload, 1) := by decide +kernel
theorem dX12_touchesBox_64 : decode cX12_touchesBox 64 = .ok (.isub, 1) := by decide +kernel
theorem dX12_touchesBox_65 : decode cX12_touchesBox 65 = .ok (.iconst 2, 1) := by decide +kernel
theorem dX12_touchesBox_66 : decode cX12_touchesBox 66 = .ok (.iload 5, 2) := by decide +kernel
theorem dX12_touchesBox_68 : decode cX12_touchesBox 68 = .ok (.imul, 1) := by decide +kernel
theorem dX12_touchesBox_69 : decode cX12_touchesBox 69 = .ok (.iadd, 1) := by decide +kernel
theorem dX12_touchesBox_70 : decode cX12_touchesBox 70 = .ok (.istore 9, 2) := by decide +kernel
theorem dX12_touchesBox_72 : decode cX12_touchesBox 72 = .ok (.aload_n 3, 1) := by decide +kernel
theorem dX12_touchesBox_73 : decode cX12_touchesBox 73 = .ok (.iload 6, 2) := by decide +kernel
theorem dX12_touchesBox_75 : decode cX12_touchesBox 75 = .ok (.iconst 3, 1) := by decide +kernel
theorem dX12_touchesBox_76 : decode cX12_touchesBox 76 = .ok (.iadd, 1) := by decide +kernel
theorem dX12_touchesBox_77 : decode cX12_touchesBox 77 = .ok (.iaload, 1) := by decide +kernel
theorem dX12_touchesBox_78 : decode cX12_touchesBox 78 = .ok (.aload_n 3, 1) := by decide +kernel
theorem dX12_touchesBox_79 : decode cX12_touchesBox 79 = .ok (.iload 6, 2) := by decide +kernel
theorem dX12_touchesBox_81 : decode cX12_touchesBox 81 = .ok (.iconst 1, 1) := by decide +kernel
theorem dX12_touchesBox_82 : decode cX12_touchesBox 82 = .ok (.iadd, 1) := by decide +kernel
theorem dX12_touchesBox_83 : decode cX12_touchesBox 83 = .ok (.iaload, 1) := by decide +kernel
theorem dX12_touchesBox_84 : decode cX12_touchesBox 84 = .ok (.isub, 1) := by decide +kernel
theorem dX12_touchesBox_85 : decode cX12_touchesBox 85 = .ok (.iconst 2, 1) := by decide +kernel
theorem dX12_touchesBox_86 : decode cX12_touchesBox 86 = .ok (.iload 5, 2) := by decide +kernel
theorem dX12_touchesBox_88 : decode cX12_touchesBox 88 = .ok (.imul, 1) := by decide +kernel
theorem dX12_touchesBox_89 : decode cX12_touchesBox 89 = .ok (.iadd, 1) := by decide +kernel
theorem dX12_touchesBox_90 : decode cX12_touchesBox 90 = .ok (.istore 10, 2) := by decide +kernel
theorem dX12_touchesBox_92 : decode cX12_touchesBox 92 = .ok (.iload 7, 2) := by decide +kernel
theorem dX12_touchesBox_94 : decode cX12_touchesBox 94 = .ok (.iload 8, 2) := by decide +kernel
theorem dX12_touchesBox_96 : decode cX12_touchesBox 96 = .ok (.aload_n 0, 1) := by decide +kernel
theorem dX12_touchesBox_97 : decode cX12_touchesBox 97 = .ok (.getfield 276, 3) := by decide +kernel
theorem dX12_touchesBox_100 : decode cX12_touchesBox 100 = .ok (.iconst 2, 1) := by decide +kernel
theorem dX12_touchesBox_101 : decode cX12_touchesBox 101 = .ok (.aload_n 0, 1) := by decide +kernel
theorem dX12_touchesBox_102 : decode cX12_touchesBox 102 = .ok (.iload_n 1, 1) := by decide +kernel
theorem dX12_touchesBox_103 : decode cX12_touchesBox 103 = .ok (.iload_n 2, 1) := by decide +kernel
theorem dX12_touchesBox_104 : decode cX12_touchesBox 104 = .ok (.invokevirtual 279, 3) := by decide +kernel
theorem dX12_touchesBox_107 : decode cX12_touchesBox 107 = .ok (.imul, 1) := by decide +kernel
theorem dX12_touchesBox_108 : decode cX12_touchesBox 108 = .ok (.iconst 2, 1) := by decide +kernel
theorem dX12_touchesBox_109 : decode cX12_touchesBox 109 = .ok (.aload_n 0, 1) := by decide +kernel
theorem dX12_touchesBox_110 : decode cX12_touchesBox 110 = .ok (.iload_n 1, 1) := by decide +kernel
theorem dX12_touchesBox_111 : decode cX12_touchesBox 111 = .ok (.iload_n 2, 1) := by decide +kernel
theorem dX12_touchesBox_112 : decode cX12_touchesBox 112 = .ok (.invokevirtual 282, 3) := by decide +kernel
theorem dX12_touchesBox_115 : decode cX12_touchesBox 115 = .ok (.imul, 1) := by decide +kernel
theorem dX12_touchesBox_116 : decode cX12_touchesBox 116 = .ok (.iconst 0, 1) := by decide +kernel
theorem dX12_touchesBox_117 : decode cX12_touchesBox 117 = .ok (.iload 9, 2) := by decide +kernel
theorem dX12_touchesBox_119 : decode cX12_touchesBox 119 = .ok (.iload 10, 2) := by decide +kernel
theorem dX12_touchesBox_121 : decode cX12_touchesBox 121 = .ok (.invokestatic 285, 3) := by decide +kernel
theorem dX12_touchesBox_124 : decode cX12_touchesBox 124 = .ok (.ireturn, 1) := by decide +kernel
theorem dX12_meetsHouse_0 : decode cX12_meetsHouse 0 = .ok (.iconst 0, 1) := by decide +kernel
theorem dX12_meetsHouse_1 : decode cX12_meetsHouse 1 = .ok (.istore_n 3, 1) := by decide +kernel
theorem dX12_meetsHouse_2 : decode cX12_meetsHouse 2 = .ok (.iload_n 3, 1) := by decide +kernel
theorem dX12_meetsHouse_3 : decode cX12_meetsHouse 3 = .ok (.aload_n 0, 1) := by decide +kernel
theorem dX12_meetsHouse_4 : decode cX12_meetsHouse 4 = .ok (.getfield 59, 3) := by decide +kernel
theorem dX12_meetsHouse_7 : decode cX12_meetsHouse 7 = .ok (.iload_n 1, 1) := by decide +kernel
theorem dX12_meetsHouse_8 : decode cX12_meetsHouse 8 = .ok (.iaload, 1) := by decide +kernel
theorem dX12_meetsHouse_9 : decode cX12_meetsHouse 9 = .ok (.if_icmp .ge 41, 3) := by decide +kernel
theorem dX12_meetsHouse_12 : decode cX12_meetsHouse 12 = .ok (.aload_n 0, 1) := by decide +kernel
theorem dX12_meetsHouse_13 : decode cX12_meetsHouse 13 = .ok (.getfield 13, 3) := by decide +kernel
theorem dX12_meetsHouse_16 : decode cX12_meetsHouse 16 = .ok (.iload_n 2, 1) := by decide +kernel
theorem dX12_meetsHouse_17 : decode cX12_meetsHouse 17 = .ok (.iaload, 1) := by decide +kernel
theorem dX12_meetsHouse_18 : decode cX12_meetsHouse 18 = .ok (.aload_n 0, 1) := by decide +kernel
theorem dX12_meetsHouse_19 : decode cX12_meetsHouse 19 = .ok (.iload_n 1, 1) := by decide +kernel
theorem dX12_meetsHouse_20 : decode cX12_meetsHouse 20 = .ok (.iload_n 3, 1) := by decide +kernel
theorem dX12_meetsHouse_21 : decode cX12_meetsHouse 21 = .ok (.invokevirtual 260, 3) := by decide +kernel
theorem dX12_meetsHouse_24 : decode cX12_meetsHouse 24 = .ok (.if_icmp .le 20, 3) := by decide +kernel
theorem dX12_meetsHouse_27 : decode cX12_meetsHouse 27 = .ok (.aload_n 0, 1) := by decide +kernel
theorem dX12_meetsHouse_28 : decode cX12_meetsHouse 28 = .ok (.iload_n 1, 1) := by decide +kernel
theorem dX12_meetsHouse_29 : decode cX12_meetsHouse 29 = .ok (.iload_n 3, 1) := by decide +kernel
theorem dX12_meetsHouse_30 : decode cX12_meetsHouse 30 = .ok (.aload_n 0, 1) := by decide +kernel
theorem dX12_meetsHouse_31 : decode cX12_meetsHouse 31 = .ok (.getfield 7, 3) := by decide +kernel
theorem dX12_meetsHouse_34 : decode cX12_meetsHouse 34 = .ok (.iload_n 2, 1) := by decide +kernel
theorem dX12_meetsHouse_35 : decode cX12_meetsHouse 35 = .ok (.iconst 0, 1) := by decide +kernel
theorem dX12_meetsHouse_36 : decode cX12_meetsHouse 36 = .ok (.invokevirtual 289, 3) := by decide +kernel
theorem dX12_meetsHouse_39 : decode cX12_meetsHouse 39 = .ok (.ifCond .eq 5, 3) := by decide +kernel
theorem dX12_meetsHouse_42 : decode cX12_meetsHouse 42 = .ok (.iconst 1, 1) := by decide +kernel
theorem dX12_meetsHouse_43 : decode cX12_meetsHouse 43 = .ok (.ireturn, 1) := by decide +kernel
theorem dX12_meetsHouse_44 : decode cX12_meetsHouse 44 = .ok (.iinc 3 1, 3) := by decide +kernel
theorem dX12_meetsHouse_47 : decode cX12_meetsHouse 47 = .ok (.goto (-45), 3) := by decide +kernel
theorem dX12_meetsHouse_50 : decode cX12_meetsHouse 50 = .ok (.iconst 0, 1) := by decide +kernel
theorem dX12_meetsHouse_51 : decode cX12_meetsHouse 51 = .ok (.ireturn, 1) := by decide +kernel
theorem dX12_meetsEaves_0 : decode cX12_meetsEaves 0 = .ok (.iconst 0, 1) := by decide +kernel
theorem dX12_meetsEaves_1 : decode cX12_meetsEaves 1 = .ok (.istore_n 3, 1) := by decide +kernel
theorem dX12_meetsEaves_2 : decode cX12_meetsEaves 2 = .ok (.iload_n 3, 1) := by decide +kernel
theorem dX12_meetsEaves_3 : decode cX12_meetsEaves 3 = .ok (.aload_n 0, 1) := by decide +kernel
theorem dX12_meetsEaves_4 : decode cX12_meetsEaves 4 = .ok (.getfield 59, 3) := by decide +kernel
theorem dX12_meetsEaves_7 : decode cX12_meetsEaves 7 = .ok (.iload_n 1, 1) := by decide +kernel
theorem dX12_meetsEaves_8 : decode cX12_meetsEaves 8 = .ok (.iaload, 1) := by decide +kernel
theorem dX12_meetsEaves_9 : decode cX12_meetsEaves 9 = .ok (.if_icmp .ge 67, 3) := by decide +kernel
theorem dX12_meetsEaves_12 : decode cX12_meetsEaves 12 = .ok (.aload_n 0, 1) := by decide +kernel
theorem dX12_meetsEaves_13 : decode cX12_meetsEaves 13 = .ok (.getfield 16, 3) := by decide +kernel
theorem dX12_meetsEaves_16 : decode cX12_meetsEaves 16 = .ok (.iload_n 2, 1) := by decide +kernel
theorem dX12_meetsEaves_17 : decode cX12_meetsEaves 17 = .ok (.iaload, 1) := by decide +kernel
theorem dX12_meetsEaves_18 : decode cX12_meetsEaves 18 = .ok (.aload_n 0, 1) := by decide +kernel
theorem dX12_meetsEaves_19 : decode cX12_meetsEaves 19 = .ok (.getfield 62, 3) := by decide +kernel
theorem dX12_meetsEaves_22 : decode cX12_meetsEaves 22 = .ok (.iconst 5, 1) := by decide +kernel
theorem dX12_meetsEaves_23 : decode cX12_meetsEaves 23 = .ok (.iload_n 1, 1) := by decide +kernel
theorem dX12_meetsEaves_24 : decode cX12_meetsEaves 24 = .ok (.imul, 1) := by decide +kernel
theorem dX12_meetsEaves_25 : decode cX12_meetsEaves 25 = .ok (.iload_n 3, 1) := by decide +kernel
theorem dX12_meetsEaves_26 : decode cX12_meetsEaves 26 = .ok (.iadd, 1) := by decide +kernel
theorem dX12_meetsEaves_27 : decode cX12_meetsEaves 27 = .ok (.iaload, 1) := by decide +kernel
theorem dX12_meetsEaves_28 : decode cX12_meetsEaves 28 = .ok (.if_icmp .ge 42, 3) := by decide +kernel
theorem dX12_meetsEaves_31 : decode cX12_meetsEaves 31 = .ok (.aload_n 0, 1) := by decide +kernel
theorem dX12_meetsEaves_32 : decode cX12_meetsEaves 32 = .ok (.iload_n 1, 1) := by decide +kernel
theorem dX12_meetsEaves_33 : decode cX12_meetsEaves 33 = .ok (.iload_n 3, 1) := by decide +kernel
theorem dX12_meetsEaves_34 : decode cX12_meetsEaves 34 = .ok (.invokevirtual 260, 3) := by decide +kernel
theorem dX12_meetsEaves_37 : decode cX12_meetsEaves 37 = .ok (.aload_n 0, 1) := by decide +kernel
theorem dX12_meetsEaves_38 : decode cX12_meetsEaves 38 = .ok (.getfield 13, 3) := by decide +kernel
theorem dX12_meetsEaves_41 : decode cX12_meetsEaves 41 = .ok (.iload_n 2, 1) := by decide +kernel
theorem dX12_meetsEaves_42 : decode cX12_meetsEaves 42 = .ok (.iaload, 1) := by decide +kernel
theorem dX12_meetsEaves_43 : decode cX12_meetsEaves 43 = .ok (.iconst 5, 1) := by decide +kernel
theorem dX12_meetsEaves_44 : decode cX12_meetsEaves 44 = .ok (.iadd, 1) := by decide +kernel
theorem dX12_meetsEaves_45 : decode cX12_meetsEaves 45 = .ok (.if_icmp .ge 25, 3) := by decide +kernel
theorem dX12_meetsEaves_48 : decode cX12_meetsEaves 48 = .ok (.aload_n 0, 1) := by decide +kernel
theorem dX12_meetsEaves_49 : decode cX12_meetsEaves 49 = .ok (.iload_n 1, 1) := by decide +kernel
theorem dX12_meetsEaves_50 : decode cX12_meetsEaves 50 = .ok (.iload_n 3, 1) := by decide +kernel
theorem dX12_meetsEaves_51 : decode cX12_meetsEaves 51 = .ok (.aload_n 0, 1) := by decide +kernel
theorem dX12_meetsEaves_52 : decode cX12_meetsEaves 52 = .ok (.getfield 7, 3) := by decide +kernel
theorem dX12_meetsEaves_55 : decode cX12_meetsEaves 55 = .ok (.iload_n 2, 1) := by decide +kernel
theorem dX12_meetsEaves_56 : decode cX12_meetsEaves 56 = .ok (.aload_n 0, 1) := by decide +kernel
theorem dX12_meetsEaves_57 : decode cX12_meetsEaves 57 = .ok (.getfield 19, 3) := by decide +kernel
theorem dX12_meetsEaves_60 : decode cX12_meetsEaves 60 = .ok (.iload_n 2, 1) := by decide +kernel
theorem dX12_meetsEaves_61 : decode cX12_meetsEaves 61 = .ok (.iaload, 1) := by decide +kernel
theorem dX12_meetsEaves_62 : decode cX12_meetsEaves 62 = .ok (.invokevirtual 289, 3) := by decide +kernel
theorem dX12_meetsEaves_65 : decode cX12_meetsEaves 65 = .ok (.ifCond .eq 5, 3) := by decide +kernel
theorem dX12_meetsEaves_68 : decode cX12_meetsEaves 68 = .ok (.iconst 1, 1) := by decide +kernel
theorem dX12_meetsEaves_69 : decode cX12_meetsEaves 69 = .ok (.ireturn, 1) := by decide +kernel
theorem dX12_meetsEaves_70 : decode cX12_meetsEaves 70 = .ok (.iinc 3 1, 3) := by decide +kernel
theorem dX12_meetsEaves_73 : decode cX12_meetsEaves 73 = .ok (.goto (-71), 3) := by decide +kernel
theorem dX12_meetsEaves_76 : decode cX12_meetsEaves 76 = .ok (.iconst 0, 1) := by decide +kernel
theorem dX12_meetsEaves_77 : decode cX12_meetsEaves 77 = .ok (.ireturn, 1) := by decide +kernel
def f_X12_in (a1 : Int32) (a2 : Int32) (a3 : Int32) : Int32 :=
if a1 < a2 then
(0 : Int32)
else
if a3 < a1 then
(0 : Int32)
else
(1 : Int32)
set_option maxRecDepth 100000 in
set_option maxHeartbeats 4000000 in
theorem c_X12_in (l : Launch) (D : va_G) (cT : Nat → ClassId) (lo nb : Nat) (w : Wd) (ad : Nat → Nat) (a1 : Int32) (a2 : Int32) (a3 : Int32) : Met l yX12_in (.code yX12_in cX12_in 3 (some .boolean) :: TW) { frames := 0, cells := 0, slots := 0, locals := 0 } (mPc D cT lo nb w ad [.int a1, .int a2, .int a3]) (mQz D cT lo nb w w ad (f_X12_in a1 a2 a3)) 0 0 (fun q => lo ≤ q) := by
  obtain ⟨r, h⟩ : ∃ r, f_X12_in a1 a2 a3 = r := ⟨_, rfl⟩
  rw [h]
  unfold f_X12_in at h
  refine x_met (lv := [(0, .int a1), (1, .int a2), (2, .int a3)]) (by decide +kernel) (Nat.le_of_ble_eq_true rfl) rfl ?_
  intro p e s m args below meth c ls F hr hlk hP hin hl
  have hx := F.1
  have hb := F.2.1
  have hS : va_S (fun q => lo ≤ q) s.heap s.heap [] := va_S.rf
  refine lv_iload_n hx hb dX12_in_0 rfl (lv_at hl 0 rfl) ?_
  refine lv_iload_n hx hb dX12_in_1 rfl (lv_at hl 1 rfl) ?_
  refine lv_icmp_lt (tgt := 14) hx hb dX12_in_2 (by decide) (fun hc => ?_) (fun hc => ?_)
  · have h := if_t _ hc h
    refine lv_iconst (v := 0) hx hb dX12_in_14 ic_0 ?_
    exact y_zretP h F hr hP hS hlk rfl dX12_in_15
  · have h := if_f _ hc h
    refine lv_iload_n hx hb dX12_in_5 rfl (lv_at hl 0 rfl) ?_
    refine lv_iload_n hx hb dX12_in_6 rfl (lv_at hl 2 rfl) ?_
    refine lv_icmp_gt (tgt := 14) hx hb dX12_in_7 (by decide) (fun hc => ?_) (fun hc => ?_)
    · have h := if_t _ hc h
      refine lv_iconst (v := 0) hx hb dX12_in_14 ic_0 ?_
      exact y_zretP h F hr hP hS hlk rfl dX12_in_15
    · have h := if_f _ hc h
      refine lv_iconst (v := 1) hx hb dX12_in_10 ic_1 ?_
      refine lv_goto (tgt := 15) hx hb dX12_in_11 (by decide) ?_
      exact y_zretP h F hr hP hS hlk rfl dX12_in_15
def f_X12_quarter (a1 : Int32) : Int32 :=
if a1 = 0 then
(65 : Int32)
else
if a1 = (1 : Int32) then
(63 : Int32)
else
if a1 = (2 : Int32) then
(60 : Int32)
else
if a1 = (3 : Int32) then
(56 : Int32)
else
if a1 = (4 : Int32) then
(52 : Int32)
else
if a1 = (5 : Int32) then
(39 : Int32)
else
if a1 = (6 : Int32) then
(33 : Int32)
else
if a1 = (7 : Int32) then
(25 : Int32)
else
if a1 = (8 : Int32) then
(16 : Int32)
else
(0 : Int32)
set_option maxRecDepth 100000 in
set_option maxHeartbeats 4000000 in
theorem c_X12_quarter (l : Launch) (D : va_G) (cT : Nat → ClassId) (lo nb : Nat) (w : Wd) (ad : Nat → Nat) (a1 : Int32) : Met l yX12_quarter (.code yX12_quarter cX12_quarter 1 (some .int) :: TW) { frames := 0, cells := 0, slots := 0, locals := 0 } (mPc D cT lo nb w ad [.int a1]) (mQ D cT lo nb w w ad (some (.int (f_X12_quarter a1)))) 0 0 (fun q => lo ≤ q) := by
  obtain ⟨r, h⟩ : ∃ r, f_X12_quarter a1 = r := ⟨_, rfl⟩
  rw [h]
  unfold f_X12_quarter at h
  refine x_met (lv := [(0, .int a1)]) (by decide +kernel) (Nat.le_of_ble_eq_true rfl) rfl ?_
  intro p e s m args below meth c ls F hr hlk hP hin hl
  have hx := F.1
  have hb := F.2.1
  have hS : va_S (fun q => lo ≤ q) s.heap s.heap [] := va_S.rf
  refine lv_iload_n hx hb dX12_quarter_0 rfl (lv_at hl 0 rfl) ?_
  refine lv_if_ne (tgt := 9) hx hb dX12_quarter_1 (by decide) (fun hc => ?_) (fun hc => ?_)
  · have h := if_f _ hc h
    refine lv_iload_n hx hb dX12_quarter_9 rfl (lv_at hl 0 rfl) ?_
    refine lv_iconst (v := 1) hx hb dX12_quarter_10 ic_1 ?_
    refine lv_icmp_ne (tgt := 19) hx hb dX12_quarter_11 (by decide) (fun hc => ?_) (fun hc => ?_)
    · have h := if_f _ hc h
      refine lv_iload_n hx hb dX12_quarter_19 rfl (lv_at hl 0 rfl) ?_
      refine lv_iconst (v := 2) hx hb dX12_quarter_20 ic_2 ?_
      refine lv_icmp_ne (tgt := 29) hx hb dX12_quarter_21 (by decide) (fun hc => ?_) (fun hc => ?_)
      · have h := if_f _ hc h
        refine lv_iload_n hx hb dX12_quarter_29 rfl (lv_at hl 0 rfl) ?_
        refine lv_iconst (v := 3) hx hb dX12_quarter_30 ic_3 ?_
        refine lv_icmp_ne (tgt := 39) hx hb dX12_quarter_31 (by decide) (fun hc => ?_) (fun hc => ?_)
        · have h := if_f _ hc h
          refine lv_iload_n hx hb dX12_quarter_39 rfl (lv_at hl 0 rfl) ?_
          refine lv_iconst (v := 4) hx hb dX12_quarter_40 ic_4 ?_
          refine lv_icmp_ne (tgt := 49) hx hb dX12_quarter_41 (by decide) (fun hc => ?_) (fun hc => ?_)
          · have h := if_f _ hc h
            refine lv_iload_n hx hb dX12_quarter_49 rfl (lv_at hl 0 rfl) ?_
            refine lv_iconst (v := 5) hx hb dX12_quarter_50 ic_5 ?_
            refine lv_icmp_ne (tgt := 59) hx hb dX12_quarter_51 (by decide) (fun hc => ?_) (fun hc => ?_)
            · have h := if_f _ hc h
              refine lv_iload_n hx hb dX12_quarter_59 rfl (lv_at hl 0 rfl) ?_
              refine lv_bipush (v := 6) hx hb dX12_quarter_60 ib_6 ?_
              refine lv_icmp_ne (tgt := 70) hx hb dX12_quarter_62 (by decide) (fun hc => ?_) (fun hc => ?_)
              · have h := if_f _ hc h
                refine lv_iload_n hx hb dX12_quarter_70 rfl (lv_at hl 0 rfl) ?_
                refine lv_bipush (v := 7) hx hb dX12_quarter_71 ib_7 ?_
                refine lv_icmp_ne (tgt := 81) hx hb dX12_quarter_73 (by decide) (fun hc => ?_) (fun hc => ?_)
                · have h := if_f _ hc h
                  refine lv_iload_n hx hb dX12_quarter_81 rfl (lv_at hl 0 rfl) ?_
                  refine lv_bipush (v := 8) hx hb dX12_quarter_82 ib_8 ?_
                  refine lv_icmp_ne (tgt := 92) hx hb dX12_quarter_84 (by decide) (fun hc => ?_) (fun hc => ?_)
                  · have h := if_f _ hc h
                    refine lv_iconst (v := 0) hx hb dX12_quarter_92 ic_0 ?_
                    exact y_iretP h F hr hP hS hlk dX12_quarter_93
                  · have h := if_t _ hc h
                    refine lv_bipush (v := 16) hx hb dX12_quarter_87 ib_16 ?_
                    refine lv_goto (tgt := 93) hx hb dX12_quarter_89 (by decide) ?_
                    exact y_iretP h F hr hP hS hlk dX12_quarter_93
                · have h := if_t _ hc h
                  refine lv_bipush (v := 25) hx hb dX12_quarter_76 ib_25 ?_
                  refine lv_goto (tgt := 93) hx hb dX12_quarter_78 (by decide) ?_
                  exact y_iretP h F hr hP hS hlk dX12_quarter_93
              · have h := if_t _ hc h
                refine lv_bipush (v := 33) hx hb dX12_quarter_65 ib_33 ?_
                refine lv_goto (tgt := 93) hx hb dX12_quarter_67 (by decide) ?_
                exact y_iretP h F hr hP hS hlk dX12_quarter_93
            · have h := if_t _ hc h
              refine lv_bipush (v := 39) hx hb dX12_quarter_54 ib_39 ?_
              refine lv_goto (tgt := 93) hx hb dX12_quarter_56 (by decide) ?_
              exact y_iretP h F hr hP hS hlk dX12_quarter_93
          · have h := if_t _ hc h
            refine lv_bipush (v := 52) hx hb dX12_quarter_44 ib_52 ?_
            refine lv_goto (tgt := 93) hx hb dX12_quarter_46 (by decide) ?_
            exact y_iretP h F hr hP hS hlk dX12_quarter_93
        · have h := if_t _ hc h
          refine lv_bipush (v := 56) hx hb dX12_quarter_34 ib_56 ?_
          refine lv_goto (tgt := 93) hx hb dX12_quarter_36 (by decide) ?_
          exact y_iretP h F hr hP hS hlk dX12_quarter_93
      · have h := if_t _ hc h
        refine lv_bipush (v := 60) hx hb dX12_quarter_24 ib_60 ?_
        refine lv_goto (tgt := 93) hx hb dX12_quarter_26 (by decide) ?_
        exact y_iretP h F hr hP hS hlk dX12_quarter_93
    · have h := if_t _ hc h
      refine lv_bipush (v := 63) hx hb dX12_quarter_14 ib_63 ?_
      refine lv_goto (tgt := 93) hx hb dX12_quarter_16 (by decide) ?_
      exact y_iretP h F hr hP hS hlk dX12_quarter_93
  · have h := if_t _ hc h
    refine lv_bipush (v := 65) hx hb dX12_quarter_4 ib_65 ?_
    refine lv_goto (tgt := 93) hx hb dX12_quarter_6 (by decide) ?_
    exact y_iretP h F hr hP hS hlk dX12_quarter_93
def f_X12_along (a1 : Int32) : Int32 :=
q_lt (((a1 - a1 / (36 : Int32) * (36 : Int32)) + (36 : Int32)) - ((a1 - a1 / (36 : Int32) * (36 : Int32)) + (36 : Int32)) / (36 : Int32) * (36 : Int32)) (fun v_10 =>
q_jn (fun (s0_25 : Int32) =>
if s0_25 ≤ (9 : Int32) then
f_X12_quarter s0_25
else
-(f_X12_quarter ((18 : Int32) - s0_25))) (fun j_25 =>
if v_10 ≤ (18 : Int32) then
j_25 v_10
else
j_25 ((36 : Int32) - v_10)))
set_option maxRecDepth 100000 in
set_option maxHeartbeats 4000000 in
theorem c_X12_along (l : Launch) (D : va_G) (cT : Nat → ClassId) (lo nb : Nat) (w : Wd) (ad : Nat → Nat) (a1 : Int32) : Met l yX12_along (.code yX12_along cX12_along 3 (some .int) :: TW) { frames := 1, cells := 0, slots := 0, locals := 20 } (mPc D cT lo nb w ad [.int a1]) (mQ D cT lo nb w w ad (some (.int (f_X12_along a1)))) 0 0 (fun q => lo ≤ q) := by
  obtain ⟨r, h⟩ : ∃ r, f_X12_along a1 = r := ⟨_, rfl⟩
  rw [h]
  unfold f_X12_along at h
  refine x_met (lv := [(0, .int a1)]) (by decide +kernel) (Nat.le_of_ble_eq_true rfl) rfl ?_
  intro p e s m args below meth c ls F hr hlk hP hin hl
  have hx := F.1
  have hb := F.2.1
  have hS : va_S (fun q => lo ≤ q) s.heap s.heap [] := va_S.rf
  refine lv_iload_n hx hb dX12_along_0 rfl (lv_at hl 0 rfl) ?_
  refine lv_bipush (v := 36) hx hb dX12_along_1 ib_36 ?_
  refine lv_irem hx hb dX12_along_3 (by decide) ?_
  refine lv_bipush (v := 36) hx hb dX12_along_4 ib_36 ?_
  refine lv_iadd hx hb dX12_along_6 ?_
  refine lv_bipush (v := 36) hx hb dX12_along_7 ib_36 ?_
  refine lv_irem hx hb dX12_along_9 (by decide) ?_
  refine y_let h (fun v_10 h => ?_)
  refine lv_istore_n (lv' := [(1, .int v_10), (0, .int a1)]) hx hb dX12_along_10 rfl hl (Nat.le_of_ble_eq_true rfl) rfl (fun ls hl => ?_)
  refine lv_iload_n hx hb dX12_along_11 rfl (lv_at hl 0 rfl) ?_
  refine lv_bipush (v := 18) hx hb dX12_along_12 ib_18 ?_
  refine jn_use (fun (j_25 : Int32 → Int32) => ∀ (s0_25 : Int32), j_25 s0_25 = r → GG p l e { frames := 1, cells := 0, slots := 0, locals := 20 } s m args below meth c 0 0 (MQ below (mQ D cT lo nb w w ad (some (.int r))) args s 0 0 (fun q => lo ≤ q)) D cT lo nb 3 ad w 25 [] [.int s0_25]) h (fun s0_25 h H locs ls hP hS hl => ?_) (fun j_25 J_25 h => ?_)
  · refine lv_istore_n (lv' := [(2, .int s0_25)]) hx hb dX12_along_25 rfl hl (Nat.le_of_ble_eq_true rfl) rfl (fun ls hl => ?_)
    refine lv_iload_n hx hb dX12_along_26 rfl (lv_at hl 0 rfl) ?_
    refine lv_bipush (v := 9) hx hb dX12_along_27 ib_9 ?_
    refine lv_icmp_le (tgt := 43) hx hb dX12_along_29 (by decide) (fun hc => ?_) (fun hc => ?_)
    · have h := if_t _ hc h
      refine lv_iload_n hx hb dX12_along_43 rfl (lv_at hl 0 rfl) ?_
      refine x_goes (x_runS (As := [.int s0_25]) (rest := []) F hP hS (c_X12_quarter l D cT lo nb w ad s0_25) cw_X12_quarter lk_X12_210 st_X12_quarter ⟨rfl, rfl, Nat.le_of_ble_eq_true rfl, Nat.le_of_ble_eq_true rfl⟩ hl.1 rfl (Nat.le_of_ble_eq_true rfl) dX12_along_44 ⟨Nat.zero_le _, Nat.zero_le _⟩) hS (fun H locs hP hS _ => ?_)
      exact y_iretP h F hr hP hS hlk dX12_along_47
    · have h := if_f _ hc h
      refine lv_bipush (v := 18) hx hb dX12_along_32 ib_18 ?_
      refine lv_iload_n hx hb dX12_along_34 rfl (lv_at hl 0 rfl) ?_
      refine lv_isub hx hb dX12_along_35 ?_
      refine x_goes (x_runS (As := [.int ((18 : Int32) - s0_25)]) (rest := []) F hP hS (c_X12_quarter l D cT lo nb w ad ((18 : Int32) - s0_25)) cw_X12_quarter lk_X12_210 st_X12_quarter ⟨rfl, rfl, Nat.le_of_ble_eq_true rfl, Nat.le_of_ble_eq_true rfl⟩ hl.1 rfl (Nat.le_of_ble_eq_true rfl) dX12_along_36 ⟨Nat.zero_le _, Nat.zero_le _⟩) hS (fun H locs hP hS _ => ?_)
      refine lv_ineg hx hb dX12_along_39 ?_
      refine lv_goto (tgt := 47) hx hb dX12_along_40 (by decide) ?_
      exact y_iretP h F hr hP hS hlk dX12_along_47
  · refine lv_icmp_le (tgt := 24) hx hb dX12_along_14 (by decide) (fun hc => ?_) (fun hc => ?_)
    · have h := if_t _ hc h
      refine lv_iload_n hx hb dX12_along_24 rfl (lv_at hl 0 rfl) ?_
      exact J_25 v_10 h _ _ _ hP hS (lv_sub hl [] rfl)
    · have h := if_f _ hc h
      refine lv_bipush (v := 36) hx hb dX12_along_17 ib_36 ?_
      refine lv_iload_n hx hb dX12_along_19 rfl (lv_at hl 0 rfl) ?_
      refine lv_isub hx hb dX12_along_20 ?_
      refine lv_goto (tgt := 25) hx hb dX12_along_21 (by decide) ?_
      exact J_25 ((36 : Int32) - v_10) h _ _ _ hP hS (lv_sub hl [] rfl)
def f_X12_across (a1 : Int32) : Int32 :=
f_X12_along (a1 - (9 : Int32))
set_option maxRecDepth 100000 in
set_option maxHeartbeats 4000000 in
theorem c_X12_across (l : Launch) (D : va_G) (cT : Nat → ClassId) (lo nb : Nat) (w : Wd) (ad : Nat → Nat) (a1 : Int32) : Met l yX12_across (.code yX12_across cX12_across 1 (some .int) :: TW) { frames := 2, cells := 0, slots := 0, locals := 42 } (mPc D cT lo nb w ad [.int a1]) (mQ D cT lo nb w w ad (some (.int (f_X12_across a1)))) 0 0 (fun q => lo ≤ q) := by
  obtain ⟨r, h⟩ : ∃ r, f_X12_across a1 = r := ⟨_, rfl⟩
  rw [h]
  unfold f_X12_across at h
  refine x_met (lv := [(0, .int a1)]) (by decide +kernel) (Nat.le_of_ble_eq_true rfl) rfl ?_
  intro p e s m args below meth c ls F hr hlk hP hin hl
  have hx := F.1
  have hb := F.2.1
  have hS : va_S (fun q => lo ≤ q) s.heap s.heap [] := va_S.rf
  refine lv_iload_n hx hb dX12_across_0 rfl (lv_at hl 0 rfl) ?_
  refine lv_bipush (v := 9) hx hb dX12_across_1 ib_9 ?_
  refine lv_isub hx hb dX12_across_3 ?_
  refine x_goes (x_runS (As := [.int (a1 - (9 : Int32))]) (rest := []) F hP hS (c_X12_along l D cT lo nb w ad (a1 - (9 : Int32))) cw_X12_along lk_X12_214 st_X12_along ⟨rfl, rfl, Nat.le_of_ble_eq_true rfl, Nat.le_of_ble_eq_true rfl⟩ hl.1 rfl (Nat.le_of_ble_eq_true rfl) dX12_across_4 ⟨Nat.zero_le _, Nat.zero_le _⟩) hS (fun H locs hP hS _ => ?_)
  exact y_iretP h F hr hP hS hlk dX12_across_7
def f_X12_isHeading (a1 : Int32) : Int32 :=
f_X12_in a1 (0 : Int32) (35 : Int32)
set_option maxRecDepth 100000 in
set_option maxHeartbeats 4000000 in
theorem c_X12_isHeading (l : Launch) (D : va_G) (cT : Nat → ClassId) (lo nb : Nat) (w : Wd) (ad : Nat → Nat) (a1 : Int32) : Met l yX12_isHeading (.code yX12_isHeading cX12_isHeading 1 (some .boolean) :: TW) { frames := 1, cells := 0, slots := 0, locals := 22 } (mPc D cT lo nb w ad [.int a1]) (mQz D cT lo nb w w ad (f_X12_isHeading a1)) 0 0 (fun q => lo ≤ q) := by
  obtain ⟨r, h⟩ : ∃ r, f_X12_isHeading a1 = r := ⟨_, rfl⟩
  rw [h]
  unfold f_X12_isHeading at h
  refine x_met (lv := [(0, .int a1)]) (by decide +kernel) (Nat.le_of_ble_eq_true rfl) rfl ?_
  intro p e s m args below meth c ls F hr hlk hP hin hl
  have hx := F.1
  have hb := F.2.1
  have hS : va_S (fun q => lo ≤ q) s.heap s.heap [] := va_S.rf
  refine lv_iload_n hx hb dX12_isHeading_0 rfl (lv_at hl 0 rfl) ?_
  refine lv_iconst (v := 0) hx hb dX12_isHeading_1 ic_0 ?_
  refine lv_bipush (v := 35) hx hb dX12_isHeading_2 ib_35 ?_
  refine x_goesZ (x_runS (As := [.int a1, .int (0 : Int32), .int (35 : Int32)]) (rest := []) F hP hS (c_X12_in l D cT lo nb w ad a1 (0 : Int32) (35 : Int32)) cw_X12_in lk_X12_217 st_X12_in ⟨rfl, rfl, Nat.le_of_ble_eq_true rfl, Nat.le_of_ble_eq_true rfl⟩ hl.1 rfl (Nat.le_of_ble_eq_true rfl) dX12_isHeading_4 ⟨Nat.zero_le _, Nat.zero_le _⟩) hS (fun H locs hz_4 hP hS _ => ?_)
  exact y_zretP h F hr hP hS hlk hz_4 dX12_isHeading_7
def f_X12_turn (a1 : Int32) (a2 : Int32) : Int32 :=
if (f_X12_isHeading a1) = 0 then
(-1000 : Int32)
else
if (f_X12_in a2 (0 : Int32) (1 : Int32)) = 0 then
(-1000 : Int32)
else
if a2 = 0 then
f_X12_along a1
else
f_X12_across a1
set_option maxRecDepth 100000 in
set_option maxHeartbeats 4000000 in
theorem c_X12_turn (l : Launch) (D : va_G) (cT : Nat → ClassId) (lo nb : Nat) (w : Wd) (ad : Nat → Nat) (a1 : Int32) (a2 : Int32) : Met l yX12_turn (.code yX12_turn cX12_turn 3 (some .int) :: TW) { frames := 3, cells := 0, slots := 0, locals := 62 } (mPc D cT lo nb w ad [.ref (ad 63), .int a1, .int a2]) (mQ D cT lo nb w w ad (some (.int (f_X12_turn a1 a2)))) 0 0 (fun q => lo ≤ q) := by
  obtain ⟨r, h⟩ : ∃ r, f_X12_turn a1 a2 = r := ⟨_, rfl⟩
  rw [h]
  unfold f_X12_turn at h
  refine x_met (lv := [(0, .ref (ad 63)), (1, .int a1), (2, .int a2)]) (by decide +kernel) (Nat.le_of_ble_eq_true rfl) rfl ?_
  intro p e s m args below meth c ls F hr hlk hP hin hl
  have hx := F.1
  have hb := F.2.1
  have hS : va_S (fun q => lo ≤ q) s.heap s.heap [] := va_S.rf
  refine lv_iload_n hx hb dX12_turn_0 rfl (lv_at hl 1 rfl) ?_
  refine x_goesZ (x_runS (As := [.int a1]) (rest := []) F hP hS (c_X12_isHeading l D cT lo nb w ad a1) cw_X12_isHeading lk_X12_221 st_X12_isHeading ⟨rfl, rfl, Nat.le_of_ble_eq_true rfl, Nat.le_of_ble_eq_true rfl⟩ hl.1 rfl (Nat.le_of_ble_eq_true rfl) dX12_turn_1 ⟨Nat.zero_le _, Nat.zero_le _⟩) hS (fun H locs hz_1 hP hS _ => ?_)
  refine lv_if_eq (tgt := 34) hx hb dX12_turn_4 (by decide) (fun hc => ?_) (fun hc => ?_)
  · have h := if_t _ hc h
    refine lv_sipush (v := -1000) hx hb dX12_turn_34 is_m1000 ?_
    exact y_iretP h F hr hP hS hlk dX12_turn_37
  · have h := if_f _ hc h
    refine lv_iload_n hx hb dX12_turn_7 rfl (lv_at hl 2 rfl) ?_
    refine lv_iconst (v := 0) hx hb dX12_turn_8 ic_0 ?_
    refine lv_iconst (v := 1) hx hb dX12_turn_9 ic_1 ?_
    refine x_goesZ (x_runS (As := [.int a2, .int (0 : Int32), .int (1 : Int32)]) (rest := []) F hP hS (c_X12_in l D cT lo nb w ad a2 (0 : Int32) (1 : Int32)) cw_X12_in lk_X12_217 st_X12_in ⟨rfl, rfl, Nat.le_of_ble_eq_true rfl, Nat.le_of_ble_eq_true rfl⟩ hl.1 rfl (Nat.le_of_ble_eq_true rfl) dX12_turn_10 ⟨Nat.zero_le _, Nat.zero_le _⟩) hS (fun H locs hz_10 hP hS _ => ?_)
    refine lv_if_eq (tgt := 34) hx hb dX12_turn_13 (by decide) (fun hc => ?_) (fun hc => ?_)
    · have h := if_t _ hc h
      refine lv_sipush (v := -1000) hx hb dX12_turn_34 is_m1000 ?_
      exact y_iretP h F hr hP hS hlk dX12_turn_37
    · have h := if_f _ hc h
      refine lv_iload_n hx hb dX12_turn_16 rfl (lv_at hl 2 rfl) ?_
      refine lv_if_ne (tgt := 27) hx hb dX12_turn_17 (by decide) (fun hc => ?_) (fun hc => ?_)
      · have h := if_f _ hc h
        refine lv_iload_n hx hb dX12_turn_27 rfl (lv_at hl 1 rfl) ?_
        refine x_goes (x_runS (As := [.int a1]) (rest := []) F hP hS (c_X12_across l D cT lo nb w ad a1) cw_X12_across lk_X12_225 st_X12_across ⟨rfl, rfl, Nat.le_of_ble_eq_true rfl, Nat.le_of_ble_eq_true rfl⟩ hl.1 rfl (Nat.le_of_ble_eq_true rfl) dX12_turn_28 ⟨Nat.zero_le _, Nat.zero_le _⟩) hS (fun H locs hP hS _ => ?_)
        refine lv_goto (tgt := 37) hx hb dX12_turn_31 (by decide) ?_
        exact y_iretP h F hr hP hS hlk dX12_turn_37
      · have h := if_t _ hc h
        refine lv_iload_n hx hb dX12_turn_20 rfl (lv_at hl 1 rfl) ?_
        refine x_goes (x_runS (As := [.int a1]) (rest := []) F hP hS (c_X12_along l D cT lo nb w ad a1) cw_X12_along lk_X12_214 st_X12_along ⟨rfl, rfl, Nat.le_of_ble_eq_true rfl, Nat.le_of_ble_eq_true rfl⟩ hl.1 rfl (Nat.le_of_ble_eq_true rfl) dX12_turn_21 ⟨Nat.zero_le _, Nat.zero_le _⟩) hS (fun H locs hP hS _ => ?_)
        refine lv_goto (tgt := 37) hx hb dX12_turn_24 (by decide) ?_
        exact y_iretP h F hr hP hS hlk dX12_turn_37
def f_X12_floorBy (a1 : Int64) (a2 : Int64) : Int32 :=
q_jn (fun (s0_22 : Int64) =>
s0_22.toInt32) (fun j_22 =>
if 0 ≤ (lg_cmp (a1 - a1 / a2 * a2) (0 : Int64)) then
j_22 (a1 / a2)
else
j_22 ((a1 / a2) - (1 : Int64)))
set_option maxRecDepth 100000 in
set_option maxHeartbeats 4000000 in
theorem c_X12_floorBy (l : Launch) (D : va_G) (cT : Nat → ClassId) (lo nb : Nat) (w : Wd) (ad : Nat → Nat) (a1 : Int64) (a2 : Int64) (hnz : ¬ a2 = 0) : Met l yX12_floorBy (.code yX12_floorBy cX12_floorBy 6 (some .int) :: TW) { frames := 0, cells := 0, slots := 0, locals := 0 } (mPc D cT lo nb w ad [.long a1, .long a2]) (mQ D cT lo nb w w ad (some (.int (f_X12_floorBy a1 a2)))) 0 0 (fun q => lo ≤ q) := by
  obtain ⟨r, h⟩ : ∃ r, f_X12_floorBy a1 a2 = r := ⟨_, rfl⟩
  rw [h]
  unfold f_X12_floorBy at h
  refine x_met (lv := [(0, .long a1), (2, .long a2)]) (by decide +kernel) (Nat.le_of_ble_eq_true rfl) rfl ?_
  intro p e s m args below meth c ls F hr hlk hP hin hl
  have hx := F.1
  have hb := F.2.1
  have hS : va_S (fun q => lo ≤ q) s.heap s.heap [] := va_S.rf
  refine lv_lload_n hx hb dX12_floorBy_0 rfl (lv_at hl 0 rfl) ?_
  refine lv_lload_n hx hb dX12_floorBy_1 rfl (lv_at hl 1 rfl) ?_
  refine lv_ldiv hx hb dX12_floorBy_2 hnz ?_
  refine lv_lstore (lv' := [(4, .long (a1 / a2)), (0, .long a1), (2, .long a2)]) hx hb dX12_floorBy_3 hl (Nat.le_of_ble_eq_true rfl) rfl (fun ls hl => ?_)
  refine lv_lload_n hx hb dX12_floorBy_5 rfl (lv_at hl 1 rfl) ?_
  refine lv_lload_n hx hb dX12_floorBy_6 rfl (lv_at hl 2 rfl) ?_
  refine lv_lrem hx hb dX12_floorBy_7 hnz ?_
  refine lv_lconst (v := 0) hx hb dX12_floorBy_8 (by decide) ?_
  refine W.lcmp hx hb dX12_floorBy_9 ?_
  refine jn_use (fun (j_22 : Int64 → Int32) => ∀ (s0_22 : Int64), j_22 s0_22 = r → GG p l e { frames := 0, cells := 0, slots := 0, locals := 0 } s m args below meth c 0 0 (MQ below (mQ D cT lo nb w w ad (some (.int r))) args s 0 0 (fun q => lo ≤ q)) D cT lo nb 6 ad w 22 [] [.long s0_22]) h (fun s0_22 h H locs ls hP hS hl => ?_) (fun j_22 J_22 h => ?_)
  · refine lv_l2i hx hb dX12_floorBy_22 rfl ?_
    exact y_iretP h F hr hP hS hlk dX12_floorBy_23
  · refine lv_if_ge (tgt := 20) hx hb dX12_floorBy_10 (by decide) (fun hc => ?_) (fun hc => ?_)
    · have h := if_t _ hc h
      refine lv_lload hx hb dX12_floorBy_20 (lv_at hl 0 rfl) ?_
      exact J_22 (a1 / a2) h _ _ _ hP hS (lv_sub hl [] rfl)
    · have h := if_f _ hc h
      refine lv_lload hx hb dX12_floorBy_13 (lv_at hl 0 rfl) ?_
      refine lv_lconst (v := 1) hx hb dX12_floorBy_15 (by decide) ?_
      refine lv_lsub hx hb dX12_floorBy_16 ?_
      refine lv_goto (tgt := 22) hx hb dX12_floorBy_17 (by decide) ?_
      exact J_22 ((a1 / a2) - (1 : Int64)) h _ _ _ hP hS (lv_sub hl [] rfl)
def f_X12_isBox (a1 : Int32) (a2 : Int32) (a3 : Int32) (a4 : Int32) : Int32 :=
if (f_X12_in a1 (-500 : Int32) (500 : Int32)) = 0 then
(0 : Int32)
else
if (f_X12_in a2 (-500 : Int32) (500 : Int32)) = 0 then
(0 : Int32)
else
if (f_X12_in a3 (-500 : Int32) (500 : Int32)) = 0 then
(0 : Int32)
else
if (f_X12_in a4 (-500 : Int32) (500 : Int32)) = 0 then
(0 : Int32)
else
if a3 ≤ a1 then
(0 : Int32)
else
if a4 ≤ a2 then
(0 : Int32)
else
(1 : Int32)
set_option maxRecDepth 100000 in
set_option maxHeartbeats 4000000 in
theorem c_X12_isBox (l : Launch) (D : va_G) (cT : Nat → ClassId) (lo nb : Nat) (w : Wd) (ad : Nat → Nat) (a1 : Int32) (a2 : Int32) (a3 : Int32) (a4 : Int32) : Met l yX12_isBox (.code yX12_isBox cX12_isBox 4 (some .boolean) :: TW) { frames := 1, cells := 0, slots := 0, locals := 22 } (mPc D cT lo nb w ad [.int a1, .int a2, .int a3, .int a4]) (mQz D cT lo nb w w ad (f_X12_isBox a1 a2 a3 a4)) 0 0 (fun q => lo ≤ q) := by
  obtain ⟨r, h⟩ : ∃ r, f_X12_isBox a1 a2 a3 a4 = r := ⟨_, rfl⟩
  rw [h]
  unfold f_X12_isBox at h
  refine x_met (lv := [(0, .int a1), (1, .int a2), (2, .int a3), (3, .int a4)]) (by decide +kernel) (Nat.le_of_ble_eq_true rfl) rfl ?_
  intro p e s m args below meth c ls F hr hlk hP hin hl
  have hx := F.1
  have hb := F.2.1
  have hS : va_S (fun q => lo ≤ q) s.heap s.heap [] := va_S.rf
  refine lv_iload_n hx hb dX12_isBox_0 rfl (lv_at hl 0 rfl) ?_
  refine lv_sipush (v := -500) hx hb dX12_isBox_1 is_m500 ?_
  refine lv_sipush (v := 500) hx hb dX12_isBox_4 is_500 ?_
  refine x_goesZ (x_runS (As := [.int a1, .int (-500 : Int32), .int (500 : Int32)]) (rest := []) F hP hS (c_X12_in l D cT lo nb w ad a1 (-500 : Int32) (500 : Int32)) cw_X12_in lk_X12_217 st_X12_in ⟨rfl, rfl, Nat.le_of_ble_eq_true rfl, Nat.le_of_ble_eq_true rfl⟩ hl.1 rfl (Nat.le_of_ble_eq_true rfl) dX12_isBox_7 ⟨Nat.zero_le _, Nat.zero_le _⟩) hS (fun H locs hz_7 hP hS _ => ?_)
  refine lv_if_eq (tgt := 66) hx hb dX12_isBox_10 (by decide) (fun hc => ?_) (fun hc => ?_)
  · have h := if_t _ hc h
    refine lv_iconst (v := 0) hx hb dX12_isBox_66 ic_0 ?_
    exact y_zretP h F hr hP hS hlk rfl dX12_isBox_67
  · have h := if_f _ hc h
    refine lv_iload_n hx hb dX12_isBox_13 rfl (lv_at hl 1 rfl) ?_
    refine lv_sipush (v := -500) hx hb dX12_isBox_14 is_m500 ?_
    refine lv_sipush (v := 500) hx hb dX12_isBox_17 is_500 ?_
    refine x_goesZ (x_runS (As := [.int a2, .int (-500 : Int32), .int (500 : Int32)]) (rest := []) F hP hS (c_X12_in l D cT lo nb w ad a2 (-500 : Int32) (500 : Int32)) cw_X12_in lk_X12_217 st_X12_in ⟨rfl, rfl, Nat.le_of_ble_eq_true rfl, Nat.le_of_ble_eq_true rfl⟩ hl.1 rfl (Nat.le_of_ble_eq_true rfl) dX12_isBox_20 ⟨Nat.zero_le _, Nat.zero_le _⟩) hS (fun H locs hz_20 hP hS _ => ?_)
    refine lv_if_eq (tgt := 66) hx hb dX12_isBox_23 (by decide) (fun hc => ?_) (fun hc => ?_)
    · have h := if_t _ hc h
      refine lv_iconst (v := 0) hx hb dX12_isBox_66 ic_0 ?_
      exact y_zretP h F hr hP hS hlk rfl dX12_isBox_67
    · have h := if_f _ hc h
      refine lv_iload_n hx hb dX12_isBox_26 rfl (lv_at hl 2 rfl) ?_
      refine lv_sipush (v := -500) hx hb dX12_isBox_27 is_m500 ?_
      refine lv_sipush (v := 500) hx hb dX12_isBox_30 is_500 ?_
      refine x_goesZ (x_runS (As := [.int a3, .int (-500 : Int32), .int (500 : Int32)]) (rest := []) F hP hS (c_X12_in l D cT lo nb w ad a3 (-500 : Int32) (500 : Int32)) cw_X12_in lk_X12_217 st_X12_in ⟨rfl, rfl, Nat.le_of_ble_eq_true rfl, Nat.le_of_ble_eq_true rfl⟩ hl.1 rfl (Nat.le_of_ble_eq_true rfl) dX12_isBox_33 ⟨Nat.zero_le _, Nat.zero_le _⟩) hS (fun H locs hz_33 hP hS _ => ?_)
      refine lv_if_eq (tgt := 66) hx hb dX12_isBox_36 (by decide) (fun hc => ?_) (fun hc => ?_)
      · have h := if_t _ hc h
        refine lv_iconst (v := 0) hx hb dX12_isBox_66 ic_0 ?_
        exact y_zretP h F hr hP hS hlk rfl dX12_isBox_67
      · have h := if_f _ hc h
        refine lv_iload_n hx hb dX12_isBox_39 rfl (lv_at hl 3 rfl) ?_
        refine lv_sipush (v := -500) hx hb dX12_isBox_40 is_m500 ?_
        refine lv_sipush (v := 500) hx hb dX12_isBox_43 is_500 ?_
        refine x_goesZ (x_runS (As := [.int a4, .int (-500 : Int32), .int (500 : Int32)]) (rest := []) F hP hS (c_X12_in l D cT lo nb w ad a4 (-500 : Int32) (500 : Int32)) cw_X12_in lk_X12_217 st_X12_in ⟨rfl, rfl, Nat.le_of_ble_eq_true rfl, Nat.le_of_ble_eq_true rfl⟩ hl.1 rfl (Nat.le_of_ble_eq_true rfl) dX12_isBox_46 ⟨Nat.zero_le _, Nat.zero_le _⟩) hS (fun H locs hz_46 hP hS _ => ?_)
        refine lv_if_eq (tgt := 66) hx hb dX12_isBox_49 (by decide) (fun hc => ?_) (fun hc => ?_)
        · have h := if_t _ hc h
          refine lv_iconst (v := 0) hx hb dX12_isBox_66 ic_0 ?_
          exact y_zretP h F hr hP hS hlk rfl dX12_isBox_67
        · have h := if_f _ hc h
          refine lv_iload_n hx hb dX12_isBox_52 rfl (lv_at hl 0 rfl) ?_
          refine lv_iload_n hx hb dX12_isBox_53 rfl (lv_at hl 2 rfl) ?_
          refine lv_icmp_ge (tgt := 66) hx hb dX12_isBox_54 (by decide) (fun hc => ?_) (fun hc => ?_)
          · have h := if_t _ hc h
            refine lv_iconst (v := 0) hx hb dX12_isBox_66 ic_0 ?_
            exact y_zretP h F hr hP hS hlk rfl dX12_isBox_67
          · have h := if_f _ hc h
            refine lv_iload_n hx hb dX12_isBox_57 rfl (lv_at hl 1 rfl) ?_
            refine lv_iload_n hx hb dX12_isBox_58 rfl (lv_at hl 3 rfl) ?_
            refine lv_icmp_ge (tgt := 66) hx hb dX12_isBox_59 (by decide) (fun hc => ?_) (fun hc => ?_)
            · have h := if_t _ hc h
              refine lv_iconst (v := 0) hx hb dX12_isBox_66 ic_0 ?_
              exact y_zretP h F hr hP hS hlk rfl dX12_isBox_67
            · have h := if_f _ hc h
              refine lv_iconst (v := 1) hx hb dX12_isBox_62 ic_1 ?_
              refine lv_goto (tgt := 67) hx hb dX12_isBox_63 (by decide) ?_
              exact y_zretP h F hr hP hS hlk rfl dX12_isBox_67
def f_X12_box (w : Wd) (a1 n1 : Nat) (a2 : Int32) (a3 : Int32) (a4 : Int32) (a5 : Int32) (a6 : Int32) : Option Wd :=
q_st w a1 n1 ((4 : Int32) * a2) a3 (fun w_5 =>
q_st w_5 a1 n1 (((4 : Int32) * a2) + (1 : Int32)) a4 (fun w_13 =>
q_st w_13 a1 n1 (((4 : Int32) * a2) + (2 : Int32)) a5 (fun w_22 =>
q_st w_22 a1 n1 (((4 : Int32) * a2) + (3 : Int32)) a6 (fun w_31 =>
some w_31))))
set_option maxRecDepth 100000 in
set_option maxHeartbeats 4000000 in
theorem c_X12_box (l : Launch) (D : va_G) (cT : Nat → ClassId) (lo nb : Nat) (w : Wd) (ad : Nat → Nat) (a1 n1 : Nat) (hk1 : kt a1 = (1, n1)) (ha1 : wA w a1 = 2) (a2 : Int32) (a3 : Int32) (a4 : Int32) (a5 : Int32) (a6 : Int32) (w9 : Wd) (h : f_X12_box w a1 n1 a2 a3 a4 a5 a6 = some w9) : Met l yX12_box (.code yX12_box cX12_box 6 none :: TW) { frames := 0, cells := 0, slots := 0, locals := 0 } (mPc D cT lo nb w ad [.ref (ad a1), .int a2, .int a3, .int a4, .int a5, .int a6]) (mQ D cT lo nb w w9 ad none) 0 0 (fun q => lo ≤ q) := by
  unfold f_X12_box at h
  refine x_met (lv := [(0, .ref (ad a1)), (1, .int a2), (2, .int a3), (3, .int a4), (4, .int a5), (5, .int a6)]) (by decide +kernel) (Nat.le_of_ble_eq_true rfl) rfl ?_
  intro p e s m args below meth c ls F hr hlk hP hin hl
  have hx := F.1
  have hb := F.2.1
  have hS : va_S (fun q => lo ≤ q) s.heap s.heap [] := va_S.rf
  have hM_w : mono w w := mono.refl
  refine lv_aload_n hx hb dX12_box_0 rfl (lv_at hl 0 rfl) ?_
  refine lv_iconst (v := 4) hx hb dX12_box_1 ic_4 ?_
  refine lv_iload_n hx hb dX12_box_2 rfl (lv_at hl 1 rfl) ?_
  refine lv_imul hx hb dX12_box_3 ?_
  refine lv_iload_n hx hb dX12_box_4 rfl (lv_at hl 2 rfl) ?_
  refine y_iast h F hP hS hk1 (n2 ha1) dX12_box_5 (fun w_5 H locs hm h hP hS => ?_)
  have hM_w := hm
  have ha1 := hm.2 _ ha1
  refine lv_aload_n hx hb dX12_box_6 rfl (lv_at hl 0 rfl) ?_
  refine lv_iconst (v := 4) hx hb dX12_box_7 ic_4 ?_
  refine lv_iload_n hx hb dX12_box_8 rfl (lv_at hl 1 rfl) ?_
  refine lv_imul hx hb dX12_box_9 ?_
  refine lv_iconst (v := 1) hx hb dX12_box_10 ic_1 ?_
  refine lv_iadd hx hb dX12_box_11 ?_
  refine lv_iload_n hx hb dX12_box_12 rfl (lv_at hl 3 rfl) ?_
  refine y_iast h F hP hS hk1 (n2 ha1) dX12_box_13 (fun w_13 H locs hm h hP hS => ?_)
  have hM_w := hM_w.trans hm
  have ha1 := hm.2 _ ha1
  refine lv_aload_n hx hb dX12_box_14 rfl (lv_at hl 0 rfl) ?_
  refine lv_iconst (v := 4) hx hb dX12_box_15 ic_4 ?_
  refine lv_iload_n hx hb dX12_box_16 rfl (lv_at hl 1 rfl) ?_
  refine lv_imul hx hb dX12_box_17 ?_
  refine lv_iconst (v := 2) hx hb dX12_box_18 ic_2 ?_
  refine lv_iadd hx hb dX12_box_19 ?_
  refine lv_iload hx hb dX12_box_20 (lv_at hl 4 rfl) ?_
  refine y_iast h F hP hS hk1 (n2 ha1) dX12_box_22 (fun w_22 H locs hm h hP hS => ?_)
  have hM_w := hM_w.trans hm
  have ha1 := hm.2 _ ha1
  refine lv_aload_n hx hb dX12_box_23 rfl (lv_at hl 0 rfl) ?_
  refine lv_iconst (v := 4) hx hb dX12_box_24 ic_4 ?_
  refine lv_iload_n hx hb dX12_box_25 rfl (lv_at hl 1 rfl) ?_
  refine lv_imul hx hb dX12_box_26 ?_
  refine lv_iconst (v := 3) hx hb dX12_box_27 ic_3 ?_
  refine lv_iadd hx hb dX12_box_28 ?_
  refine lv_iload hx hb dX12_box_29 (lv_at hl 5 rfl) ?_
  refine y_iast h F hP hS hk1 (n2 ha1) dX12_box_31 (fun w_31 H locs hm h hP hS => ?_)
  have hM_w := hM_w.trans hm
  have ha1 := hm.2 _ ha1
  exact y_vret h F hr hP hS hM_w hlk dX12_box_32
def f_X12_house (w : Wd) (a1 : Int32) (a2 : Int32) (a3 : Int32) (a4 : Int32) (a5 : Int32) (a6 : Int32) (a7 : Int32) : Option (Int32 × Wd) :=
if (f_X12_isBox a1 a2 a3 a4) = 0 then
some ((-2 : Int32), w)
else
if (f_X12_in a5 (1 : Int32) (99 : Int32)) = 0 then
some ((-2 : Int32), w)
else
if (f_X12_in a6 (1 : Int32) (99 : Int32)) = 0 then
some ((-2 : Int32), w)
else
if (f_X12_in a7 (0 : Int32) (9 : Int32)) = 0 then
some ((-2 : Int32), w)
else
q_gt w 63 0 (fun v_48 =>
if v_48 = (20 : Int32) then
some ((-4 : Int32), w)
else
q_gt w 63 0 (fun v_64 =>
q_bo (f_X12_box w 64 80 v_64 a1 a2 a3 a4) (fun w_72 =>
q_gt w_72 63 0 (fun v_80 =>
q_st w_72 65 20 v_80 a5 (fun w_85 =>
q_gt w_85 63 0 (fun v_91 =>
q_st w_85 66 20 v_91 a6 (fun w_96 =>
q_gt w_96 63 0 (fun v_102 =>
q_st w_96 67 20 v_102 a7 (fun w_107 =>
q_gt w_107 63 0 (fun v_110 =>
q_pt w_107 63 0 (v_110 + (1 : Int32)) (fun w_115 =>
q_gt w_115 63 0 (fun v_119 =>
some (v_119 - (1 : Int32), w_115)))))))))))))
set_option maxRecDepth 100000 in
set_option maxHeartbeats 4000000 in
theorem c_X12_house (l : Launch) (D : va_G) (cT : Nat → ClassId) (lo : Nat) (w : Wd) (ad : Nat → Nat) (a1 : Int32) (a2 : Int32) (a3 : Int32) (a4 : Int32) (a5 : Int32) (a6 : Int32) (a7 : Int32) (r : Int32) (w9 : Wd) (h : f_X12_house w a1 a2 a3 a4 a5 a6 a7 = some (r, w9)) : Met l yX12_house (.code yX12_house cX12_house 8 (some .int) :: TW) { frames := 2, cells := 0, slots := 0, locals := 45 } (mPc D cT lo NB w ad [.ref (ad 63), .int a1, .int a2, .int a3, .int a4, .int a5, .int a6, .int a7]) (mQ D cT lo NB w w9 ad (some (.int r))) 0 0 (fun q => lo ≤ q) := by
  unfold f_X12_house at h
  refine x_met (lv := [(0, .ref (ad 63)), (1, .int a1), (2, .int a2), (3, .int a3), (4, .int a4), (5, .int a5), (6, .int a6), (7, .int a7)]) (by decide +kernel) (Nat.le_of_ble_eq_true rfl) rfl ?_
  intro p e s m args below meth c ls F hr hlk hP hin hl
  have hx := F.1
  have hb := F.2.1
  have hS : va_S (fun q => lo ≤ q) s.heap s.heap [] := va_S.rf
  have hM_w : mono w w := mono.refl
  refine lv_iload_n hx hb dX12_house_0 rfl (lv_at hl 1 rfl) ?_
  refine lv_iload_n hx hb dX12_house_1 rfl (lv_at hl 2 rfl) ?_
  refine lv_iload_n hx hb dX12_house_2 rfl (lv_at hl 3 rfl) ?_
  refine lv_iload hx hb dX12_house_3 (lv_at hl 4 rfl) ?_
  refine x_goesZ (x_runS (As := [.int a1, .int a2, .int a3, .int a4]) (rest := []) F hP hS (c_X12_isBox l D cT lo NB w ad a1 a2 a3 a4) cw_X12_isBox lk_X12_228 st_X12_isBox ⟨rfl, rfl, Nat.le_of_ble_eq_true rfl, Nat.le_of_ble_eq_true rfl⟩ hl.1 rfl (Nat.le_of_ble_eq_true rfl) dX12_house_5 ⟨Nat.zero_le _, Nat.zero_le _⟩) hS (fun H locs hz_5 hP hS _ => ?_)
  refine lv_if_eq (tgt := 44) hx hb dX12_house_8 (by decide) (fun hc => ?_) (fun hc => ?_)
  · have h := if_t _ hc h
    refine lv_bipush (v := -2) hx hb dX12_house_44 ib_m2 ?_
    exact y_iretM h F hr hP hS mono.refl hlk dX12_house_46
  · have h := if_f _ hc h
    refine lv_iload hx hb dX12_house_11 (lv_at hl 5 rfl) ?_
    refine lv_iconst (v := 1) hx hb dX12_house_13 ic_1 ?_
    refine lv_bipush (v := 99) hx hb dX12_house_14 ib_99 ?_
    refine x_goesZ (x_runS (As := [.int a5, .int (1 : Int32), .int (99 : Int32)]) (rest := []) F hP hS (c_X12_in l D cT lo NB w ad a5 (1 : Int32) (99 : Int32)) cw_X12_in lk_X12_217 st_X12_in ⟨rfl, rfl, Nat.le_of_ble_eq_true rfl, Nat.le_of_ble_eq_true rfl⟩ hl.1 rfl (Nat.le_of_ble_eq_true rfl) dX12_house_16 ⟨Nat.zero_le _, Nat.zero_le _⟩) hS (fun H locs hz_16 hP hS _ => ?_)
    refine lv_if_eq (tgt := 44) hx hb dX12_house_19 (by decide) (fun hc => ?_) (fun hc => ?_)
    · have h := if_t _ hc h
      refine lv_bipush (v := -2) hx hb dX12_house_44 ib_m2 ?_
      exact y_iretM h F hr hP hS mono.refl hlk dX12_house_46
    · have h := if_f _ hc h
      refine lv_iload hx hb dX12_house_22 (lv_at hl 6 rfl) ?_
      refine lv_iconst (v := 1) hx hb dX12_house_24 ic_1 ?_
      refine lv_bipush (v := 99) hx hb dX12_house_25 ib_99 ?_
      refine x_goesZ (x_runS (As := [.int a6, .int (1 : Int32), .int (99 : Int32)]) (rest := []) F hP hS (c_X12_in l D cT lo NB w ad a6 (1 : Int32) (99 : Int32)) cw_X12_in lk_X12_217 st_X12_in ⟨rfl, rfl, Nat.le_of_ble_eq_true rfl, Nat.le_of_ble_eq_true rfl⟩ hl.1 rfl (Nat.le_of_ble_eq_true rfl) dX12_house_27 ⟨Nat.zero_le _, Nat.zero_le _⟩) hS (fun H locs hz_27 hP hS _ => ?_)
      refine lv_if_eq (tgt := 44) hx hb dX12_house_30 (by decide) (fun hc => ?_) (fun hc => ?_)
      · have h := if_t _ hc h
        refine lv_bipush (v := -2) hx hb dX12_house_44 ib_m2 ?_
        exact y_iretM h F hr hP hS mono.refl hlk dX12_house_46
      · have h := if_f _ hc h
        refine lv_iload hx hb dX12_house_33 (lv_at hl 7 rfl) ?_
        refine lv_iconst (v := 0) hx hb dX12_house_35 ic_0 ?_
        refine lv_bipush (v := 9) hx hb dX12_house_36 ib_9 ?_
        refine x_goesZ (x_runS (As := [.int a7, .int (0 : Int32), .int (9 : Int32)]) (rest := []) F hP hS (c_X12_in l D cT lo NB w ad a7 (0 : Int32) (9 : Int32)) cw_X12_in lk_X12_217 st_X12_in ⟨rfl, rfl, Nat.le_of_ble_eq_true rfl, Nat.le_of_ble_eq_true rfl⟩ hl.1 rfl (Nat.le_of_ble_eq_true rfl) dX12_house_38 ⟨Nat.zero_le _, Nat.zero_le _⟩) hS (fun H locs hz_38 hP hS _ => ?_)
        refine lv_if_ne (tgt := 47) hx hb dX12_house_41 (by decide) (fun hc => ?_) (fun hc => ?_)
        · have h := if_f _ hc h
          refine lv_aload_n hx hb dX12_house_47 rfl (lv_at hl 0 rfl) ?_
          refine y_geti h F hP k_63 (n2 (hP.al 63 rfl)) fl_X12_232 rfl dX12_house_48 (fun v_48 h => ?_)
          refine lv_bipush (v := 20) hx hb dX12_house_51 ib_20 ?_
          refine lv_icmp_ne (tgt := 59) hx hb dX12_house_53 (by decide) (fun hc => ?_) (fun hc => ?_)
          · have h := if_f _ hc h
            refine lv_aload_n hx hb dX12_house_59 rfl (lv_at hl 0 rfl) ?_
            refine x_getr F hP k_63 (hP.al 63 rfl) fl_X12_7 rfl r_63_1 dX12_house_60 ?_
            refine lv_aload_n hx hb dX12_house_63 rfl (lv_at hl 0 rfl) ?_
            refine y_geti h F hP k_63 (n2 (hP.al 63 rfl)) fl_X12_232 rfl dX12_house_64 (fun v_64 h => ?_)
            refine lv_iload_n hx hb dX12_house_67 rfl (lv_at hl 1 rfl) ?_
            refine lv_iload_n hx hb dX12_house_68 rfl (lv_at hl 2 rfl) ?_
            refine lv_iload_n hx hb dX12_house_69 rfl (lv_at hl 3 rfl) ?_
            refine lv_iload hx hb dX12_house_70 (lv_at hl 4 rfl) ?_
            obtain ⟨w_72, hc_72, h⟩ := bo_s h
            refine x_goes (x_runS (As := [.ref (ad 64), .int v_64, .int a1, .int a2, .int a3, .int a4]) (rest := []) F hP hS (c_X12_box l D cT lo NB w ad 64 80 k_64 (hP.al 64 rfl) v_64 a1 a2 a3 a4 w_72 hc_72) cw_X12_box lk_X12_235 st_X12_box ⟨rfl, rfl, Nat.le_of_ble_eq_true rfl, Nat.le_of_ble_eq_true rfl⟩ hl.1 rfl (Nat.le_of_ble_eq_true rfl) dX12_house_72 ⟨Nat.zero_le _, Nat.zero_le _⟩) hS (fun H locs hP hS hm => ?_)
            have hM_w := hm
            refine lv_aload_n hx hb dX12_house_75 rfl (lv_at hl 0 rfl) ?_
            refine x_getr F hP k_63 (hP.al 63 rfl) fl_X12_13 rfl r_63_2 dX12_house_76 ?_
            refine lv_aload_n hx hb dX12_house_79 rfl (lv_at hl 0 rfl) ?_
            refine y_geti h F hP k_63 (n2 (hP.al 63 rfl)) fl_X12_232 rfl dX12_house_80 (fun v_80 h => ?_)
            refine lv_iload hx hb dX12_house_83 (lv_at hl 5 rfl) ?_
            refine y_iast h F hP hS k_65 (n2 (hP.al 65 rfl)) dX12_house_85 (fun w_85 H locs hm h hP hS => ?_)
            have hM_w := hM_w.trans hm
            refine lv_aload_n hx hb dX12_house_86 rfl (lv_at hl 0 rfl) ?_
            refine x_getr F hP k_63 (hP.al 63 rfl) fl_X12_16 rfl r_63_3 dX12_house_87 ?_
            refine lv_aload_n hx hb dX12_house_90 rfl (lv_at hl 0 rfl) ?_
            refine y_geti h F hP k_63 (n2 (hP.al 63 rfl)) fl_X12_232 rfl dX12_house_91 (fun v_91 h => ?_)
            refine lv_iload hx hb dX12_house_94 (lv_at hl 6 rfl) ?_
            refine y_iast h F hP hS k_66 (n2 (hP.al 66 rfl)) dX12_house_96 (fun w_96 H locs hm h hP hS => ?_)
            have hM_w := hM_w.trans hm
            refine lv_aload_n hx hb dX12_house_97 rfl (lv_at hl 0 rfl) ?_
            refine x_getr F hP k_63 (hP.al 63 rfl) fl_X12_19 rfl r_63_4 dX12_house_98 ?_
            refine lv_aload_n hx hb dX12_house_101 rfl (lv_at hl 0 rfl) ?_
            refine y_geti h F hP k_63 (n2 (hP.al 63 rfl)) fl_X12_232 rfl dX12_house_102 (fun v_102 h => ?_)
            refine lv_iload hx hb dX12_house_105 (lv_at hl 7 rfl) ?_
            refine y_iast h F hP hS k_67 (n2 (hP.al 67 rfl)) dX12_house_107 (fun w_107 H locs hm h hP hS => ?_)
            have hM_w := hM_w.trans hm
            refine lv_aload_n hx hb dX12_house_108 rfl (lv_at hl 0 rfl) ?_
            refine lv_dup hx hb dX12_house_109 rfl ?_
            refine y_geti h F hP k_63 (n2 (hP.al 63 rfl)) fl_X12_232 rfl dX12_house_110 (fun v_110 h => ?_)
            refine lv_iconst (v := 1) hx hb dX12_house_113 ic_1 ?_
            refine lv_iadd hx hb dX12_house_114 ?_
            refine y_puti h F hP hS k_63 (n2 (hP.al 63 rfl)) fl_X12_232 rfl dX12_house_115 (fun w_115 H locs hm h hP hS => ?_)
            have hM_w := hM_w.trans hm
            refine lv_aload_n hx hb dX12_house_118 rfl (lv_at hl 0 rfl) ?_
            refine y_geti h F hP k_63 (n2 (hP.al 63 rfl)) fl_X12_232 rfl dX12_house_119 (fun v_119 h => ?_)
            refine lv_iconst (v := 1) hx hb dX12_house_122 ic_1 ?_
            refine lv_isub hx hb dX12_house_123 ?_
            exact y_iretM h F hr hP hS hM_w hlk dX12_house_124
          · have h := if_t _ hc h
            refine lv_bipush (v := -4) hx hb dX12_house_56 ib_m4 ?_
            exact y_iretM h F hr hP hS mono.refl hlk dX12_house_58
        · have h := if_t _ hc h
          refine lv_bipush (v := -2) hx hb dX12_house_44 ib_m2 ?_
          exact y_iretM h F hr hP hS mono.refl hlk dX12_house_46
def f_X12_cut (w : Wd) (a1 : Int32) (a2 : Int32) : Option (Int32 × Wd) :=
q_gt w 63 0 (fun v_3 =>
if (f_X12_in a1 (0 : Int32) (v_3 - (1 : Int32))) = 0 then
some ((-2 : Int32), w)
else
q_ld w 67 20 a1 (fun v_21 =>
if (f_X12_in a2 (0 : Int32) v_21) = 0 then
some ((-2 : Int32), w)
else
q_ld w 67 20 a1 (fun v_36 =>
q_st w 67 20 a1 a2 (fun w_44 =>
some (v_36, w_44)))))
set_option maxRecDepth 100000 in
set_option maxHeartbeats 4000000 in
theorem c_X12_cut (l : Launch) (D : va_G) (cT : Nat → ClassId) (lo : Nat) (w : Wd) (ad : Nat → Nat) (a1 : Int32) (a2 : Int32) (r : Int32) (w9 : Wd) (h : f_X12_cut w a1 a2 = some (r, w9)) : Met l yX12_cut (.code yX12_cut cX12_cut 4 (some .int) :: TW) { frames := 1, cells := 0, slots := 0, locals := 22 } (mPc D cT lo NB w ad [.ref (ad 63), .int a1, .int a2]) (mQ D cT lo NB w w9 ad (some (.int r))) 0 0 (fun q => lo ≤ q) := by
  unfold f_X12_cut at h
  refine x_met (lv := [(0, .ref (ad 63)), (1, .int a1), (2, .int a2)]) (by decide +kernel) (Nat.le_of_ble_eq_true rfl) rfl ?_
  intro p e s m args below meth c ls F hr hlk hP hin hl
  have hx := F.1
  have hb := F.2.1
  have hS : va_S (fun q => lo ≤ q) s.heap s.heap [] := va_S.rf
  have hM_w : mono w w := mono.refl
  refine lv_iload_n hx hb dX12_cut_0 rfl (lv_at hl 1 rfl) ?_
  refine lv_iconst (v := 0) hx hb dX12_cut_1 ic_0 ?_
  refine lv_aload_n hx hb dX12_cut_2 rfl (lv_at hl 0 rfl) ?_
  refine y_geti h F hP k_63 (n2 (hP.al 63 rfl)) fl_X12_232 rfl dX12_cut_3 (fun v_3 h => ?_)
  refine lv_iconst (v := 1) hx hb dX12_cut_6 ic_1 ?_
  refine lv_isub hx hb dX12_cut_7 ?_
  refine x_goesZ (x_runS (As := [.int a1, .int (0 : Int32), .int (v_3 - (1 : Int32))]) (rest := []) F hP hS (c_X12_in l D cT lo NB w ad a1 (0 : Int32) (v_3 - (1 : Int32))) cw_X12_in lk_X12_217 st_X12_in ⟨rfl, rfl, Nat.le_of_ble_eq_true rfl, Nat.le_of_ble_eq_true rfl⟩ hl.1 rfl (Nat.le_of_ble_eq_true rfl) dX12_cut_8 ⟨Nat.zero_le _, Nat.zero_le _⟩) hS (fun H locs hz_8 hP hS _ => ?_)
  refine lv_if_eq (tgt := 28) hx hb dX12_cut_11 (by decide) (fun hc => ?_) (fun hc => ?_)
  · have h := if_t _ hc h
    refine lv_bipush (v := -2) hx hb dX12_cut_28 ib_m2 ?_
    exact y_iretM h F hr hP hS mono.refl hlk dX12_cut_30
  · have h := if_f _ hc h
    refine lv_iload_n hx hb dX12_cut_14 rfl (lv_at hl 2 rfl) ?_
    refine lv_iconst (v := 0) hx hb dX12_cut_15 ic_0 ?_
    refine lv_aload_n hx hb dX12_cut_16 rfl (lv_at hl 0 rfl) ?_
    refine x_getr F hP k_63 (hP.al 63 rfl) fl_X12_19 rfl r_63_4 dX12_cut_17 ?_
    refine lv_iload_n hx hb dX12_cut_20 rfl (lv_at hl 1 rfl) ?_
    refine y_iald h F hP k_67 (n2 (hP.al 67 rfl)) dX12_cut_21 (fun v_21 h => ?_)
    refine x_goesZ (x_runS (As := [.int a2, .int (0 : Int32), .int v_21]) (rest := []) F hP hS (c_X12_in l D cT lo NB w ad a2 (0 : Int32) v_21) cw_X12_in lk_X12_217 st_X12_in ⟨rfl, rfl, Nat.le_of_ble_eq_true rfl, Nat.le_of_ble_eq_true rfl⟩ hl.1 rfl (Nat.le_of_ble_eq_true rfl) dX12_cut_22 ⟨Nat.zero_le _, Nat.zero_le _⟩) hS (fun H locs hz_22 hP hS _ => ?_)
    refine lv_if_ne (tgt := 31) hx hb dX12_cut_25 (by decide) (fun hc => ?_) (fun hc => ?_)
    · have h := if_f _ hc h
      refine lv_aload_n hx hb dX12_cut_31 rfl (lv_at hl 0 rfl) ?_
      refine x_getr F hP k_63 (hP.al 63 rfl) fl_X12_19 rfl r_63_4 dX12_cut_32 ?_
      refine lv_iload_n hx hb dX12_cut_35 rfl (lv_at hl 1 rfl) ?_
      refine y_iald h F hP k_67 (n2 (hP.al 67 rfl)) dX12_cut_36 (fun v_36 h => ?_)
      refine lv_istore_n (lv' := [(3, .int v_36), (0, .ref (ad 63)), (1, .int a1), (2, .int a2)]) hx hb dX12_cut_37 rfl hl (Nat.le_of_ble_eq_true rfl) rfl (fun ls hl => ?_)
      refine lv_aload_n hx hb dX12_cut_38 rfl (lv_at hl 1 rfl) ?_
      refine x_getr F hP k_63 (hP.al 63 rfl) fl_X12_19 rfl r_63_4 dX12_cut_39 ?_
      refine lv_iload_n hx hb dX12_cut_42 rfl (lv_at hl 2 rfl) ?_
      refine lv_iload_n hx hb dX12_cut_43 rfl (lv_at hl 3 rfl) ?_
      refine y_iast h F hP hS k_67 (n2 (hP.al 67 rfl)) dX12_cut_44 (fun w_44 H locs hm h hP hS => ?_)
      have hM_w := hm
      refine lv_iload_n hx hb dX12_cut_45 rfl (lv_at hl 0 rfl) ?_
      exact y_iretM h F hr hP hS hM_w hlk dX12_cut_46
    · have h := if_t _ hc h
      refine lv_bipush (v := -2) hx hb dX12_cut_28 ib_m2 ?_
      exact y_iretM h F hr hP hS mono.refl hlk dX12_cut_30
def f_X12_kerb (w : Wd) (a1 : Int32) (a2 : Int32) (a3 : Int32) (a4 : Int32) : Option (Int32 × Wd) :=
if (f_X12_isBox a1 a2 a3 a4) = 0 then
some ((-2 : Int32), w)
else
q_gt w 63 5 (fun v_15 =>
if v_15 = (10 : Int32) then
some ((-4 : Int32), w)
else
q_gt w 63 5 (fun v_31 =>
q_bo (f_X12_box w 68 40 v_31 a1 a2 a3 a4) (fun w_39 =>
q_gt w_39 63 5 (fun v_44 =>
q_pt w_39 63 5 (v_44 + (1 : Int32)) (fun w_49 =>
q_gt w_49 63 5 (fun v_53 =>
some (v_53 - (1 : Int32), w_49)))))))
set_option maxRecDepth 100000 in
set_option maxHeartbeats 4000000 in
theorem c_X12_kerb (l : Launch) (D : va_G) (cT : Nat → ClassId) (lo : Nat) (w : Wd) (ad : Nat → Nat) (a1 : Int32) (a2 : Int32) (a3 : Int32) (a4 : Int32) (r : Int32) (w9 : Wd) (h : f_X12_kerb w a1 a2 a3 a4 = some (r, w9)) : Met l yX12_kerb (.code yX12_kerb cX12_kerb 5 (some .int) :: TW) { frames := 2, cells := 0, slots := 0, locals := 45 } (mPc D cT lo NB w ad [.ref (ad 63), .int a1, .int a2, .int a3, .int a4]) (mQ D cT lo NB w w9 ad (some (.int r))) 0 0 (fun q => lo ≤ q) := by
  unfold f_X12_kerb at h
  refine x_met (lv := [(0, .ref (ad 63)), (1, .int a1), (2, .int a2), (3, .int a3), (4, .int a4)]) (by decide +kernel) (Nat.le_of_ble_eq_true rfl) rfl ?_
  intro p e s m args below meth c ls F hr hlk hP hin hl
  have hx := F.1
  have hb := F.2.1
  have hS : va_S (fun q => lo ≤ q) s.heap s.heap [] := va_S.rf
  have hM_w : mono w w := mono.refl
  refine lv_iload_n hx hb dX12_kerb_0 rfl (lv_at hl 1 rfl) ?_
  refine lv_iload_n hx hb dX12_kerb_1 rfl (lv_at hl 2 rfl) ?_
  refine lv_iload_n hx hb dX12_kerb_2 rfl (lv_at hl 3 rfl) ?_
  refine lv_iload hx hb dX12_kerb_3 (lv_at hl 4 rfl) ?_
  refine x_goesZ (x_runS (As := [.int a1, .int a2, .int a3, .int a4]) (rest := []) F hP hS (c_X12_isBox l D cT lo NB w ad a1 a2 a3 a4) cw_X12_isBox lk_X12_228 st_X12_isBox ⟨rfl, rfl, Nat.le_of_ble_eq_true rfl, Nat.le_of_ble_eq_true rfl⟩ hl.1 rfl (Nat.le_of_ble_eq_true rfl) dX12_kerb_5 ⟨Nat.zero_le _, Nat.zero_le _⟩) hS (fun H locs hz_5 hP hS _ => ?_)
  refine lv_if_ne (tgt := 14) hx hb dX12_kerb_8 (by decide) (fun hc => ?_) (fun hc => ?_)
  · have h := if_f _ hc h
    refine lv_aload_n hx hb dX12_kerb_14 rfl (lv_at hl 0 rfl) ?_
    refine y_geti h F hP k_63 (n2 (hP.al 63 rfl)) fl_X12_239 rfl dX12_kerb_15 (fun v_15 h => ?_)
    refine lv_bipush (v := 10) hx hb dX12_kerb_18 ib_10 ?_
    refine lv_icmp_ne (tgt := 26) hx hb dX12_kerb_20 (by decide) (fun hc => ?_) (fun hc => ?_)
    · have h := if_f _ hc h
      refine lv_aload_n hx hb dX12_kerb_26 rfl (lv_at hl 0 rfl) ?_
      refine x_getr F hP k_63 (hP.al 63 rfl) fl_X12_22 rfl r_63_6 dX12_kerb_27 ?_
      refine lv_aload_n hx hb dX12_kerb_30 rfl (lv_at hl 0 rfl) ?_
      refine y_geti h F hP k_63 (n2 (hP.al 63 rfl)) fl_X12_239 rfl dX12_kerb_31 (fun v_31 h => ?_)
      refine lv_iload_n hx hb dX12_kerb_34 rfl (lv_at hl 1 rfl) ?_
      refine lv_iload_n hx hb dX12_kerb_35 rfl (lv_at hl 2 rfl) ?_
      refine lv_iload_n hx hb dX12_kerb_36 rfl (lv_at hl 3 rfl) ?_
      refine lv_iload hx hb dX12_kerb_37 (lv_at hl 4 rfl) ?_
      obtain ⟨w_39, hc_39, h⟩ := bo_s h
      refine x_goes (x_runS (As := [.ref (ad 68), .int v_31, .int a1, .int a2, .int a3, .int a4]) (rest := []) F hP hS (c_X12_box l D cT lo NB w ad 68 40 k_68 (hP.al 68 rfl) v_31 a1 a2 a3 a4 w_39 hc_39) cw_X12_box lk_X12_235 st_X12_box ⟨rfl, rfl, Nat.le_of_ble_eq_true rfl, Nat.le_of_ble_eq_true rfl⟩ hl.1 rfl (Nat.le_of_ble_eq_true rfl) dX12_kerb_39 ⟨Nat.zero_le _, Nat.zero_le _⟩) hS (fun H locs hP hS hm => ?_)
      have hM_w := hm
      refine lv_aload_n hx hb dX12_kerb_42 rfl (lv_at hl 0 rfl) ?_
      refine lv_dup hx hb dX12_kerb_43 rfl ?_
      refine y_geti h F hP k_63 (n2 (hP.al 63 rfl)) fl_X12_239 rfl dX12_kerb_44 (fun v_44 h => ?_)
      refine lv_iconst (v := 1) hx hb dX12_kerb_47 ic_1 ?_
      refine lv_iadd hx hb dX12_kerb_48 ?_
      refine y_puti h F hP hS k_63 (n2 (hP.al 63 rfl)) fl_X12_239 rfl dX12_kerb_49 (fun w_49 H locs hm h hP hS => ?_)
      have hM_w := hM_w.trans hm
      refine lv_aload_n hx hb dX12_kerb_52 rfl (lv_at hl 0 rfl) ?_
      refine y_geti h F hP k_63 (n2 (hP.al 63 rfl)) fl_X12_239 rfl dX12_kerb_53 (fun v_53 h => ?_)
      refine lv_iconst (v := 1) hx hb dX12_kerb_56 ic_1 ?_
      refine lv_isub hx hb dX12_kerb_57 ?_
      exact y_iretM h F hr hP hS hM_w hlk dX12_kerb_58
    · have h := if_t _ hc h
      refine lv_bipush (v := -4) hx hb dX12_kerb_23 ib_m4 ?_
      exact y_iretM h F hr hP hS mono.refl hlk dX12_kerb_25
  · have h := if_t _ hc h
    refine lv_bipush (v := -2) hx hb dX12_kerb_11 ib_m2 ?_
    exact y_iretM h F hr hP hS mono.refl hlk dX12_kerb_13
def f_X12_wire (w : Wd) (a1 : Int32) (a2 : Int32) (a3 : Int32) (a4 : Int32) (a5 : Int32) : Option (Int32 × Wd) :=
if (f_X12_isBox a1 a2 a3 a4) = 0 then
some ((-2 : Int32), w)
else
if (f_X12_in a5 (1 : Int32) (99 : Int32)) = 0 then
some ((-2 : Int32), w)
else
q_gt w 63 7 (fun v_26 =>
if v_26 = (10 : Int32) then
some ((-4 : Int32), w)
else
q_gt w 63 7 (fun v_42 =>
q_bo (f_X12_box w 69 40 v_42 a1 a2 a3 a4) (fun w_50 =>
q_gt w_50 63 7 (fun v_58 =>
q_st w_50 70 10 v_58 a5 (fun w_63 =>
q_gt w_63 63 7 (fun v_66 =>
q_pt w_63 63 7 (v_66 + (1 : Int32)) (fun w_71 =>
q_gt w_71 63 7 (fun v_75 =>
some (v_75 - (1 : Int32), w_71)))))))))
set_option maxRecDepth 100000 in
set_option maxHeartbeats 4000000 in
theorem c_X12_wire (l : Launch) (D : va_G) (cT : Nat → ClassId) (lo : Nat) (w : Wd) (ad : Nat → Nat) (a1 : Int32) (a2 : Int32) (a3 : Int32) (a4 : Int32) (a5 : Int32) (r : Int32) (w9 : Wd) (h : f_X12_wire w a1 a2 a3 a4 a5 = some (r, w9)) : Met l yX12_wire (.code yX12_wire cX12_wire 6 (some .int) :: TW) { frames := 2, cells := 0, slots := 0, locals := 45 } (mPc D cT lo NB w ad [.ref (ad 63), .int a1, .int a2, .int a3, .int a4, .int a5]) (mQ D cT lo NB w w9 ad (some (.int r))) 0 0 (fun q => lo ≤ q) := by
  unfold f_X12_wire at h
  refine x_met (lv := [(0, .ref (ad 63)), (1, .int a1), (2, .int a2), (3, .int a3), (4, .int a4), (5, .int a5)]) (by decide +kernel) (Nat.le_of_ble_eq_true rfl) rfl ?_
  intro p e s m args below meth c ls F hr hlk hP hin hl
  have hx := F.1
  have hb := F.2.1
  have hS : va_S (fun q => lo ≤ q) s.heap s.heap [] := va_S.rf
  have hM_w : mono w w := mono.refl
  refine lv_iload_n hx hb dX12_wire_0 rfl (lv_at hl 1 rfl) ?_
  refine lv_iload_n hx hb dX12_wire_1 rfl (lv_at hl 2 rfl) ?_
  refine lv_iload_n hx hb dX12_wire_2 rfl (lv_at hl 3 rfl) ?_
  refine lv_iload hx hb dX12_wire_3 (lv_at hl 4 rfl) ?_
  refine x_goesZ (x_runS (As := [.int a1, .int a2, .int a3, .int a4]) (rest := []) F hP hS (c_X12_isBox l D cT lo NB w ad a1 a2 a3 a4) cw_X12_isBox lk_X12_228 st_X12_isBox ⟨rfl, rfl, Nat.le_of_ble_eq_true rfl, Nat.le_of_ble_eq_true rfl⟩ hl.1 rfl (Nat.le_of_ble_eq_true rfl) dX12_wire_5 ⟨Nat.zero_le _, Nat.zero_le _⟩) hS (fun H locs hz_5 hP hS _ => ?_)
  refine lv_if_eq (tgt := 22) hx hb dX12_wire_8 (by decide) (fun hc => ?_) (fun hc => ?_)
  · have h := if_t _ hc h
    refine lv_bipush (v := -2) hx hb dX12_wire_22 ib_m2 ?_
    exact y_iretM h F hr hP hS mono.refl hlk dX12_wire_24
  · have h := if_f _ hc h
    refine lv_iload hx hb dX12_wire_11 (lv_at hl 5 rfl) ?_
    refine lv_iconst (v := 1) hx hb dX12_wire_13 ic_1 ?_
    refine lv_bipush (v := 99) hx hb dX12_wire_14 ib_99 ?_
    refine x_goesZ (x_runS (As := [.int a5, .int (1 : Int32), .int (99 : Int32)]) (rest := []) F hP hS (c_X12_in l D cT lo NB w ad a5 (1 : Int32) (99 : Int32)) cw_X12_in lk_X12_217 st_X12_in ⟨rfl, rfl, Nat.le_of_ble_eq_true rfl, Nat.le_of_ble_eq_true rfl⟩ hl.1 rfl (Nat.le_of_ble_eq_true rfl) dX12_wire_16 ⟨Nat.zero_le _, Nat.zero_le _⟩) hS (fun H locs hz_16 hP hS _ => ?_)
    refine lv_if_ne (tgt := 25) hx hb dX12_wire_19 (by decide) (fun hc => ?_) (fun hc => ?_)
    · have h := if_f _ hc h
      refine lv_aload_n hx hb dX12_wire_25 rfl (lv_at hl 0 rfl) ?_
      refine y_geti h F hP k_63 (n2 (hP.al 63 rfl)) fl_X12_242 rfl dX12_wire_26 (fun v_26 h => ?_)
      refine lv_bipush (v := 10) hx hb dX12_wire_29 ib_10 ?_
      refine lv_icmp_ne (tgt := 37) hx hb dX12_wire_31 (by decide) (fun hc => ?_) (fun hc => ?_)
      · have h := if_f _ hc h
        refine lv_aload_n hx hb dX12_wire_37 rfl (lv_at hl 0 rfl) ?_
        refine x_getr F hP k_63 (hP.al 63 rfl) fl_X12_25 rfl r_63_8 dX12_wire_38 ?_
        refine lv_aload_n hx hb dX12_wire_41 rfl (lv_at hl 0 rfl) ?_
        refine y_geti h F hP k_63 (n2 (hP.al 63 rfl)) fl_X12_242 rfl dX12_wire_42 (fun v_42 h => ?_)
        refine lv_iload_n hx hb dX12_wire_45 rfl (lv_at hl 1 rfl) ?_
        refine lv_iload_n hx hb dX12_wire_46 rfl (lv_at hl 2 rfl) ?_
        refine lv_iload_n hx hb dX12_wire_47 rfl (lv_at hl 3 rfl) ?_
        refine lv_iload hx hb dX12_wire_48 (lv_at hl 4 rfl) ?_
        obtain ⟨w_50, hc_50, h⟩ := bo_s h
        refine x_goes (x_runS (As := [.ref (ad 69), .int v_42, .int a1, .int a2, .int a3, .int a4]) (rest := []) F hP hS (c_X12_box l D cT lo NB w ad 69 40 k_69 (hP.al 69 rfl) v_42 a1 a2 a3 a4 w_50 hc_50) cw_X12_box lk_X12_235 st_X12_box ⟨rfl, rfl, Nat.le_of_ble_eq_true rfl, Nat.le_of_ble_eq_true rfl⟩ hl.1 rfl (Nat.le_of_ble_eq_true rfl) dX12_wire_50 ⟨Nat.zero_le _, Nat.zero_le _⟩) hS (fun H locs hP hS hm => ?_)
        have hM_w := hm
        refine lv_aload_n hx hb dX12_wire_53 rfl (lv_at hl 0 rfl) ?_
        refine x_getr F hP k_63 (hP.al 63 rfl) fl_X12_28 rfl r_63_9 dX12_wire_54 ?_
        refine lv_aload_n hx hb dX12_wire_57 rfl (lv_at hl 0 rfl) ?_
        refine y_geti h F hP k_63 (n2 (hP.al 63 rfl)) fl_X12_242 rfl dX12_wire_58 (fun v_58 h => ?_)
        refine lv_iload hx hb dX12_wire_61 (lv_at hl 5 rfl) ?_
        refine y_iast h F hP hS k_70 (n2 (hP.al 70 rfl)) dX12_wire_63 (fun w_63 H locs hm h hP hS => ?_)
        have hM_w := hM_w.trans hm
        refine lv_aload_n hx hb dX12_wire_64 rfl (lv_at hl 0 rfl) ?_
        refine lv_dup hx hb dX12_wire_65 rfl ?_
        refine y_geti h F hP k_63 (n2 (hP.al 63 rfl)) fl_X12_242 rfl dX12_wire_66 (fun v_66 h => ?_)
        refine lv_iconst (v := 1) hx hb dX12_wire_69 ic_1 ?_
        refine lv_iadd hx hb dX12_wire_70 ?_
        refine y_puti h F hP hS k_63 (n2 (hP.al 63 rfl)) fl_X12_242 rfl dX12_wire_71 (fun w_71 H locs hm h hP hS => ?_)
        have hM_w := hM_w.trans hm
        refine lv_aload_n hx hb dX12_wire_74 rfl (lv_at hl 0 rfl) ?_
        refine y_geti h F hP k_63 (n2 (hP.al 63 rfl)) fl_X12_242 rfl dX12_wire_75 (fun v_75 h => ?_)
        refine lv_iconst (v := 1) hx hb dX12_wire_78 ic_1 ?_
        refine lv_isub hx hb dX12_wire_79 ?_
        exact y_iretM h F hr hP hS hM_w hlk dX12_wire_80
      · have h := if_t _ hc h
        refine lv_bipush (v := -4) hx hb dX12_wire_34 ib_m4 ?_
        exact y_iretM h F hr hP hS mono.refl hlk dX12_wire_36
    · have h := if_t _ hc h
      refine lv_bipush (v := -2) hx hb dX12_wire_22 ib_m2 ?_
      exact y_iretM h F hr hP hS mono.refl hlk dX12_wire_24
def f_X12_down (w : Wd) (a1 : Int32) (a2 : Int32) : Option (Int32 × Wd) :=
q_gt w 63 7 (fun v_3 =>
if (f_X12_in a1 (0 : Int32) (v_3 - (1 : Int32))) = 0 then
some ((-2 : Int32), w)
else
q_ld w 71 10 a1 (fun v_22 =>
q_jn (fun (s0_32 : Int32) =>
q_sz w 71 10 a1 a2 (fun w_39 =>
if s0_32 = 0 then
some ((1 : Int32), w_39)
else
some ((0 : Int32), w_39))) (fun j_32 =>
if v_22 = a2 then
j_32 (1 : Int32)
else
j_32 (0 : Int32))))
set_option maxRecDepth 100000 in
set_option maxHeartbeats 4000000 in
theorem c_X12_down (l : Launch) (D : va_G) (cT : Nat → ClassId) (lo : Nat) (w : Wd) (ad : Nat → Nat) (a1 : Int32) (a2 : Int32) (r : Int32) (w9 : Wd) (h : f_X12_down w a1 a2 = some (r, w9)) : Met l yX12_down (.code yX12_down cX12_down 4 (some .int) :: TW) { frames := 1, cells := 0, slots := 0, locals := 22 } (mPc D cT lo NB w ad [.ref (ad 63), .int a1, .int a2]) (mQ D cT lo NB w w9 ad (some (.int r))) 0 0 (fun q => lo ≤ q) := by
  unfold f_X12_down at h
  refine x_met (lv := [(0, .ref (ad 63)), (1, .int a1), (2, .int a2)]) (by decide +kernel) (Nat.le_of_ble_eq_true rfl) rfl ?_
  intro p e s m args below meth c ls F hr hlk hP hin hl
  have hx := F.1
  have hb := F.2.1
  have hS : va_S (fun q => lo ≤ q) s.heap s.heap [] := va_S.rf
  have hM_w : mono w w := mono.refl
  refine lv_iload_n hx hb dX12_down_0 rfl (lv_at hl 1 rfl) ?_
  refine lv_iconst (v := 0) hx hb dX12_down_1 ic_0 ?_
  refine lv_aload_n hx hb dX12_down_2 rfl (lv_at hl 0 rfl) ?_
  refine y_geti h F hP k_63 (n2 (hP.al 63 rfl)) fl_X12_242 rfl dX12_down_3 (fun v_3 h => ?_)
  refine lv_iconst (v := 1) hx hb dX12_down_6 ic_1 ?_
  refine lv_isub hx hb dX12_down_7 ?_
  refine x_goesZ (x_runS (As := [.int a1, .int (0 : Int32), .int (v_3 - (1 : Int32))]) (rest := []) F hP hS (c_X12_in l D cT lo NB w ad a1 (0 : Int32) (v_3 - (1 : Int32))) cw_X12_in lk_X12_217 st_X12_in ⟨rfl, rfl, Nat.le_of_ble_eq_true rfl, Nat.le_of_ble_eq_true rfl⟩ hl.1 rfl (Nat.le_of_ble_eq_true rfl) dX12_down_8 ⟨Nat.zero_le _, Nat.zero_le _⟩) hS (fun H locs hz_8 hP hS _ => ?_)
  refine lv_if_ne (tgt := 17) hx hb dX12_down_11 (by decide) (fun hc => ?_) (fun hc => ?_)
  · have h := if_f _ hc h
    refine lv_aload_n hx hb dX12_down_17 rfl (lv_at hl 0 rfl) ?_
    refine x_getr F hP k_63 (hP.al 63 rfl) fl_X12_31 rfl r_63_10 dX12_down_18 ?_
    refine lv_iload_n hx hb dX12_down_21 rfl (lv_at hl 1 rfl) ?_
    refine y_zald h F hP k_71 (n2 (hP.al 71 rfl)) dX12_down_22 (fun v_22 h => ?_)
    refine lv_iload_n hx hb dX12_down_23 rfl (lv_at hl 2 rfl) ?_
    refine jn_use (fun (j_32 : Int32 → Option (Int32 × Wd)) => ∀ (s0_32 : Int32), j_32 s0_32 = some (r, w9) → GG p l e { frames := 1, cells := 0, slots := 0, locals := 22 } s m args below meth c 0 0 (MQ below (mQ D cT lo NB w w9 ad (some (.int r))) args s 0 0 (fun q => lo ≤ q)) D cT lo NB 4 ad w 32 [(0, .ref (ad 63)), (1, .int a1), (2, .int a2)] [.int s0_32]) h (fun s0_32 h H locs ls hP hS hl => ?_) (fun j_32 J_32 h => ?_)
    · refine lv_istore_n (lv' := [(3, .int s0_32), (0, .ref (ad 63)), (1, .int a1), (2, .int a2)]) hx hb dX12_down_32 rfl hl (Nat.le_of_ble_eq_true rfl) rfl (fun ls hl => ?_)
      refine lv_aload_n hx hb dX12_down_33 rfl (lv_at hl 1 rfl) ?_
      refine x_getr F hP k_63 (hP.al 63 rfl) fl_X12_31 rfl r_63_10 dX12_down_34 ?_
      refine lv_iload_n hx hb dX12_down_37 rfl (lv_at hl 2 rfl) ?_
      refine lv_iload_n hx hb dX12_down_38 rfl (lv_at hl 3 rfl) ?_
      refine y_zast h F hP hS k_71 (n2 (hP.al 71 rfl)) dX12_down_39 (fun w_39 H locs hm h hP hS => ?_)
      have hM_w := hm
      refine lv_iload_n hx hb dX12_down_40 rfl (lv_at hl 0 rfl) ?_
      refine lv_if_eq (tgt := 48) hx hb dX12_down_41 (by decide) (fun hc => ?_) (fun hc => ?_)
      · have h := if_t _ hc h
        refine lv_iconst (v := 1) hx hb dX12_down_48 ic_1 ?_
        exact y_iretM h F hr hP hS hM_w hlk dX12_down_49
      · have h := if_f _ hc h
        refine lv_iconst (v := 0) hx hb dX12_down_44 ic_0 ?_
        refine lv_goto (tgt := 49) hx hb dX12_down_45 (by decide) ?_
        exact y_iretM h F hr hP hS hM_w hlk dX12_down_49
    · refine lv_icmp_ne (tgt := 31) hx hb dX12_down_24 (by decide) (fun hc => ?_) (fun hc => ?_)
      · have h := if_f _ hc h
        refine lv_iconst (v := 0) hx hb dX12_down_31 ic_0 ?_
        exact J_32 (0 : Int32) h _ _ _ hP hS (lv_sub hl [0, 1, 2] rfl)
      · have h := if_t _ hc h
        refine lv_iconst (v := 1) hx hb dX12_down_27 ic_1 ?_
        refine lv_goto (tgt := 32) hx hb dX12_down_28 (by decide) ?_
        exact J_32 (1 : Int32) h _ _ _ hP hS (lv_sub hl [0, 1, 2] rfl)
  · have h := if_t _ hc h
    refine lv_bipush (v := -2) hx hb dX12_down_14 ib_m2 ?_
    exact y_iretM h F hr hP hS mono.refl hlk dX12_down_16
def f_X12_slope (w : Wd) (a1 : Int32) (a2 : Int32) (a3 : Int32) (a4 : Int32) (a5 : Int32) (a6 : Int32) (a7 : Int32) : Option (Int32 × Wd) :=
if (f_X12_isBox a1 a2 a3 a4) = 0 then
some ((-2 : Int32), w)
else
if (f_X12_in a5 (-200 : Int32) (200 : Int32)) = 0 then
some ((-2 : Int32), w)
else
if (f_X12_in a6 (-200 : Int32) (200 : Int32)) = 0 then
some ((-2 : Int32), w)
else
q_gt w 63 11 (fun v_43 =>
if v_43 = (10 : Int32) then
some ((-4 : Int32), w)
else
q_gt w 63 11 (fun v_59 =>
q_bo (f_X12_box w 72 40 v_59 a1 a2 a3 a4) (fun w_67 =>
q_gt w_67 63 11 (fun v_75 =>
q_st w_67 73 10 v_75 a5 (fun w_80 =>
q_gt w_80 63 11 (fun v_86 =>
q_st w_80 74 10 v_86 a6 (fun w_91 =>
q_gt w_91 63 11 (fun v_97 =>
q_sz w_91 75 10 v_97 a7 (fun w_102 =>
q_gt w_102 63 11 (fun v_105 =>
q_pt w_102 63 11 (v_105 + (1 : Int32)) (fun w_110 =>
q_gt w_110 63 11 (fun v_114 =>
some (v_114 - (1 : Int32), w_110)))))))))))))
set_option maxRecDepth 100000 in
set_option maxHeartbeats 4000000 in
theorem c_X12_slope (l : Launch) (D : va_G) (cT : Nat → ClassId) (lo : Nat) (w : Wd) (ad : Nat → Nat) (a1 : Int32) (a2 : Int32) (a3 : Int32) (a4 : Int32) (a5 : Int32) (a6 : Int32) (a7 : Int32) (r : Int32) (w9 : Wd) (h : f_X12_slope w a1 a2 a3 a4 a5 a6 a7 = some (r, w9)) : Met l yX12_slope (.code yX12_slope cX12_slope 8 (some .int) :: TW) { frames := 2, cells := 0, slots := 0, locals := 45 } (mPc D cT lo NB w ad [.ref (ad 63), .int a1, .int a2, .int a3, .int a4, .int a5, .int a6, .int a7]) (mQ D cT lo NB w w9 ad (some (.int r))) 0 0 (fun q => lo ≤ q) := by
  unfold f_X12_slope at h
  refine x_met (lv := [(0, .ref (ad 63)), (1, .int a1), (2, .int a2), (3, .int a3), (4, .int a4), (5, .int a5), (6, .int a6), (7, .int a7)]) (by decide +kernel) (Nat.le_of_ble_eq_true rfl) rfl ?_
  intro p e s m args below meth c ls F hr hlk hP hin hl
  have hx := F.1
  have hb := F.2.1
  have hS : va_S (fun q => lo ≤ q) s.heap s.heap [] := va_S.rf
  have hM_w : mono w w := mono.refl
  refine lv_iload_n hx hb dX12_slope_0 rfl (lv_at hl 1 rfl) ?_
  refine lv_iload_n hx hb dX12_slope_1 rfl (lv_at hl 2 rfl) ?_
  refine lv_iload_n hx hb dX12_slope_2 rfl (lv_at hl 3 rfl) ?_
  refine lv_iload hx hb dX12_slope_3 (lv_at hl 4 rfl) ?_
  refine x_goesZ (x_runS (As := [.int a1, .int a2, .int a3, .int a4]) (rest := []) F hP hS (c_X12_isBox l D cT lo NB w ad a1 a2 a3 a4) cw_X12_isBox lk_X12_228 st_X12_isBox ⟨rfl, rfl, Nat.le_of_ble_eq_true rfl, Nat.le_of_ble_eq_true rfl⟩ hl.1 rfl (Nat.le_of_ble_eq_true rfl) dX12_slope_5 ⟨Nat.zero_le _, Nat.zero_le _⟩) hS (fun H locs hz_5 hP hS _ => ?_)
  refine lv_if_eq (tgt := 39) hx hb dX12_slope_8 (by decide) (fun hc => ?_) (fun hc => ?_)
  · have h := if_t _ hc h
    refine lv_bipush (v := -2) hx hb dX12_slope_39 ib_m2 ?_
    exact y_iretM h F hr hP hS mono.refl hlk dX12_slope_41
  · have h := if_f _ hc h
    refine lv_iload hx hb dX12_slope_11 (lv_at hl 5 rfl) ?_
    refine lv_sipush (v := -200) hx hb dX12_slope_13 is_m200 ?_
    refine lv_sipush (v := 200) hx hb dX12_slope_16 is_200 ?_
    refine x_goesZ (x_runS (As := [.int a5, .int (-200 : Int32), .int (200 : Int32)]) (rest := []) F hP hS (c_X12_in l D cT lo NB w ad a5 (-200 : Int32) (200 : Int32)) cw_X12_in lk_X12_217 st_X12_in ⟨rfl, rfl, Nat.le_of_ble_eq_true rfl, Nat.le_of_ble_eq_true rfl⟩ hl.1 rfl (Nat.le_of_ble_eq_true rfl) dX12_slope_19 ⟨Nat.zero_le _, Nat.zero_le _⟩) hS (fun H locs hz_19 hP hS _ => ?_)
    refine lv_if_eq (tgt := 39) hx hb dX12_slope_22 (by decide) (fun hc => ?_) (fun hc => ?_)
    · have h := if_t _ hc h
      refine lv_bipush (v := -2) hx hb dX12_slope_39 ib_m2 ?_
      exact y_iretM h F hr hP hS mono.refl hlk dX12_slope_41
    · have h := if_f _ hc h
      refine lv_iload hx hb dX12_slope_25 (lv_at hl 6 rfl) ?_
      refine lv_sipush (v := -200) hx hb dX12_slope_27 is_m200 ?_
      refine lv_sipush (v := 200) hx hb dX12_slope_30 is_200 ?_
      refine x_goesZ (x_runS (As := [.int a6, .int (-200 : Int32), .int (200 : Int32)]) (rest := []) F hP hS (c_X12_in l D cT lo NB w ad a6 (-200 : Int32) (200 : Int32)) cw_X12_in lk_X12_217 st_X12_in ⟨rfl, rfl, Nat.le_of_ble_eq_true rfl, Nat.le_of_ble_eq_true rfl⟩ hl.1 rfl (Nat.le_of_ble_eq_true rfl) dX12_slope_33 ⟨Nat.zero_le _, Nat.zero_le _⟩) hS (fun H locs hz_33 hP hS _ => ?_)
      refine lv_if_ne (tgt := 42) hx hb dX12_slope_36 (by decide) (fun hc => ?_) (fun hc => ?_)
      · have h := if_f _ hc h
        refine lv_aload_n hx hb dX12_slope_42 rfl (lv_at hl 0 rfl) ?_
        refine y_geti h F hP k_63 (n2 (hP.al 63 rfl)) fl_X12_245 rfl dX12_slope_43 (fun v_43 h => ?_)
        refine lv_bipush (v := 10) hx hb dX12_slope_46 ib_10 ?_
        refine lv_icmp_ne (tgt := 54) hx hb dX12_slope_48 (by decide) (fun hc => ?_) (fun hc => ?_)
        · have h := if_f _ hc h
          refine lv_aload_n hx hb dX12_slope_54 rfl (lv_at hl 0 rfl) ?_
          refine x_getr F hP k_63 (hP.al 63 rfl) fl_X12_35 rfl r_63_12 dX12_slope_55 ?_
          refine lv_aload_n hx hb dX12_slope_58 rfl (lv_at hl 0 rfl) ?_
          refine y_geti h F hP k_63 (n2 (hP.al 63 rfl)) fl_X12_245 rfl dX12_slope_59 (fun v_59 h => ?_)
          refine lv_iload_n hx hb dX12_slope_62 rfl (lv_at hl 1 rfl) ?_
          refine lv_iload_n hx hb dX12_slope_63 rfl (lv_at hl 2 rfl) ?_
          refine lv_iload_n hx hb dX12_slope_64 rfl (lv_at hl 3 rfl) ?_
          refine lv_iload hx hb dX12_slope_65 (lv_at hl 4 rfl) ?_
          obtain ⟨w_67, hc_67, h⟩ := bo_s h
          refine x_goes (x_runS (As := [.ref (ad 72), .int v_59, .int a1, .int a2, .int a3, .int a4]) (rest := []) F hP hS (c_X12_box l D cT lo NB w ad 72 40 k_72 (hP.al 72 rfl) v_59 a1 a2 a3 a4 w_67 hc_67) cw_X12_box lk_X12_235 st_X12_box ⟨rfl, rfl, Nat.le_of_ble_eq_true rfl, Nat.le_of_ble_eq_true rfl⟩ hl.1 rfl (Nat.le_of_ble_eq_true rfl) dX12_slope_67 ⟨Nat.zero_le _, Nat.zero_le _⟩) hS (fun H locs hP hS hm => ?_)
          have hM_w := hm
          refine lv_aload_n hx hb dX12_slope_70 rfl (lv_at hl 0 rfl) ?_
          refine x_getr F hP k_63 (hP.al 63 rfl) fl_X12_38 rfl r_63_13 dX12_slope_71 ?_
          refine lv_aload_n hx hb dX12_slope_74 rfl (lv_at hl 0 rfl) ?_
          refine y_geti h F hP k_63 (n2 (hP.al 63 rfl)) fl_X12_245 rfl dX12_slope_75 (fun v_75 h => ?_)
          refine lv_iload hx hb dX12_slope_78 (lv_at hl 5 rfl) ?_
          refine y_iast h F hP hS k_73 (n2 (hP.al 73 rfl)) dX12_slope_80 (fun w_80 H locs hm h hP hS => ?_)
          have hM_w := hM_w.trans hm
          refine lv_aload_n hx hb dX12_slope_81 rfl (lv_at hl 0 rfl) ?_
          refine x_getr F hP k_63 (hP.al 63 rfl) fl_X12_41 rfl r_63_14 dX12_slope_82 ?_
          refine lv_aload_n hx hb dX12_slope_85 rfl (lv_at hl 0 rfl) ?_
          refine y_geti h F hP k_63 (n2 (hP.al 63 rfl)) fl_X12_245 rfl dX12_slope_86 (fun v_86 h => ?_)
          refine lv_iload hx hb dX12_slope_89 (lv_at hl 6 rfl) ?_
          refine y_iast h F hP hS k_74 (n2 (hP.al 74 rfl)) dX12_slope_91 (fun w_91 H locs hm h hP hS => ?_)
          have hM_w := hM_w.trans hm
          refine lv_aload_n hx hb dX12_slope_92 rfl (lv_at hl 0 rfl) ?_
          refine x_getr F hP k_63 (hP.al 63 rfl) fl_X12_44 rfl r_63_15 dX12_slope_93 ?_
          refine lv_aload_n hx hb dX12_slope_96 rfl (lv_at hl 0 rfl) ?_
          refine y_geti h F hP k_63 (n2 (hP.al 63 rfl)) fl_X12_245 rfl dX12_slope_97 (fun v_97 h => ?_)
          refine lv_iload hx hb dX12_slope_100 (lv_at hl 7 rfl) ?_
          refine y_zast h F hP hS k_75 (n2 (hP.al 75 rfl)) dX12_slope_102 (fun w_102 H locs hm h hP hS => ?_)
          have hM_w := hM_w.trans hm
          refine lv_aload_n hx hb dX12_slope_103 rfl (lv_at hl 0 rfl) ?_
          refine lv_dup hx hb dX12_slope_104 rfl ?_
          refine y_geti h F hP k_63 (n2 (hP.al 63 rfl)) fl_X12_245 rfl dX12_slope_105 (fun v_105 h => ?_)
          refine lv_iconst (v := 1) hx hb dX12_slope_108 ic_1 ?_
          refine lv_iadd hx hb dX12_slope_109 ?_
          refine y_puti h F hP hS k_63 (n2 (hP.al 63 rfl)) fl_X12_245 rfl dX12_slope_110 (fun w_110 H locs hm h hP hS => ?_)
          have hM_w := hM_w.trans hm
          refine lv_aload_n hx hb dX12_slope_113 rfl (lv_at hl 0 rfl) ?_
          refine y_geti h F hP k_63 (n2 (hP.al 63 rfl)) fl_X12_245 rfl dX12_slope_114 (fun v_114 h => ?_)
          refine lv_iconst (v := 1) hx hb dX12_slope_117 ic_1 ?_
          refine lv_isub hx hb dX12_slope_118 ?_
          exact y_iretM h F hr hP hS hM_w hlk dX12_slope_119
        · have h := if_t _ hc h
          refine lv_bipush (v := -4) hx hb dX12_slope_51 ib_m4 ?_
          exact y_iretM h F hr hP hS mono.refl hlk dX12_slope_53
      · have h := if_t _ hc h
        refine lv_bipush (v := -2) hx hb dX12_slope_39 ib_m2 ?_
        exact y_iretM h F hr hP hS mono.refl hlk dX12_slope_41
def l_X12_rain_4 (a1 : Int32) : Nat → Wd → Int32 → Int32 → Option (Int32 × Wd)
  | 0, _, _, _ => none
  | n_4 + 1, w_4l, x3_4l, x2_4l =>
    q_gt w_4l 63 11 (fun v_6 =>
    if v_6 ≤ x3_4l then
    some (x2_4l, w_4l)
    else
    q_ld w_4l 75 10 x3_4l (fun v_18 =>
    q_jn (fun (s0_28 : Int32) =>
    q_lt (x2_4l + s0_28) (fun v_29 =>
    q_sz w_4l 75 10 x3_4l a1 (fun w_36 =>
    q_lt (x3_4l + (1 : Int32)) (fun v_37 =>
    l_X12_rain_4 a1 n_4 w_36 v_37 v_29)))) (fun j_28 =>
    if v_18 = a1 then
    j_28 (0 : Int32)
    else
    j_28 (1 : Int32))))
def f_X12_rain (w : Wd) (a1 : Int32) : Option (Int32 × Wd) :=
l_X12_rain_4 a1 FU w (0 : Int32) (0 : Int32)
set_option maxRecDepth 100000 in
set_option maxHeartbeats 4000000 in
theorem c_X12_rain (l : Launch) (D : va_G) (cT : Nat → ClassId) (lo : Nat) (w : Wd) (ad : Nat → Nat) (a1 : Int32) (r : Int32) (w9 : Wd) (h : f_X12_rain w a1 = some (r, w9)) : Met l yX12_rain (.code yX12_rain cX12_rain 4 (some .int) :: TW) { frames := 0, cells := 0, slots := 0, locals := 0 } (mPc D cT lo NB w ad [.ref (ad 63), .int a1]) (mQ D cT lo NB w w9 ad (some (.int r))) 0 0 (fun q => lo ≤ q) := by
  unfold f_X12_rain at h
  refine x_met (lv := [(0, .ref (ad 63)), (1, .int a1)]) (by decide +kernel) (Nat.le_of_ble_eq_true rfl) rfl ?_
  intro p e s m args below meth c ls F hr hlk hP hin hl
  have hx := F.1
  have hb := F.2.1
  have hS : va_S (fun q => lo ≤ q) s.heap s.heap [] := va_S.rf
  have hM_w : mono w w := mono.refl
  refine lv_iconst (v := 0) hx hb dX12_rain_0 ic_0 ?_
  refine lv_istore_n (lv' := [(2, .int (0 : Int32)), (0, .ref (ad 63)), (1, .int a1)]) hx hb dX12_rain_1 rfl hl (Nat.le_of_ble_eq_true rfl) rfl (fun ls hl => ?_)
  refine lv_iconst (v := 0) hx hb dX12_rain_2 ic_0 ?_
  refine lv_istore_n (lv' := [(3, .int (0 : Int32)), (2, .int (0 : Int32)), (0, .ref (ad 63)), (1, .int a1)]) hx hb dX12_rain_3 rfl hl (Nat.le_of_ble_eq_true rfl) rfl (fun ls hl => ?_)
  have L_4 : ∀ (n_4 : Nat) (w_4l : Wd) (x3_4l : Int32) (x2_4l : Int32), mono w w_4l → l_X12_rain_4 a1 n_4 w_4l x3_4l x2_4l = some (r, w9) → GG p l e { frames := 0, cells := 0, slots := 0, locals := 0 } s m args below meth c 0 0 (MQ below (mQ D cT lo NB w w9 ad (some (.int r))) args s 0 0 (fun q => lo ≤ q)) D cT lo NB 4 ad w_4l 4 [(3, .int x3_4l), (2, .int x2_4l), (0, .ref (ad 63)), (1, .int a1)] [] := by
    intro n_4
    induction n_4 with
    | zero =>
      intro w_4l x3_4l x2_4l _ h
      exact absurd h (by unfold l_X12_rain_4; exact fun z => by cases z)
    | succ n_4 ih_4 =>
      intro w_4l x3_4l x2_4l hm h H locs ls hP hS hl
      unfold l_X12_rain_4 at h
      have hM_w := hm
      refine lv_iload_n hx hb dX12_rain_4 rfl (lv_at hl 0 rfl) ?_
      refine lv_aload_n hx hb dX12_rain_5 rfl (lv_at hl 2 rfl) ?_
      refine y_geti h F hP k_63 (n2 (hP.al 63 rfl)) fl_X12_245 rfl dX12_rain_6 (fun v_6 h => ?_)
      refine lv_icmp_ge (tgt := 43) hx hb dX12_rain_9 (by decide) (fun hc => ?_) (fun hc => ?_)
      · have h := if_t _ hc h
        refine lv_iload_n hx hb dX12_rain_43 rfl (lv_at hl 1 rfl) ?_
        exact y_iretM h F hr hP hS hM_w hlk dX12_rain_44
      · have h := if_f _ hc h
        refine lv_iload_n hx hb dX12_rain_12 rfl (lv_at hl 1 rfl) ?_
        refine lv_aload_n hx hb dX12_rain_13 rfl (lv_at hl 2 rfl) ?_
        refine x_getr F hP k_63 (hP.al 63 rfl) fl_X12_44 rfl r_63_15 dX12_rain_14 ?_
        refine lv_iload_n hx hb dX12_rain_17 rfl (lv_at hl 0 rfl) ?_
        refine y_zald h F hP k_75 (n2 (hP.al 75 rfl)) dX12_rain_18 (fun v_18 h => ?_)
        refine lv_iload_n hx hb dX12_rain_19 rfl (lv_at hl 3 rfl) ?_
        refine jn_use (fun (j_28 : Int32 → Option (Int32 × Wd)) => ∀ (s0_28 : Int32), j_28 s0_28 = some (r, w9) → GG p l e { frames := 0, cells := 0, slots := 0, locals := 0 } s m args below meth c 0 0 (MQ below (mQ D cT lo NB w w9 ad (some (.int r))) args s 0 0 (fun q => lo ≤ q)) D cT lo NB 4 ad w_4l 28 [(3, .int x3_4l), (0, .ref (ad 63)), (1, .int a1)] [.int s0_28, .int x2_4l]) h (fun s0_28 h H locs ls hP hS hl => ?_) (fun j_28 J_28 h => ?_)
        · refine lv_iadd hx hb dX12_rain_28 ?_
          refine y_let h (fun v_29 h => ?_)
          refine lv_istore_n (lv' := [(2, .int v_29), (3, .int x3_4l), (0, .ref (ad 63)), (1, .int a1)]) hx hb dX12_rain_29 rfl hl (Nat.le_of_ble_eq_true rfl) rfl (fun ls hl => ?_)
          refine lv_aload_n hx hb dX12_rain_30 rfl (lv_at hl 2 rfl) ?_
          refine x_getr F hP k_63 (hP.al 63 rfl) fl_X12_44 rfl r_63_15 dX12_rain_31 ?_
          refine lv_iload_n hx hb dX12_rain_34 rfl (lv_at hl 1 rfl) ?_
          refine lv_iload_n hx hb dX12_rain_35 rfl (lv_at hl 3 rfl) ?_
          refine y_zast h F hP hS k_75 (n2 (hP.al 75 rfl)) dX12_rain_36 (fun w_36 H locs hm h hP hS => ?_)
          have hM_w := hM_w.trans hm
          refine y_iinc (lv' := fun (v_37 : Int32) => [(3, .int v_37), (2, .int v_29), (0, .ref (ad 63)), (1, .int a1)]) h F ic_1 dX12_rain_37 hl (kq := 1) rfl (Nat.le_of_ble_eq_true rfl) (fun _ => rfl) (fun v_37 ls hl h => ?_)
          refine lv_goto (tgt := 4) hx hb dX12_rain_40 (by decide) ?_
          exact ih_4 w_36 v_37 v_29 hM_w h _ _ _ hP hS (lv_sub hl [0, 1, 2, 3] rfl)
        · refine lv_icmp_ne (tgt := 27) hx hb dX12_rain_20 (by decide) (fun hc => ?_) (fun hc => ?_)
          · have h := if_f _ hc h
            refine lv_iconst (v := 1) hx hb dX12_rain_27 ic_1 ?_
            exact J_28 (1 : Int32) h _ _ _ hP hS (lv_sub hl [0, 2, 3] rfl)
          · have h := if_t _ hc h
            refine lv_iconst (v := 0) hx hb dX12_rain_23 ic_0 ?_
            refine lv_goto (tgt := 28) hx hb dX12_rain_24 (by decide) ?_
            exact J_28 (0 : Int32) h _ _ _ hP hS (lv_sub hl [0, 2, 3] rfl)
  exact L_4 FU w (0 : Int32) (0 : Int32) mono.refl h _ _ _ hP hS (lv_sub hl [0, 1, 2, 3] rfl)
def l_X12_slopeAt_2 (a1 : Int32) (a2 : Int32) (w : Wd) : Nat → Int32 → Option Int32
  | 0, _ => none
  | n_2 + 1, x3_2l =>
    q_gt w 63 11 (fun v_4 =>
    if v_4 ≤ x3_2l then
    some (-1 : Int32)
    else
    q_lt ((4 : Int32) * x3_2l) (fun v_13 =>
    q_ld w 72 40 v_13 (fun v_24 =>
    q_ld w 72 40 (v_13 + (2 : Int32)) (fun v_36 =>
    q_jn (q_lt (x3_2l + (1 : Int32)) (fun v_77 =>
    l_X12_slopeAt_2 a1 a2 w n_2 v_77)) (fun j_77 =>
    if (f_X12_in a1 ((65 : Int32) * v_24) ((65 : Int32) * v_36)) = 0 then
    j_77
    else
    q_ld w 72 40 (v_13 + (1 : Int32)) (fun v_55 =>
    q_ld w 72 40 (v_13 + (3 : Int32)) (fun v_67 =>
    if (f_X12_in a2 ((65 : Int32) * v_55) ((65 : Int32) * v_67)) = 0 then
    j_77
    else
    some x3_2l)))))))
def f_X12_slopeAt (w : Wd) (a1 : Int32) (a2 : Int32) : Option Int32 :=
l_X12_slopeAt_2 a1 a2 w FU (0 : Int32)
set_option maxRecDepth 100000 in
set_option maxHeartbeats 4000000 in
theorem c_X12_slopeAt (l : Launch) (D : va_G) (cT : Nat → ClassId) (lo : Nat) (w : Wd) (ad : Nat → Nat) (a1 : Int32) (a2 : Int32) (r : Int32) (h : f_X12_slopeAt w a1 a2 = some r) : Met l yX12_slopeAt (.code yX12_slopeAt cX12_slopeAt 5 (some .int) :: TW) { frames := 1, cells := 0, slots := 0, locals := 22 } (mPc D cT lo NB w ad [.ref (ad 63), .int a1, .int a2]) (mQ D cT lo NB w w ad (some (.int r))) 0 0 (fun q => lo ≤ q) := by
  unfold f_X12_slopeAt at h
  refine x_met (lv := [(0, .ref (ad 63)), (1, .int a1), (2, .int a2)]) (by decide +kernel) (Nat.le_of_ble_eq_true rfl) rfl ?_
  intro p e s m args below meth c ls F hr hlk hP hin hl
  have hx := F.1
  have hb := F.2.1
  have hS : va_S (fun q => lo ≤ q) s.heap s.heap [] := va_S.rf
  refine lv_iconst (v := 0) hx hb dX12_slopeAt_0 ic_0 ?_
  refine lv_istore_n (lv' := [(3, .int (0 : Int32)), (0, .ref (ad 63)), (1, .int a1), (2, .int a2)]) hx hb dX12_slopeAt_1 rfl hl (Nat.le_of_ble_eq_true rfl) rfl (fun ls hl => ?_)
  have L_2 : ∀ (n_2 : Nat) (x3_2l : Int32), l_X12_slopeAt_2 a1 a2 w n_2 x3_2l = some r → GG p l e { frames := 1, cells := 0, slots := 0, locals := 22 } s m args below meth c 0 0 (MQ below (mQ D cT lo NB w w ad (some (.int r))) args s 0 0 (fun q => lo ≤ q)) D cT lo NB 5 ad w 2 [(3, .int x3_2l), (0, .ref (ad 63)), (1, .int a1), (2, .int a2)] [] := by
    intro n_2
    induction n_2 with
    | zero =>
      intro x3_2l h
      exact absurd h (by unfold l_X12_slopeAt_2; exact fun z => by cases z)
    | succ n_2 ih_2 =>
      intro x3_2l h H locs ls hP hS hl
      unfold l_X12_slopeAt_2 at h
      refine lv_iload_n hx hb dX12_slopeAt_2 rfl (lv_at hl 0 rfl) ?_
      refine lv_aload_n hx hb dX12_slopeAt_3 rfl (lv_at hl 1 rfl) ?_
      refine y_geti h F hP k_63 (n2 (hP.al 63 rfl)) fl_X12_245 rfl dX12_slopeAt_4 (fun v_4 h => ?_)
      refine lv_icmp_ge (tgt := 83) hx hb dX12_slopeAt_7 (by decide) (fun hc => ?_) (fun hc => ?_)
      · have h := if_t _ hc h
        refine lv_iconst (v := -1) hx hb dX12_slopeAt_83 ic_m1 ?_
        exact y_iretO h F hr hP hS hlk dX12_slopeAt_84
      · have h := if_f _ hc h
        refine lv_iconst (v := 4) hx hb dX12_slopeAt_10 ic_4 ?_
        refine lv_iload_n hx hb dX12_slopeAt_11 rfl (lv_at hl 0 rfl) ?_
        refine lv_imul hx hb dX12_slopeAt_12 ?_
        refine y_let h (fun v_13 h => ?_)
        refine lv_istore (lv' := [(4, .int v_13), (3, .int x3_2l), (0, .ref (ad 63)), (1, .int a1), (2, .int a2)]) hx hb dX12_slopeAt_13 hl (Nat.le_of_ble_eq_true rfl) rfl (fun ls hl => ?_)
        refine lv_iload_n hx hb dX12_slopeAt_15 rfl (lv_at hl 3 rfl) ?_
        refine lv_bipush (v := 65) hx hb dX12_slopeAt_16 ib_65 ?_
        refine lv_aload_n hx hb dX12_slopeAt_18 rfl (lv_at hl 2 rfl) ?_
        refine x_getr F hP k_63 (hP.al 63 rfl) fl_X12_35 rfl r_63_12 dX12_slopeAt_19 ?_
        refine lv_iload hx hb dX12_slopeAt_22 (lv_at hl 0 rfl) ?_
        refine y_iald h F hP k_72 (n2 (hP.al 72 rfl)) dX12_slopeAt_24 (fun v_24 h => ?_)
        refine lv_imul hx hb dX12_slopeAt_25 ?_
        refine lv_bipush (v := 65) hx hb dX12_slopeAt_26 ib_65 ?_
        refine lv_aload_n hx hb dX12_slopeAt_28 rfl (lv_at hl 2 rfl) ?_
        refine x_getr F hP k_63 (hP.al 63 rfl) fl_X12_35 rfl r_63_12 dX12_slopeAt_29 ?_
        refine lv_iload hx hb dX12_slopeAt_32 (lv_at hl 0 rfl) ?_
        refine lv_iconst (v := 2) hx hb dX12_slopeAt_34 ic_2 ?_
        refine lv_iadd hx hb dX12_slopeAt_35 ?_
        refine y_iald h F hP k_72 (n2 (hP.al 72 rfl)) dX12_slopeAt_36 (fun v_36 h => ?_)
        refine lv_imul hx hb dX12_slopeAt_37 ?_
        refine x_goesZ (x_runS (As := [.int a1, .int ((65 : Int32) * v_24), .int ((65 : Int32) * v_36)]) (rest := []) F hP hS (c_X12_in l D cT lo NB w ad a1 ((65 : Int32) * v_24) ((65 : Int32) * v_36)) cw_X12_in lk_X12_217 st_X12_in ⟨rfl, rfl, Nat.le_of_ble_eq_true rfl, Nat.le_of_ble_eq_true rfl⟩ hl.1 rfl (Nat.le_of_ble_eq_true rfl) dX12_slopeAt_38 ⟨Nat.zero_le _, Nat.zero_le _⟩) hS (fun H locs hz_38 hP hS _ => ?_)
        refine jn_use (fun (j_77 : Option Int32) => j_77 = some r → GG p l e { frames := 1, cells := 0, slots := 0, locals := 22 } s m args below meth c 0 0 (MQ below (mQ D cT lo NB w w ad (some (.int r))) args s 0 0 (fun q => lo ≤ q)) D cT lo NB 5 ad w 77 [(3, .int x3_2l), (0, .ref (ad 63)), (1, .int a1), (2, .int a2)] []) h (fun h H locs ls hP hS hl => ?_) (fun j_77 J_77 h => ?_)
        · refine y_iinc (lv' := fun (v_77 : Int32) => [(3, .int v_77), (0, .ref (ad 63)), (1, .int a1), (2, .int a2)]) h F ic_1 dX12_slopeAt_77 hl (kq := 0) rfl (Nat.le_of_ble_eq_true rfl) (fun _ => rfl) (fun v_77 ls hl h => ?_)
          refine lv_goto (tgt := 2) hx hb dX12_slopeAt_80 (by decide) ?_
          exact ih_2 v_77 h _ _ _ hP hS (lv_sub hl [0, 1, 2, 3] rfl)
        · refine lv_if_eq (tgt := 77) hx hb dX12_slopeAt_41 (by decide) (fun hc => ?_) (fun hc => ?_)
          · have h := if_t _ hc h
            exact J_77  h _ _ _ hP hS (lv_sub hl [1, 2, 3, 4] rfl)
          · have h := if_f _ hc h
            refine lv_iload_n hx hb dX12_slopeAt_44 rfl (lv_at hl 4 rfl) ?_
            refine lv_bipush (v := 65) hx hb dX12_slopeAt_45 ib_65 ?_
            refine lv_aload_n hx hb dX12_slopeAt_47 rfl (lv_at hl 2 rfl) ?_
            refine x_getr F hP k_63 (hP.al 63 rfl) fl_X12_35 rfl r_63_12 dX12_slopeAt_48 ?_
            refine lv_iload hx hb dX12_slopeAt_51 (lv_at hl 0 rfl) ?_
            refine lv_iconst (v := 1) hx hb dX12_slopeAt_53 ic_1 ?_
            refine lv_iadd hx hb dX12_slopeAt_54 ?_
            refine y_iald h F hP k_72 (n2 (hP.al 72 rfl)) dX12_slopeAt_55 (fun v_55 h => ?_)
            refine lv_imul hx hb dX12_slopeAt_56 ?_
            refine lv_bipush (v := 65) hx hb dX12_slopeAt_57 ib_65 ?_
            refine lv_aload_n hx hb dX12_slopeAt_59 rfl (lv_at hl 2 rfl) ?_
            refine x_getr F hP k_63 (hP.al 63 rfl) fl_X12_35 rfl r_63_12 dX12_slopeAt_60 ?_
            refine lv_iload hx hb dX12_slopeAt_63 (lv_at hl 0 rfl) ?_
            refine lv_iconst (v := 3) hx hb dX12_slopeAt_65 ic_3 ?_
            refine lv_iadd hx hb dX12_slopeAt_66 ?_
            refine y_iald h F hP k_72 (n2 (hP.al 72 rfl)) dX12_slopeAt_67 (fun v_67 h => ?_)
            refine lv_imul hx hb dX12_slopeAt_68 ?_
            refine x_goesZ (x_runS (As := [.int a2, .int ((65 : Int32) * v_55), .int ((65 : Int32) * v_67)]) (rest := []) F hP hS (c_X12_in l D cT lo NB w ad a2 ((65 : Int32) * v_55) ((65 : Int32) * v_67)) cw_X12_in lk_X12_217 st_X12_in ⟨rfl, rfl, Nat.le_of_ble_eq_true rfl, Nat.le_of_ble_eq_true rfl⟩ hl.1 rfl (Nat.le_of_ble_eq_true rfl) dX12_slopeAt_69 ⟨Nat.zero_le _, Nat.zero_le _⟩) hS (fun H locs hz_69 hP hS _ => ?_)
            refine lv_if_eq (tgt := 77) hx hb dX12_slopeAt_72 (by decide) (fun hc => ?_) (fun hc => ?_)
            · have h := if_t _ hc h
              exact J_77  h _ _ _ hP hS (lv_sub hl [1, 2, 3, 4] rfl)
            · have h := if_f _ hc h
              refine lv_iload_n hx hb dX12_slopeAt_75 rfl (lv_at hl 1 rfl) ?_
              exact y_iretO h F hr hP hS hlk dX12_slopeAt_76
  exact L_2 FU (0 : Int32) h _ _ _ hP hS (lv_sub hl [0, 1, 2, 3] rfl)
def f_X12_ground (w : Wd) (a1 : Int32) (a2 : Int32) (a3 : Int32) : Option Int32 :=
if (f_X12_in a1 (-40000 : Int32) (40000 : Int32)) = 0 then
some (-1000 : Int32)
else
if (f_X12_in a2 (-40000 : Int32) (40000 : Int32)) = 0 then
some (-1000 : Int32)
else
if (f_X12_in a3 (0 : Int32) (3 : Int32)) = 0 then
some (-1000 : Int32)
else
q_bo (f_X12_slopeAt w a1 a2) (fun v_38 =>
if a3 = 0 then
some v_38
else
if v_38 = (-1 : Int32) then
some (0 : Int32)
else
if a3 = (1 : Int32) then
q_ld w 73 10 v_38 (fun v_71 =>
some v_71)
else
if a3 = (2 : Int32) then
q_ld w 74 10 v_38 (fun v_86 =>
some v_86)
else
q_ld w 75 10 v_38 (fun v_96 =>
if v_96 = 0 then
some (0 : Int32)
else
some (1 : Int32)))
set_option maxRecDepth 100000 in
set_option maxHeartbeats 4000000 in
theorem c_X12_ground (l : Launch) (D : va_G) (cT : Nat → ClassId) (lo : Nat) (w : Wd) (ad : Nat → Nat) (a1 : Int32) (a2 : Int32) (a3 : Int32) (r : Int32) (h : f_X12_ground w a1 a2 a3 = some r) : Met l yX12_ground (.code yX12_ground cX12_ground 5 (some .int) :: TW) { frames := 2, cells := 0, slots := 0, locals := 46 } (mPc D cT lo NB w ad [.ref (ad 63), .int a1, .int a2, .int a3]) (mQ D cT lo NB w w ad (some (.int r))) 0 0 (fun q => lo ≤ q) := by
  unfold f_X12_ground at h
  refine x_met (lv := [(0, .ref (ad 63)), (1, .int a1), (2, .int a2), (3, .int a3)]) (by decide +kernel) (Nat.le_of_ble_eq_true rfl) rfl ?_
  intro p e s m args below meth c ls F hr hlk hP hin hl
  have hx := F.1
  have hb := F.2.1
  have hS : va_S (fun q => lo ≤ q) s.heap s.heap [] := va_S.rf
  refine lv_iload_n hx hb dX12_ground_0 rfl (lv_at hl 1 rfl) ?_
  refine lv_ldc F.1 F.2.1 F.2.2.1 (F.2.2.2.1 _ ct_X12_248) dX12_ground_1 ?_
  refine lv_ldc F.1 F.2.1 F.2.2.1 (F.2.2.2.1 _ ct_X12_249) dX12_ground_3 ?_
  refine x_goesZ (x_runS (As := [.int a1, .int (-40000 : Int32), .int (40000 : Int32)]) (rest := []) F hP hS (c_X12_in l D cT lo NB w ad a1 (-40000 : Int32) (40000 : Int32)) cw_X12_in lk_X12_217 st_X12_in ⟨rfl, rfl, Nat.le_of_ble_eq_true rfl, Nat.le_of_ble_eq_true rfl⟩ hl.1 rfl (Nat.le_of_ble_eq_true rfl) dX12_ground_5 ⟨Nat.zero_le _, Nat.zero_le _⟩) hS (fun H locs hz_5 hP hS _ => ?_)
  refine lv_if_eq (tgt := 31) hx hb dX12_ground_8 (by decide) (fun hc => ?_) (fun hc => ?_)
  · have h := if_t _ hc h
    refine lv_sipush (v := -1000) hx hb dX12_ground_31 is_m1000 ?_
    exact y_iretO h F hr hP hS hlk dX12_ground_34
  · have h := if_f _ hc h
    refine lv_iload_n hx hb dX12_ground_11 rfl (lv_at hl 2 rfl) ?_
    refine lv_ldc F.1 F.2.1 F.2.2.1 (F.2.2.2.1 _ ct_X12_248) dX12_ground_12 ?_
    refine lv_ldc F.1 F.2.1 F.2.2.1 (F.2.2.2.1 _ ct_X12_249) dX12_ground_14 ?_
    refine x_goesZ (x_runS (As := [.int a2, .int (-40000 : Int32), .int (40000 : Int32)]) (rest := []) F hP hS (c_X12_in l D cT lo NB w ad a2 (-40000 : Int32) (40000 : Int32)) cw_X12_in lk_X12_217 st_X12_in ⟨rfl, rfl, Nat.le_of_ble_eq_true rfl, Nat.le_of_ble_eq_true rfl⟩ hl.1 rfl (Nat.le_of_ble_eq_true rfl) dX12_ground_16 ⟨Nat.zero_le _, Nat.zero_le _⟩) hS (fun H locs hz_16 hP hS _ => ?_)
    refine lv_if_eq (tgt := 31) hx hb dX12_ground_19 (by decide) (fun hc => ?_) (fun hc => ?_)
    · have h := if_t _ hc h
      refine lv_sipush (v := -1000) hx hb dX12_ground_31 is_m1000 ?_
      exact y_iretO h F hr hP hS hlk dX12_ground_34
    · have h := if_f _ hc h
      refine lv_iload_n hx hb dX12_ground_22 rfl (lv_at hl 3 rfl) ?_
      refine lv_iconst (v := 0) hx hb dX12_ground_23 ic_0 ?_
      refine lv_iconst (v := 3) hx hb dX12_ground_24 ic_3 ?_
      refine x_goesZ (x_runS (As := [.int a3, .int (0 : Int32), .int (3 : Int32)]) (rest := []) F hP hS (c_X12_in l D cT lo NB w ad a3 (0 : Int32) (3 : Int32)) cw_X12_in lk_X12_217 st_X12_in ⟨rfl, rfl, Nat.le_of_ble_eq_true rfl, Nat.le_of_ble_eq_true rfl⟩ hl.1 rfl (Nat.le_of_ble_eq_true rfl) dX12_ground_25 ⟨Nat.zero_le _, Nat.zero_le _⟩) hS (fun H locs hz_25 hP hS _ => ?_)
      refine lv_if_ne (tgt := 35) hx hb dX12_ground_28 (by decide) (fun hc => ?_) (fun hc => ?_)
      · have h := if_f _ hc h
        refine lv_aload_n hx hb dX12_ground_35 rfl (lv_at hl 0 rfl) ?_
        refine lv_iload_n hx hb dX12_ground_36 rfl (lv_at hl 1 rfl) ?_
        refine lv_iload_n hx hb dX12_ground_37 rfl (lv_at hl 2 rfl) ?_
        obtain ⟨v_38, hc_38, h⟩ := bo_s h
        refine x_goes (x_runV (As := [.int a1, .int a2]) (rest := []) F hP hS (c_X12_slopeAt l D cT lo w ad a1 a2 v_38 hc_38) cw_X12_slopeAt lk_X12_250 vi_X12_slopeAt k_63 (n2 (hP.al 63 rfl)) rfl ⟨rfl, rfl, Nat.le_of_ble_eq_true rfl, Nat.le_of_ble_eq_true rfl⟩ hl.1 rfl (Nat.le_of_ble_eq_true rfl) dX12_ground_38 ⟨Nat.zero_le _, Nat.zero_le _⟩) hS (fun H locs hP hS _ => ?_)
        refine lv_istore (lv' := [(4, .int v_38), (0, .ref (ad 63)), (1, .int a1), (2, .int a2), (3, .int a3)]) hx hb dX12_ground_41 hl (Nat.le_of_ble_eq_true rfl) rfl (fun ls hl => ?_)
        refine lv_iload_n hx hb dX12_ground_43 rfl (lv_at hl 4 rfl) ?_
        refine lv_if_ne (tgt := 50) hx hb dX12_ground_44 (by decide) (fun hc => ?_) (fun hc => ?_)
        · have h := if_f _ hc h
          refine lv_iload hx hb dX12_ground_50 (lv_at hl 0 rfl) ?_
          refine lv_iconst (v := -1) hx hb dX12_ground_52 ic_m1 ?_
          refine lv_icmp_ne (tgt := 60) hx hb dX12_ground_53 (by decide) (fun hc => ?_) (fun hc => ?_)
          · have h := if_f _ hc h
            refine lv_iload_n hx hb dX12_ground_60 rfl (lv_at hl 4 rfl) ?_
            refine lv_iconst (v := 1) hx hb dX12_ground_61 ic_1 ?_
            refine lv_icmp_ne (tgt := 75) hx hb dX12_ground_62 (by decide) (fun hc => ?_) (fun hc => ?_)
            · have h := if_f _ hc h
              refine lv_iload_n hx hb dX12_ground_75 rfl (lv_at hl 4 rfl) ?_
              refine lv_iconst (v := 2) hx hb dX12_ground_76 ic_2 ?_
              refine lv_icmp_ne (tgt := 90) hx hb dX12_ground_77 (by decide) (fun hc => ?_) (fun hc => ?_)
              · have h := if_f _ hc h
                refine lv_aload_n hx hb dX12_ground_90 rfl (lv_at hl 1 rfl) ?_
                refine x_getr F hP k_63 (hP.al 63 rfl) fl_X12_44 rfl r_63_15 dX12_ground_91 ?_
                refine lv_iload hx hb dX12_ground_94 (lv_at hl 0 rfl) ?_
                refine y_zald h F hP k_75 (n2 (hP.al 75 rfl)) dX12_ground_96 (fun v_96 h => ?_)
                refine lv_if_eq (tgt := 104) hx hb dX12_ground_97 (by decide) (fun hc => ?_) (fun hc => ?_)
                · have h := if_t _ hc h
                  refine lv_iconst (v := 0) hx hb dX12_ground_104 ic_0 ?_
                  exact y_iretO h F hr hP hS hlk dX12_ground_105
                · have h := if_f _ hc h
                  refine lv_iconst (v := 1) hx hb dX12_ground_100 ic_1 ?_
                  refine lv_goto (tgt := 105) hx hb dX12_ground_101 (by decide) ?_
                  exact y_iretO h F hr hP hS hlk dX12_ground_105
              · have h := if_t _ hc h
                refine lv_aload_n hx hb dX12_ground_80 rfl (lv_at hl 1 rfl) ?_
                refine x_getr F hP k_63 (hP.al 63 rfl) fl_X12_41 rfl r_63_14 dX12_ground_81 ?_
                refine lv_iload hx hb dX12_ground_84 (lv_at hl 0 rfl) ?_
                refine y_iald h F hP k_74 (n2 (hP.al 74 rfl)) dX12_ground_86 (fun v_86 h => ?_)
                refine lv_goto (tgt := 105) hx hb dX12_ground_87 (by decide) ?_
                exact y_iretO h F hr hP hS hlk dX12_ground_105
            · have h := if_t _ hc h
              refine lv_aload_n hx hb dX12_ground_65 rfl (lv_at hl 1 rfl) ?_
              refine x_getr F hP k_63 (hP.al 63 rfl) fl_X12_38 rfl r_63_13 dX12_ground_66 ?_
              refine lv_iload hx hb dX12_ground_69 (lv_at hl 0 rfl) ?_
              refine y_iald h F hP k_73 (n2 (hP.al 73 rfl)) dX12_ground_71 (fun v_71 h => ?_)
              refine lv_goto (tgt := 105) hx hb dX12_ground_72 (by decide) ?_
              exact y_iretO h F hr hP hS hlk dX12_ground_105
          · have h := if_t _ hc h
            refine lv_iconst (v := 0) hx hb dX12_ground_56 ic_0 ?_
            refine lv_goto (tgt := 105) hx hb dX12_ground_57 (by decide) ?_
            exact y_iretO h F hr hP hS hlk dX12_ground_105
        · have h := if_t _ hc h
          refine lv_iload hx hb dX12_ground_47 (lv_at hl 0 rfl) ?_
          exact y_iretO h F hr hP hS hlk dX12_ground_49
      · have h := if_t _ hc h
        refine lv_sipush (v := -1000) hx hb dX12_ground_31 is_m1000 ?_
        exact y_iretO h F hr hP hS hlk dX12_ground_34
def f_X12_isCar (w : Wd) (a1 : Int32) : Int32 :=
f_X12_in a1 (0 : Int32) ((wS w 63 16) - (1 : Int32))
set_option maxRecDepth 100000 in
set_option maxHeartbeats 4000000 in
theorem c_X12_isCar (l : Launch) (D : va_G) (cT : Nat → ClassId) (lo : Nat) (w : Wd) (ad : Nat → Nat) (a1 : Int32) : Met l yX12_isCar (.code yX12_isCar cX12_isCar 2 (some .boolean) :: TW) { frames := 1, cells := 0, slots := 0, locals := 22 } (mPc D cT lo NB w ad [.ref (ad 63), .int a1]) (mQz D cT lo NB w w ad (f_X12_isCar w a1)) 0 0 (fun q => lo ≤ q) := by
  obtain ⟨r, h⟩ : ∃ r, f_X12_isCar w a1 = r := ⟨_, rfl⟩
  rw [h]
  unfold f_X12_isCar at h
  refine x_met (lv := [(0, .ref (ad 63)), (1, .int a1)]) (by decide +kernel) (Nat.le_of_ble_eq_true rfl) rfl ?_
  intro p e s m args below meth c ls F hr hlk hP hin hl
  have hx := F.1
  have hb := F.2.1
  have hS : va_S (fun q => lo ≤ q) s.heap s.heap [] := va_S.rf
  refine lv_iload_n hx hb dX12_isCar_0 rfl (lv_at hl 1 rfl) ?_
  refine lv_iconst (v := 0) hx hb dX12_isCar_1 ic_0 ?_
  refine lv_aload_n hx hb dX12_isCar_2 rfl (lv_at hl 0 rfl) ?_
  refine x_geti F hP k_63 (n2 (hP.al 63 rfl)) fl_X12_254 rfl dX12_isCar_3 ?_
  refine lv_iconst (v := 1) hx hb dX12_isCar_6 ic_1 ?_
  refine lv_isub hx hb dX12_isCar_7 ?_
  refine x_goesZ (x_runS (As := [.int a1, .int (0 : Int32), .int ((wS w 63 16) - (1 : Int32))]) (rest := []) F hP hS (c_X12_in l D cT lo NB w ad a1 (0 : Int32) ((wS w 63 16) - (1 : Int32))) cw_X12_in lk_X12_217 st_X12_in ⟨rfl, rfl, Nat.le_of_ble_eq_true rfl, Nat.le_of_ble_eq_true rfl⟩ hl.1 rfl (Nat.le_of_ble_eq_true rfl) dX12_isCar_8 ⟨Nat.zero_le _, Nat.zero_le _⟩) hS (fun H locs hz_8 hP hS _ => ?_)
  exact y_zretP h F hr hP hS hlk hz_8 dX12_isCar_11
def f_X12_car (w : Wd) (a1 : Int32) (a2 : Int32) (a3 : Int32) (a4 : Int32) : Option (Int32 × Wd) :=
if (f_X12_in a1 (2 : Int32) (30 : Int32)) = 0 then
some ((-2 : Int32), w)
else
if (f_X12_in a2 (2 : Int32) (30 : Int32)) = 0 then
some ((-2 : Int32), w)
else
if (f_X12_in a3 (1 : Int32) (999 : Int32)) = 0 then
some ((-2 : Int32), w)
else
if (f_X12_in a4 (0 : Int32) (20 : Int32)) = 0 then
some ((-2 : Int32), w)
else
q_gt w 63 16 (fun v_46 =>
if v_46 = (4 : Int32) then
some ((-4 : Int32), w)
else
q_gt w 63 16 (fun v_61 =>
q_st w 76 4 v_61 a1 (fun w_65 =>
q_gt w_65 63 16 (fun v_71 =>
q_st w_65 77 4 v_71 a2 (fun w_75 =>
q_gt w_75 63 16 (fun v_81 =>
q_st w_75 78 4 v_81 a3 (fun w_85 =>
q_gt w_85 63 16 (fun v_91 =>
q_st w_85 79 4 v_91 a4 (fun w_96 =>
q_gt w_96 63 16 (fun v_99 =>
q_pt w_96 63 16 (v_99 + (1 : Int32)) (fun w_104 =>
q_gt w_104 63 16 (fun v_108 =>
some (v_108 - (1 : Int32), w_104)))))))))))))
set_option maxRecDepth 100000 in
set_option maxHeartbeats 4000000 in
theorem c_X12_car (l : Launch) (D : va_G) (cT : Nat → ClassId) (lo : Nat) (w : Wd) (ad : Nat → Nat) (a1 : Int32) (a2 : Int32) (a3 : Int32) (a4 : Int32) (r : Int32) (w9 : Wd) (h : f_X12_car w a1 a2 a3 a4 = some (r, w9)) : Met l yX12_car (.code yX12_car cX12_car 5 (some .int) :: TW) { frames := 1, cells := 0, slots := 0, locals := 22 } (mPc D cT lo NB w ad [.ref (ad 63), .int a1, .int a2, .int a3, .int a4]) (mQ D cT lo NB w w9 ad (some (.int r))) 0 0 (fun q => lo ≤ q) := by
  unfold f_X12_car at h
  refine x_met (lv := [(0, .ref (ad 63)), (1, .int a1), (2, .int a2), (3, .int a3), (4, .int a4)]) (by decide +kernel) (Nat.le_of_ble_eq_true rfl) rfl ?_
  intro p e s m args below meth c ls F hr hlk hP hin hl
  have hx := F.1
  have hb := F.2.1
  have hS : va_S (fun q => lo ≤ q) s.heap s.heap [] := va_S.rf
  have hM_w : mono w w := mono.refl
  refine lv_iload_n hx hb dX12_car_0 rfl (lv_at hl 1 rfl) ?_
  refine lv_iconst (v := 2) hx hb dX12_car_1 ic_2 ?_
  refine lv_bipush (v := 30) hx hb dX12_car_2 ib_30 ?_
  refine x_goesZ (x_runS (As := [.int a1, .int (2 : Int32), .int (30 : Int32)]) (rest := []) F hP hS (c_X12_in l D cT lo NB w ad a1 (2 : Int32) (30 : Int32)) cw_X12_in lk_X12_217 st_X12_in ⟨rfl, rfl, Nat.le_of_ble_eq_true rfl, Nat.le_of_ble_eq_true rfl⟩ hl.1 rfl (Nat.le_of_ble_eq_true rfl) dX12_car_4 ⟨Nat.zero_le _, Nat.zero_le _⟩) hS (fun H locs hz_4 hP hS _ => ?_)
  refine lv_if_eq (tgt := 42) hx hb dX12_car_7 (by decide) (fun hc => ?_) (fun hc => ?_)
  · have h := if_t _ hc h
    refine lv_bipush (v := -2) hx hb dX12_car_42 ib_m2 ?_
    exact y_iretM h F hr hP hS mono.refl hlk dX12_car_44
  · have h := if_f _ hc h
    refine lv_iload_n hx hb dX12_car_10 rfl (lv_at hl 2 rfl) ?_
    refine lv_iconst (v := 2) hx hb dX12_car_11 ic_2 ?_
    refine lv_bipush (v := 30) hx hb dX12_car_12 ib_30 ?_
    refine x_goesZ (x_runS (As := [.int a2, .int (2 : Int32), .int (30 : Int32)]) (rest := []) F hP hS (c_X12_in l D cT lo NB w ad a2 (2 : Int32) (30 : Int32)) cw_X12_in lk_X12_217 st_X12_in ⟨rfl, rfl, Nat.le_of_ble_eq_true rfl, Nat.le_of_ble_eq_true rfl⟩ hl.1 rfl (Nat.le_of_ble_eq_true rfl) dX12_car_14 ⟨Nat.zero_le _, Nat.zero_le _⟩) hS (fun H locs hz_14 hP hS _ => ?_)
    refine lv_if_eq (tgt := 42) hx hb dX12_car_17 (by decide) (fun hc => ?_) (fun hc => ?_)
    · have h := if_t _ hc h
      refine lv_bipush (v := -2) hx hb dX12_car_42 ib_m2 ?_
      exact y_iretM h F hr hP hS mono.refl hlk dX12_car_44
    · have h := if_f _ hc h
      refine lv_iload_n hx hb dX12_car_20 rfl (lv_at hl 3 rfl) ?_
      refine lv_iconst (v := 1) hx hb dX12_car_21 ic_1 ?_
      refine lv_sipush (v := 999) hx hb dX12_car_22 is_999 ?_
      refine x_goesZ (x_runS (As := [.int a3, .int (1 : Int32), .int (999 : Int32)]) (rest := []) F hP hS (c_X12_in l D cT lo NB w ad a3 (1 : Int32) (999 : Int32)) cw_X12_in lk_X12_217 st_X12_in ⟨rfl, rfl, Nat.le_of_ble_eq_true rfl, Nat.le_of_ble_eq_true rfl⟩ hl.1 rfl (Nat.le_of_ble_eq_true rfl) dX12_car_25 ⟨Nat.zero_le _, Nat.zero_le _⟩) hS (fun H locs hz_25 hP hS _ => ?_)
      refine lv_if_eq (tgt := 42) hx hb dX12_car_28 (by decide) (fun hc => ?_) (fun hc => ?_)
      · have h := if_t _ hc h
        refine lv_bipush (v := -2) hx hb dX12_car_42 ib_m2 ?_
        exact y_iretM h F hr hP hS mono.refl hlk dX12_car_44
      · have h := if_f _ hc h
        refine lv_iload hx hb dX12_car_31 (lv_at hl 4 rfl) ?_
        refine lv_iconst (v := 0) hx hb dX12_car_33 ic_0 ?_
        refine lv_bipush (v := 20) hx hb dX12_car_34 ib_20 ?_
        refine x_goesZ (x_runS (As := [.int a4, .int (0 : Int32), .int (20 : Int32)]) (rest := []) F hP hS (c_X12_in l D cT lo NB w ad a4 (0 : Int32) (20 : Int32)) cw_X12_in lk_X12_217 st_X12_in ⟨rfl, rfl, Nat.le_of_ble_eq_true rfl, Nat.le_of_ble_eq_true rfl⟩ hl.1 rfl (Nat.le_of_ble_eq_true rfl) dX12_car_36 ⟨Nat.zero_le _, Nat.zero_le _⟩) hS (fun H locs hz_36 hP hS _ => ?_)
        refine lv_if_ne (tgt := 45) hx hb dX12_car_39 (by decide) (fun hc => ?_) (fun hc => ?_)
        · have h := if_f _ hc h
          refine lv_aload_n hx hb dX12_car_45 rfl (lv_at hl 0 rfl) ?_
          refine y_geti h F hP k_63 (n2 (hP.al 63 rfl)) fl_X12_254 rfl dX12_car_46 (fun v_46 h => ?_)
          refine lv_iconst (v := 4) hx hb dX12_car_49 ic_4 ?_
          refine lv_icmp_ne (tgt := 56) hx hb dX12_car_50 (by decide) (fun hc => ?_) (fun hc => ?_)
          · have h := if_f _ hc h
            refine lv_aload_n hx hb dX12_car_56 rfl (lv_at hl 0 rfl) ?_
            refine x_getr F hP k_63 (hP.al 63 rfl) fl_X12_47 rfl r_63_17 dX12_car_57 ?_
            refine lv_aload_n hx hb dX12_car_60 rfl (lv_at hl 0 rfl) ?_
            refine y_geti h F hP k_63 (n2 (hP.al 63 rfl)) fl_X12_254 rfl dX12_car_61 (fun v_61 h => ?_)
            refine lv_iload_n hx hb dX12_car_64 rfl (lv_at hl 1 rfl) ?_
            refine y_iast h F hP hS k_76 (n2 (hP.al 76 rfl)) dX12_car_65 (fun w_65 H locs hm h hP hS => ?_)
            have hM_w := hm
            refine lv_aload_n hx hb dX12_car_66 rfl (lv_at hl 0 rfl) ?_
            refine x_getr F hP k_63 (hP.al 63 rfl) fl_X12_50 rfl r_63_18 dX12_car_67 ?_
            refine lv_aload_n hx hb dX12_car_70 rfl (lv_at hl 0 rfl) ?_
            refine y_geti h F hP k_63 (n2 (hP.al 63 rfl)) fl_X12_254 rfl dX12_car_71 (fun v_71 h => ?_)
            refine lv_iload_n hx hb dX12_car_74 rfl (lv_at hl 2 rfl) ?_
            refine y_iast h F hP hS k_77 (n2 (hP.al 77 rfl)) dX12_car_75 (fun w_75 H locs hm h hP hS => ?_)
            have hM_w := hM_w.trans hm
            refine lv_aload_n hx hb dX12_car_76 rfl (lv_at hl 0 rfl) ?_
            refine x_getr F hP k_63 (hP.al 63 rfl) fl_X12_53 rfl r_63_19 dX12_car_77 ?_
            refine lv_aload_n hx hb dX12_car_80 rfl (lv_at hl 0 rfl) ?_
            refine y_geti h F hP k_63 (n2 (hP.al 63 rfl)) fl_X12_254 rfl dX12_car_81 (fun v_81 h => ?_)
            refine lv_iload_n hx hb dX12_car_84 rfl (lv_at hl 3 rfl) ?_
            refine y_iast h F hP hS k_78 (n2 (hP.al 78 rfl)) dX12_car_85 (fun w_85 H locs hm h hP hS => ?_)
            have hM_w := hM_w.trans hm
            refine lv_aload_n hx hb dX12_car_86 rfl (lv_at hl 0 rfl) ?_
            refine x_getr F hP k_63 (hP.al 63 rfl) fl_X12_56 rfl r_63_20 dX12_car_87 ?_
            refine lv_aload_n hx hb dX12_car_90 rfl (lv_at hl 0 rfl) ?_
            refine y_geti h F hP k_63 (n2 (hP.al 63 rfl)) fl_X12_254 rfl dX12_car_91 (fun v_91 h => ?_)
            refine lv_iload hx hb dX12_car_94 (lv_at hl 4 rfl) ?_
            refine y_iast h F hP hS k_79 (n2 (hP.al 79 rfl)) dX12_car_96 (fun w_96 H locs hm h hP hS => ?_)
            have hM_w := hM_w.trans hm
            refine lv_aload_n hx hb dX12_car_97 rfl (lv_at hl 0 rfl) ?_
            refine lv_dup hx hb dX12_car_98 rfl ?_
            refine y_geti h F hP k_63 (n2 (hP.al 63 rfl)) fl_X12_254 rfl dX12_car_99 (fun v_99 h => ?_)
            refine lv_iconst (v := 1) hx hb dX12_car_102 ic_1 ?_
            refine lv_iadd hx hb dX12_car_103 ?_
            refine y_puti h F hP hS k_63 (n2 (hP.al 63 rfl)) fl_X12_254 rfl dX12_car_104 (fun w_104 H locs hm h hP hS => ?_)
            have hM_w := hM_w.trans hm
            refine lv_aload_n hx hb dX12_car_107 rfl (lv_at hl 0 rfl) ?_
            refine y_geti h F hP k_63 (n2 (hP.al 63 rfl)) fl_X12_254 rfl dX12_car_108 (fun v_108 h => ?_)
            refine lv_iconst (v := 1) hx hb dX12_car_111 ic_1 ?_
            refine lv_isub hx hb dX12_car_112 ?_
            exact y_iretM h F hr hP hS hM_w hlk dX12_car_113
          · have h := if_t _ hc h
            refine lv_bipush (v := -4) hx hb dX12_car_53 ib_m4 ?_
            exact y_iretM h F hr hP hS mono.refl hlk dX12_car_55
        · have h := if_t _ hc h
          refine lv_bipush (v := -2) hx hb dX12_car_42 ib_m2 ?_
          exact y_iretM h F hr hP hS mono.refl hlk dX12_car_44
def f_X12_footOf (w : Wd) (a1 : Int32) (a2 : Int32) : Option Int32 :=
if a2 = 0 then
some (0 : Int32)
else
q_ld w 81 20 ((((5 : Int32) * a1) + a2) - (1 : Int32)) (fun v_19 =>
some v_19)
set_option maxRecDepth 100000 in
set_option maxHeartbeats 4000000 in
theorem c_X12_footOf (l : Launch) (D : va_G) (cT : Nat → ClassId) (lo : Nat) (w : Wd) (ad : Nat → Nat) (a1 : Int32) (a2 : Int32) (r : Int32) (h : f_X12_footOf w a1 a2 = some r) : Met l yX12_footOf (.code yX12_footOf cX12_footOf 3 (some .int) :: TW) { frames := 0, cells := 0, slots := 0, locals := 0 } (mPc D cT lo NB w ad [.ref (ad 63), .int a1, .int a2]) (mQ D cT lo NB w w ad (some (.int r))) 0 0 (fun q => lo ≤ q) := by
  unfold f_X12_footOf at h
  refine x_met (lv := [(0, .ref (ad 63)), (1, .int a1), (2, .int a2)]) (by decide +kernel) (Nat.le_of_ble_eq_true rfl) rfl ?_
  intro p e s m args below meth c ls F hr hlk hP hin hl
  have hx := F.1
  have hb := F.2.1
  have hS : va_S (fun q => lo ≤ q) s.heap s.heap [] := va_S.rf
  refine lv_iload_n hx hb dX12_footOf_0 rfl (lv_at hl 2 rfl) ?_
  refine lv_if_ne (tgt := 8) hx hb dX12_footOf_1 (by decide) (fun hc => ?_) (fun hc => ?_)
  · have h := if_f _ hc h
    refine lv_aload_n hx hb dX12_footOf_8 rfl (lv_at hl 0 rfl) ?_
    refine x_getr F hP k_63 (hP.al 63 rfl) fl_X12_62 rfl r_63_22 dX12_footOf_9 ?_
    refine lv_iconst (v := 5) hx hb dX12_footOf_12 ic_5 ?_
    refine lv_iload_n hx hb dX12_footOf_13 rfl (lv_at hl 1 rfl) ?_
    refine lv_imul hx hb dX12_footOf_14 ?_
    refine lv_iload_n hx hb dX12_footOf_15 rfl (lv_at hl 2 rfl) ?_
    refine lv_iadd hx hb dX12_footOf_16 ?_
    refine lv_iconst (v := 1) hx hb dX12_footOf_17 ic_1 ?_
    refine lv_isub hx hb dX12_footOf_18 ?_
    refine y_iald h F hP k_81 (n2 (hP.al 81 rfl)) dX12_footOf_19 (fun v_19 h => ?_)
    exact y_iretO h F hr hP hS hlk dX12_footOf_20
  · have h := if_t _ hc h
    refine lv_iconst (v := 0) hx hb dX12_footOf_4 ic_0 ?_
    refine lv_goto (tgt := 20) hx hb dX12_footOf_5 (by decide) ?_
    exact y_iretO h F hr hP hS hlk dX12_footOf_20
def f_X12_storey (w : Wd) (a1 : Int32) (a2 : Int32) (a3 : Int32) (a4 : Int32) : Option (Int32 × Wd) :=
if (f_X12_isCar w a1) = 0 then
some ((-2 : Int32), w)
else
q_ld w 80 4 a1 (fun v_16 =>
q_bo (f_X12_footOf w a1 v_16) (fun v_17 =>
if (f_X12_in a2 (v_17 + (1 : Int32)) (99 : Int32)) = 0 then
some ((-2 : Int32), w)
else
if (f_X12_in a3 (1 : Int32) (30 : Int32)) = 0 then
some ((-2 : Int32), w)
else
if (f_X12_in a4 (1 : Int32) (30 : Int32)) = 0 then
some ((-2 : Int32), w)
else
q_ld w 80 4 a1 (fun v_59 =>
if v_59 = (5 : Int32) then
some ((-4 : Int32), w)
else
q_ld w 80 4 a1 (fun v_75 =>
q_lt (((5 : Int32) * a1) + v_75) (fun v_77 =>
q_st w 81 20 v_77 a2 (fun w_86 =>
q_st w_86 82 20 v_77 a3 (fun w_94 =>
q_st w_94 83 20 v_77 a4 (fun w_103 =>
q_ld w_103 80 4 a1 (fun v_110 =>
q_st w_103 80 4 a1 (v_110 + (1 : Int32)) (fun w_113 =>
q_ld w_113 80 4 a1 (fun v_119 =>
some (v_119, w_113))))))))))))
set_option maxRecDepth 100000 in
set_option maxHeartbeats 4000000 in
theorem c_X12_storey (l : Launch) (D : va_G) (cT : Nat → ClassId) (lo : Nat) (w : Wd) (ad : Nat → Nat) (a1 : Int32) (a2 : Int32) (a3 : Int32) (a4 : Int32) (r : Int32) (w9 : Wd) (h : f_X12_storey w a1 a2 a3 a4 = some (r, w9)) : Met l yX12_storey (.code yX12_storey cX12_storey 6 (some .int) :: TW) { frames := 2, cells := 0, slots := 0, locals := 43 } (mPc D cT lo NB w ad [.ref (ad 63), .int a1, .int a2, .int a3, .int a4]) (mQ D cT lo NB w w9 ad (some (.int r))) 0 0 (fun q => lo ≤ q) := by
  unfold f_X12_storey at h
  refine x_met (lv := [(0, .ref (ad 63)), (1, .int a1), (2, .int a2), (3, .int a3), (4, .int a4)]) (by decide +kernel) (Nat.le_of_ble_eq_true rfl) rfl ?_
  intro p e s m args below meth c ls F hr hlk hP hin hl
  have hx := F.1
  have hb := F.2.1
  have hS : va_S (fun q => lo ≤ q) s.heap s.heap [] := va_S.rf
  have hM_w : mono w w := mono.refl
  refine lv_aload_n hx hb dX12_storey_0 rfl (lv_at hl 0 rfl) ?_
  refine lv_iload_n hx hb dX12_storey_1 rfl (lv_at hl 1 rfl) ?_
  refine x_goesZ (x_runV (As := [.int a1]) (rest := []) F hP hS (c_X12_isCar l D cT lo w ad a1) cw_X12_isCar lk_X12_257 vi_X12_isCar k_63 (n2 (hP.al 63 rfl)) rfl ⟨rfl, rfl, Nat.le_of_ble_eq_true rfl, Nat.le_of_ble_eq_true rfl⟩ hl.1 rfl (Nat.le_of_ble_eq_true rfl) dX12_storey_2 ⟨Nat.zero_le _, Nat.zero_le _⟩) hS (fun H locs hz_2 hP hS _ => ?_)
  refine lv_if_eq (tgt := 51) hx hb dX12_storey_5 (by decide) (fun hc => ?_) (fun hc => ?_)
  · have h := if_t _ hc h
    refine lv_bipush (v := -2) hx hb dX12_storey_51 ib_m2 ?_
    exact y_iretM h F hr hP hS mono.refl hlk dX12_storey_53
  · have h := if_f _ hc h
    refine lv_iload_n hx hb dX12_storey_8 rfl (lv_at hl 2 rfl) ?_
    refine lv_aload_n hx hb dX12_storey_9 rfl (lv_at hl 0 rfl) ?_
    refine lv_iload_n hx hb dX12_storey_10 rfl (lv_at hl 1 rfl) ?_
    refine lv_aload_n hx hb dX12_storey_11 rfl (lv_at hl 0 rfl) ?_
    refine x_getr F hP k_63 (hP.al 63 rfl) fl_X12_59 rfl r_63_21 dX12_storey_12 ?_
    refine lv_iload_n hx hb dX12_storey_15 rfl (lv_at hl 1 rfl) ?_
    refine y_iald h F hP k_80 (n2 (hP.al 80 rfl)) dX12_storey_16 (fun v_16 h => ?_)
    obtain ⟨v_17, hc_17, h⟩ := bo_s h
    refine x_goes (x_runV (As := [.int a1, .int v_16]) (rest := [.int a2]) F hP hS (c_X12_footOf l D cT lo w ad a1 v_16 v_17 hc_17) cw_X12_footOf lk_X12_260 vi_X12_footOf k_63 (n2 (hP.al 63 rfl)) rfl ⟨rfl, rfl, Nat.le_of_ble_eq_true rfl, Nat.le_of_ble_eq_true rfl⟩ hl.1 rfl (Nat.le_of_ble_eq_true rfl) dX12_storey_17 ⟨Nat.zero_le _, Nat.zero_le _⟩) hS (fun H locs hP hS _ => ?_)
    refine lv_iconst (v := 1) hx hb dX12_storey_20 ic_1 ?_
    refine lv_iadd hx hb dX12_storey_21 ?_
    refine lv_bipush (v := 99) hx hb dX12_storey_22 ib_99 ?_
    refine x_goesZ (x_runS (As := [.int a2, .int (v_17 + (1 : Int32)), .int (99 : Int32)]) (rest := []) F hP hS (c_X12_in l D cT lo NB w ad a2 (v_17 + (1 : Int32)) (99 : Int32)) cw_X12_in lk_X12_217 st_X12_in ⟨rfl, rfl, Nat.le_of_ble_eq_true rfl, Nat.le_of_ble_eq_true rfl⟩ hl.1 rfl (Nat.le_of_ble_eq_true rfl) dX12_storey_24 ⟨Nat.zero_le _, Nat.zero_le _⟩) hS (fun H locs hz_24 hP hS _ => ?_)
    refine lv_if_eq (tgt := 51) hx hb dX12_storey_27 (by decide) (fun hc => ?_) (fun hc => ?_)
    · have h := if_t _ hc h
      refine lv_bipush (v := -2) hx hb dX12_storey_51 ib_m2 ?_
      exact y_iretM h F hr hP hS mono.refl hlk dX12_storey_53
    · have h := if_f _ hc h
      refine lv_iload_n hx hb dX12_storey_30 rfl (lv_at hl 3 rfl) ?_
      refine lv_iconst (v := 1) hx hb dX12_storey_31 ic_1 ?_
      refine lv_bipush (v := 30) hx hb dX12_storey_32 ib_30 ?_
      refine x_goesZ (x_runS (As := [.int a3, .int (1 : Int32), .int (30 : Int32)]) (rest := []) F hP hS (c_X12_in l D cT lo NB w ad a3 (1 : Int32) (30 : Int32)) cw_X12_in lk_X12_217 st_X12_in ⟨rfl, rfl, Nat.le_of_ble_eq_true rfl, Nat.le_of_ble_eq_true rfl⟩ hl.1 rfl (Nat.le_of_ble_eq_true rfl) dX12_storey_34 ⟨Nat.zero_le _, Nat.zero_le _⟩) hS (fun H locs hz_34 hP hS _ => ?_)
      refine lv_if_eq (tgt := 51) hx hb dX12_storey_37 (by decide) (fun hc => ?_) (fun hc => ?_)
      · have h := if_t _ hc h
        refine lv_bipush (v := -2) hx hb dX12_storey_51 ib_m2 ?_
        exact y_iretM h F hr hP hS mono.refl hlk dX12_storey_53
      · have h := if_f _ hc h
        refine lv_iload hx hb dX12_storey_40 (lv_at hl 4 rfl) ?_
        refine lv_iconst (v := 1) hx hb dX12_storey_42 ic_1 ?_
        refine lv_bipush (v := 30) hx hb dX12_storey_43 ib_30 ?_
        refine x_goesZ (x_runS (As := [.int a4, .int (1 : Int32), .int (30 : Int32)]) (rest := []) F hP hS (c_X12_in l D cT lo NB w ad a4 (1 : Int32) (30 : Int32)) cw_X12_in lk_X12_217 st_X12_in ⟨rfl, rfl, Nat.le_of_ble_eq_true rfl, Nat.le_of_ble_eq_true rfl⟩ hl.1 rfl (Nat.le_of_ble_eq_true rfl) dX12_storey_45 ⟨Nat.zero_le _, Nat.zero_le _⟩) hS (fun H locs hz_45 hP hS _ => ?_)
        refine lv_if_ne (tgt := 54) hx hb dX12_storey_48 (by decide) (fun hc => ?_) (fun hc => ?_)
        · have h := if_f _ hc h
          refine lv_aload_n hx hb dX12_storey_54 rfl (lv_at hl 0 rfl) ?_
          refine x_getr F hP k_63 (hP.al 63 rfl) fl_X12_59 rfl r_63_21 dX12_storey_55 ?_
          refine lv_iload_n hx hb dX12_storey_58 rfl (lv_at hl 1 rfl) ?_
          refine y_iald h F hP k_80 (n2 (hP.al 80 rfl)) dX12_storey_59 (fun v_59 h => ?_)
          refine lv_iconst (v := 5) hx hb dX12_storey_60 ic_5 ?_
          refine lv_icmp_ne (tgt := 67) hx hb dX12_storey_61 (by decide) (fun hc => ?_) (fun hc => ?_)
          · have h := if_f _ hc h
            refine lv_iconst (v := 5) hx hb dX12_storey_67 ic_5 ?_
            refine lv_iload_n hx hb dX12_storey_68 rfl (lv_at hl 1 rfl) ?_
            refine lv_imul hx hb dX12_storey_69 ?_
            refine lv_aload_n hx hb dX12_storey_70 rfl (lv_at hl 0 rfl) ?_
            refine x_getr F hP k_63 (hP.al 63 rfl) fl_X12_59 rfl r_63_21 dX12_storey_71 ?_
            refine lv_iload_n hx hb dX12_storey_74 rfl (lv_at hl 1 rfl) ?_
            refine y_iald h F hP k_80 (n2 (hP.al 80 rfl)) dX12_storey_75 (fun v_75 h => ?_)
            refine lv_iadd hx hb dX12_storey_76 ?_
            refine y_let h (fun v_77 h => ?_)
            refine lv_istore (lv' := [(5, .int v_77), (0, .ref (ad 63)), (1, .int a1), (2, .int a2), (3, .int a3), (4, .int a4)]) hx hb dX12_storey_77 hl (Nat.le_of_ble_eq_true rfl) rfl (fun ls hl => ?_)
            refine lv_aload_n hx hb dX12_storey_79 rfl (lv_at hl 1 rfl) ?_
            refine x_getr F hP k_63 (hP.al 63 rfl) fl_X12_62 rfl r_63_22 dX12_storey_80 ?_
            refine lv_iload hx hb dX12_storey_83 (lv_at hl 0 rfl) ?_
            refine lv_iload_n hx hb dX12_storey_85 rfl (lv_at hl 3 rfl) ?_
            refine y_iast h F hP hS k_81 (n2 (hP.al 81 rfl)) dX12_storey_86 (fun w_86 H locs hm h hP hS => ?_)
            have hM_w := hm
            refine lv_aload_n hx hb dX12_storey_87 rfl (lv_at hl 1 rfl) ?_
            refine x_getr F hP k_63 (hP.al 63 rfl) fl_X12_65 rfl r_63_23 dX12_storey_88 ?_
            refine lv_iload hx hb dX12_storey_91 (lv_at hl 0 rfl) ?_
            refine lv_iload_n hx hb dX12_storey_93 rfl (lv_at hl 4 rfl) ?_
            refine y_iast h F hP hS k_82 (n2 (hP.al 82 rfl)) dX12_storey_94 (fun w_94 H locs hm h hP hS => ?_)
            have hM_w := hM_w.trans hm
            refine lv_aload_n hx hb dX12_storey_95 rfl (lv_at hl 1 rfl) ?_
            refine x_getr F hP k_63 (hP.al 63 rfl) fl_X12_68 rfl r_63_24 dX12_storey_96 ?_
            refine lv_iload hx hb dX12_storey_99 (lv_at hl 0 rfl) ?_
            refine lv_iload hx hb dX12_storey_101 (lv_at hl 5 rfl) ?_
            refine y_iast h F hP hS k_83 (n2 (hP.al 83 rfl)) dX12_storey_103 (fun w_103 H locs hm h hP hS => ?_)
            have hM_w := hM_w.trans hm
            refine lv_aload_n hx hb dX12_storey_104 rfl (lv_at hl 1 rfl) ?_
            refine x_getr F hP k_63 (hP.al 63 rfl) fl_X12_59 rfl r_63_21 dX12_storey_105 ?_
            refine lv_iload_n hx hb dX12_storey_108 rfl (lv_at hl 2 rfl) ?_
            refine lv_dup2_11 hx hb dX12_storey_109 rfl rfl ?_
            refine y_iald h F hP k_80 (n2 (hP.al 80 rfl)) dX12_storey_110 (fun v_110 h => ?_)
            refine lv_iconst (v := 1) hx hb dX12_storey_111 ic_1 ?_
            refine lv_iadd hx hb dX12_storey_112 ?_
            refine y_iast h F hP hS k_80 (n2 (hP.al 80 rfl)) dX12_storey_113 (fun w_113 H locs hm h hP hS => ?_)
            have hM_w := hM_w.trans hm
            refine lv_aload_n hx hb dX12_storey_114 rfl (lv_at hl 1 rfl) ?_
            refine x_getr F hP k_63 (hP.al 63 rfl) fl_X12_59 rfl r_63_21 dX12_storey_115 ?_
            refine lv_iload_n hx hb dX12_storey_118 rfl (lv_at hl 2 rfl) ?_
            refine y_iald h F hP k_80 (n2 (hP.al 80 rfl)) dX12_storey_119 (fun v_119 h => ?_)
            exact y_iretM h F hr hP hS hM_w hlk dX12_storey_120
          · have h := if_t _ hc h
            refine lv_bipush (v := -4) hx hb dX12_storey_64 ib_m4 ?_
            exact y_iretM h F hr hP hS mono.refl hlk dX12_storey_66
        · have h := if_t _ hc h
          refine lv_bipush (v := -2) hx hb dX12_storey_51 ib_m2 ?_
          exact y_iretM h F hr hP hS mono.refl hlk dX12_storey_53
def f_X12_halfLong (w : Wd) (a1 : Int32) (a2 : Int32) : Option Int32 :=
q_lt (((5 : Int32) * a1) + a2) (fun v_5 =>
q_ld w 82 20 v_5 (fun v_11 =>
q_ld w 79 4 a1 (fun v_17 =>
q_ld w 81 20 v_5 (fun v_23 =>
some (v_11 + ((v_17 * v_23) / (100 : Int32)))))))
set_option maxRecDepth 100000 in
set_option maxHeartbeats 4000000 in
theorem c_X12_halfLong (l : Launch) (D : va_G) (cT : Nat → ClassId) (lo : Nat) (w : Wd) (ad : Nat → Nat) (a1 : Int32) (a2 : Int32) (r : Int32) (h : f_X12_halfLong w a1 a2 = some r) : Met l yX12_halfLong (.code yX12_halfLong cX12_halfLong 4 (some .int) :: TW) { frames := 0, cells := 0, slots := 0, locals := 0 } (mPc D cT lo NB w ad [.ref (ad 63), .int a1, .int a2]) (mQ D cT lo NB w w ad (some (.int r))) 0 0 (fun q => lo ≤ q) := by
  unfold f_X12_halfLong at h
  refine x_met (lv := [(0, .ref (ad 63)), (1, .int a1), (2, .int a2)]) (by decide +kernel) (Nat.le_of_ble_eq_true rfl) rfl ?_
  intro p e s m args below meth c ls F hr hlk hP hin hl
  have hx := F.1
  have hb := F.2.1
  have hS : va_S (fun q => lo ≤ q) s.heap s.heap [] := va_S.rf
  refine lv_iconst (v := 5) hx hb dX12_halfLong_0 ic_5 ?_
  refine lv_iload_n hx hb dX12_halfLong_1 rfl (lv_at hl 1 rfl) ?_
  refine lv_imul hx hb dX12_halfLong_2 ?_
  refine lv_iload_n hx hb dX12_halfLong_3 rfl (lv_at hl 2 rfl) ?_
  refine lv_iadd hx hb dX12_halfLong_4 ?_
  refine y_let h (fun v_5 h => ?_)
  refine lv_istore_n (lv' := [(3, .int v_5), (0, .ref (ad 63)), (1, .int a1), (2, .int a2)]) hx hb dX12_halfLong_5 rfl hl (Nat.le_of_ble_eq_true rfl) rfl (fun ls hl => ?_)
  refine lv_aload_n hx hb dX12_halfLong_6 rfl (lv_at hl 1 rfl) ?_
  refine x_getr F hP k_63 (hP.al 63 rfl) fl_X12_65 rfl r_63_23 dX12_halfLong_7 ?_
  refine lv_iload_n hx hb dX12_halfLong_10 rfl (lv_at hl 0 rfl) ?_
  refine y_iald h F hP k_82 (n2 (hP.al 82 rfl)) dX12_halfLong_11 (fun v_11 h => ?_)
  refine lv_aload_n hx hb dX12_halfLong_12 rfl (lv_at hl 1 rfl) ?_
  refine x_getr F hP k_63 (hP.al 63 rfl) fl_X12_56 rfl r_63_20 dX12_halfLong_13 ?_
  refine lv_iload_n hx hb dX12_halfLong_16 rfl (lv_at hl 2 rfl) ?_
  refine y_iald h F hP k_79 (n2 (hP.al 79 rfl)) dX12_halfLong_17 (fun v_17 h => ?_)
  refine lv_aload_n hx hb dX12_halfLong_18 rfl (lv_at hl 1 rfl) ?_
  refine x_getr F hP k_63 (hP.al 63 rfl) fl_X12_62 rfl r_63_22 dX12_halfLong_19 ?_
  refine lv_iload_n hx hb dX12_halfLong_22 rfl (lv_at hl 0 rfl) ?_
  refine y_iald h F hP k_81 (n2 (hP.al 81 rfl)) dX12_halfLong_23 (fun v_23 h => ?_)
  refine lv_imul hx hb dX12_halfLong_24 ?_
  refine lv_bipush (v := 100) hx hb dX12_halfLong_25 ib_100 ?_
  refine lv_idiv hx hb dX12_halfLong_27 (by decide) ?_
  refine lv_iadd hx hb dX12_halfLong_28 ?_
  exact y_iretO h F hr hP hS hlk dX12_halfLong_29
def f_X12_halfBroad (w : Wd) (a1 : Int32) (a2 : Int32) : Option Int32 :=
q_lt (((5 : Int32) * a1) + a2) (fun v_5 =>
q_ld w 83 20 v_5 (fun v_11 =>
q_ld w 79 4 a1 (fun v_17 =>
q_ld w 81 20 v_5 (fun v_23 =>
some (v_11 + ((v_17 * v_23) / (100 : Int32)))))))
set_option maxRecDepth 100000 in
set_option maxHeartbeats 4000000 in
theorem c_X12_halfBroad (l : Launch) (D : va_G) (cT : Nat → ClassId) (lo : Nat) (w : Wd) (ad : Nat → Nat) (a1 : Int32) (a2 : Int32) (r : Int32) (h : f_X12_halfBroad w a1 a2 = some r) : Met l yX12_halfBroad (.code yX12_halfBroad cX12_halfBroad 4 (some .int) :: TW) { frames := 0, cells := 0, slots := 0, locals := 0 } (mPc D cT lo NB w ad [.ref (ad 63), .int a1, .int a2]) (mQ D cT lo NB w w ad (some (.int r))) 0 0 (fun q => lo ≤ q) := by
  unfold f_X12_halfBroad at h
  refine x_met (lv := [(0, .ref (ad 63)), (1, .int a1), (2, .int a2)]) (by decide +kernel) (Nat.le_of_ble_eq_true rfl) rfl ?_
  intro p e s m args below meth c ls F hr hlk hP hin hl
  have hx := F.1
  have hb := F.2.1
  have hS : va_S (fun q => lo ≤ q) s.heap s.heap [] := va_S.rf
  refine lv_iconst (v := 5) hx hb dX12_halfBroad_0 ic_5 ?_
  refine lv_iload_n hx hb dX12_halfBroad_1 rfl (lv_at hl 1 rfl) ?_
  refine lv_imul hx hb dX12_halfBroad_2 ?_
  refine lv_iload_n hx hb dX12_halfBroad_3 rfl (lv_at hl 2 rfl) ?_
  refine lv_iadd hx hb dX12_halfBroad_4 ?_
  refine y_let h (fun v_5 h => ?_)
  refine lv_istore_n (lv' := [(3, .int v_5), (0, .ref (ad 63)), (1, .int a1), (2, .int a2)]) hx hb dX12_halfBroad_5 rfl hl (Nat.le_of_ble_eq_true rfl) rfl (fun ls hl => ?_)
  refine lv_aload_n hx hb dX12_halfBroad_6 rfl (lv_at hl 1 rfl) ?_
  refine x_getr F hP k_63 (hP.al 63 rfl) fl_X12_68 rfl r_63_24 dX12_halfBroad_7 ?_
  refine lv_iload_n hx hb dX12_halfBroad_10 rfl (lv_at hl 0 rfl) ?_
  refine y_iald h F hP k_83 (n2 (hP.al 83 rfl)) dX12_halfBroad_11 (fun v_11 h => ?_)
  refine lv_aload_n hx hb dX12_halfBroad_12 rfl (lv_at hl 1 rfl) ?_
  refine x_getr F hP k_63 (hP.al 63 rfl) fl_X12_56 rfl r_63_20 dX12_halfBroad_13 ?_
  refine lv_iload_n hx hb dX12_halfBroad_16 rfl (lv_at hl 2 rfl) ?_
  refine y_iald h F hP k_79 (n2 (hP.al 79 rfl)) dX12_halfBroad_17 (fun v_17 h => ?_)
  refine lv_aload_n hx hb dX12_halfBroad_18 rfl (lv_at hl 1 rfl) ?_
  refine x_getr F hP k_63 (hP.al 63 rfl) fl_X12_62 rfl r_63_22 dX12_halfBroad_19 ?_
  refine lv_iload_n hx hb dX12_halfBroad_22 rfl (lv_at hl 0 rfl) ?_
  refine y_iald h F hP k_81 (n2 (hP.al 81 rfl)) dX12_halfBroad_23 (fun v_23 h => ?_)
  refine lv_imul hx hb dX12_halfBroad_24 ?_
  refine lv_bipush (v := 100) hx hb dX12_halfBroad_25 ib_100 ?_
  refine lv_idiv hx hb dX12_halfBroad_27 (by decide) ?_
  refine lv_iadd hx hb dX12_halfBroad_28 ?_
  exact y_iretO h F hr hP hS hlk dX12_halfBroad_29
def f_X12_amount (a1 : Int32) : Int32 :=
if 0 ≤ a1 then
a1
else
-a1
set_option maxRecDepth 100000 in
set_option maxHeartbeats 4000000 in
theorem c_X12_amount (l : Launch) (D : va_G) (cT : Nat → ClassId) (lo nb : Nat) (w : Wd) (ad : Nat → Nat) (a1 : Int32) : Met l yX12_amount (.code yX12_amount cX12_amount 1 (some .int) :: TW) { frames := 0, cells := 0, slots := 0, locals := 0 } (mPc D cT lo nb w ad [.int a1]) (mQ D cT lo nb w w ad (some (.int (f_X12_amount a1)))) 0 0 (fun q => lo ≤ q) := by
  obtain ⟨r, h⟩ : ∃ r, f_X12_amount a1 = r := ⟨_, rfl⟩
  rw [h]
  unfold f_X12_amount at h
  refine x_met (lv := [(0, .int a1)]) (by decide +kernel) (Nat.le_of_ble_eq_true rfl) rfl ?_
  intro p e s m args below meth c ls F hr hlk hP hin hl
  have hx := F.1
  have hb := F.2.1
  have hS : va_S (fun q => lo ≤ q) s.heap s.heap [] := va_S.rf
  refine lv_iload_n hx hb dX12_amount_0 rfl (lv_at hl 0 rfl) ?_
  refine lv_if_ge (tgt := 9) hx hb dX12_amount_1 (by decide) (fun hc => ?_) (fun hc => ?_)
  · have h := if_t _ hc h
    refine lv_iload_n hx hb dX12_amount_9 rfl (lv_at hl 0 rfl) ?_
    exact y_iretP h F hr hP hS hlk dX12_amount_10
  · have h := if_f _ hc h
    refine lv_iload_n hx hb dX12_amount_4 rfl (lv_at hl 0 rfl) ?_
    refine lv_ineg hx hb dX12_amount_5 ?_
    refine lv_goto (tgt := 10) hx hb dX12_amount_6 (by decide) ?_
    exact y_iretP h F hr hP hS hlk dX12_amount_10
def f_X12_areApart (a1 : Int32) (a2 : Int32) (a3 : Int32) (a4 : Int32) (a5 : Int32) (a6 : Int32) (a7 : Int32) (a8 : Int32) (a9 : Int32) : Int32 :=
q_lt (f_X12_amount ((a1 * (f_X12_along a9)) + (a2 * (f_X12_across a9)))) (fun v_26 =>
q_lt ((a4 * (f_X12_amount (((f_X12_along a3) * (f_X12_along a9)) + ((f_X12_across a3) * (f_X12_across a9))))) + (a5 * (f_X12_amount (((-(f_X12_across a3)) * (f_X12_along a9)) + ((f_X12_along a3) * (f_X12_across a9)))))) (fun v_71 =>
q_lt ((a7 * (f_X12_amount (((f_X12_along a6) * (f_X12_along a9)) + ((f_X12_across a6) * (f_X12_across a9))))) + (a8 * (f_X12_amount (((-(f_X12_across a6)) * (f_X12_along a9)) + ((f_X12_along a6) * (f_X12_across a9)))))) (fun v_121 =>
if v_26 < (v_71 + v_121) then
(0 : Int32)
else
(1 : Int32))))
set_option maxRecDepth 100000 in
set_option maxHeartbeats 4000000 in
theorem c_X12_areApart (l : Launch) (D : va_G) (cT : Nat → ClassId) (lo nb : Nat) (w : Wd) (ad : Nat → Nat) (a1 : Int32) (a2 : Int32) (a3 : Int32) (a4 : Int32) (a5 : Int32) (a6 : Int32) (a7 : Int32) (a8 : Int32) (a9 : Int32) : Met l yX12_areApart (.code yX12_areApart cX12_areApart 14 (some .boolean) :: TW) { frames := 3, cells := 0, slots := 0, locals := 62 } (mPc D cT lo nb w ad [.int a1, .int a2, .int a3, .int a4, .int a5, .int a6, .int a7, .int a8, .int a9]) (mQz D cT lo nb w w ad (f_X12_areApart a1 a2 a3 a4 a5 a6 a7 a8 a9)) 0 0 (fun q => lo ≤ q) := by
  obtain ⟨r, h⟩ : ∃ r, f_X12_areApart a1 a2 a3 a4 a5 a6 a7 a8 a9 = r := ⟨_, rfl⟩
  rw [h]
  unfold f_X12_areApart at h
  refine x_met (lv := [(0, .int a1), (1, .int a2), (2, .int a3), (3, .int a4), (4, .int a5), (5, .int a6), (6, .int a7), (7, .int a8), (8, .int a9)]) (by decide +kernel) (Nat.le_of_ble_eq_true rfl) rfl ?_
  intro p e s m args below meth c ls F hr hlk hP hin hl
  have hx := F.1
  have hb := F.2.1
  have hS : va_S (fun q => lo ≤ q) s.heap s.heap [] := va_S.rf
  refine lv_iload hx hb dX12_areApart_0 (lv_at hl 8 rfl) ?_
  refine x_goes (x_runS (As := [.int a9]) (rest := []) F hP hS (c_X12_along l D cT lo nb w ad a9) cw_X12_along lk_X12_214 st_X12_along ⟨rfl, rfl, Nat.le_of_ble_eq_true rfl, Nat.le_of_ble_eq_true rfl⟩ hl.1 rfl (Nat.le_of_ble_eq_true rfl) dX12_areApart_2 ⟨Nat.zero_le _, Nat.zero_le _⟩) hS (fun H locs hP hS _ => ?_)
  refine lv_istore (lv' := [(9, .int (f_X12_along a9)), (0, .int a1), (1, .int a2), (2, .int a3), (3, .int a4), (4, .int a5), (5, .int a6), (6, .int a7), (7, .int a8), (8, .int a9)]) hx hb dX12_areApart_5 hl (Nat.le_of_ble_eq_true rfl) rfl (fun ls hl => ?_)
  refine lv_iload hx hb dX12_areApart_7 (lv_at hl 9 rfl) ?_
  refine x_goes (x_runS (As := [.int a9]) (rest := []) F hP hS (c_X12_across l D cT lo nb w ad a9) cw_X12_across lk_X12_225 st_X12_across ⟨rfl, rfl, Nat.le_of_ble_eq_true rfl, Nat.le_of_ble_eq_true rfl⟩ hl.1 rfl (Nat.le_of_ble_eq_true rfl) dX12_areApart_9 ⟨Nat.zero_le _, Nat.zero_le _⟩) hS (fun H locs hP hS _ => ?_)
  refine lv_istore (lv' := [(10, .int (f_X12_across a9)), (9, .int (f_X12_along a9)), (0, .int a1), (1, .int a2), (2, .int a3), (3, .int a4), (4, .int a5), (5, .int a6), (6, .int a7), (7, .int a8), (8, .int a9)]) hx hb dX12_areApart_12 hl (Nat.le_of_ble_eq_true rfl) rfl (fun ls hl => ?_)
  refine lv_iload_n hx hb dX12_areApart_14 rfl (lv_at hl 2 rfl) ?_
  refine lv_iload hx hb dX12_areApart_15 (lv_at hl 1 rfl) ?_
  refine lv_imul hx hb dX12_areApart_17 ?_
  refine lv_iload_n hx hb dX12_areApart_18 rfl (lv_at hl 3 rfl) ?_
  refine lv_iload hx hb dX12_areApart_19 (lv_at hl 0 rfl) ?_
  refine lv_imul hx hb dX12_areApart_21 ?_
  refine lv_iadd hx hb dX12_areApart_22 ?_
  refine x_goes (x_runS (As := [.int ((a1 * (f_X12_along a9)) + (a2 * (f_X12_across a9)))]) (rest := []) F hP hS (c_X12_amount l D cT lo nb w ad ((a1 * (f_X12_along a9)) + (a2 * (f_X12_across a9)))) cw_X12_amount lk_X12_263 st_X12_amount ⟨rfl, rfl, Nat.le_of_ble_eq_true rfl, Nat.le_of_ble_eq_true rfl⟩ hl.1 rfl (Nat.le_of_ble_eq_true rfl) dX12_areApart_23 ⟨Nat.zero_le _, Nat.zero_le _⟩) hS (fun H locs hP hS _ => ?_)
  refine y_let h (fun v_26 h => ?_)
  refine lv_istore (lv' := [(11, .int v_26), (10, .int (f_X12_across a9)), (9, .int (f_X12_along a9)), (0, .int a1), (1, .int a2), (2, .int a3), (3, .int a4), (4, .int a5), (5, .int a6), (6, .int a7), (7, .int a8), (8, .int a9)]) hx hb dX12_areApart_26 hl (Nat.le_of_ble_eq_true rfl) rfl (fun ls hl => ?_)
  refine lv_iload_n hx hb dX12_areApart_28 rfl (lv_at hl 6 rfl) ?_
  refine lv_iload_n hx hb dX12_areApart_29 rfl (lv_at hl 5 rfl) ?_
  refine x_goes (x_runS (As := [.int a3]) (rest := [.int a4]) F hP hS (c_X12_along l D cT lo nb w ad a3) cw_X12_along lk_X12_214 st_X12_along ⟨rfl, rfl, Nat.le_of_ble_eq_true rfl, Nat.le_of_ble_eq_true rfl⟩ hl.1 rfl (Nat.le_of_ble_eq_true rfl) dX12_areApart_30 ⟨Nat.zero_le _, Nat.zero_le _⟩) hS (fun H locs hP hS _ => ?_)
  refine lv_iload hx hb dX12_areApart_33 (lv_at hl 2 rfl) ?_
  refine lv_imul hx hb dX12_areApart_35 ?_
  refine lv_iload_n hx hb dX12_areApart_36 rfl (lv_at hl 5 rfl) ?_
  refine x_goes (x_runS (As := [.int a3]) (rest := [.int ((f_X12_along a3) * (f_X12_along a9)), .int a4]) F hP hS (c_X12_across l D cT lo nb w ad a3) cw_X12_across lk_X12_225 st_X12_across ⟨rfl, rfl, Nat.le_of_ble_eq_true rfl, Nat.le_of_ble_eq_true rfl⟩ hl.1 rfl (Nat.le_of_ble_eq_true rfl) dX12_areApart_37 ⟨Nat.zero_le _, Nat.zero_le _⟩) hS (fun H locs hP hS _ => ?_)
  refine lv_iload hx hb dX12_areApart_40 (lv_at hl 1 rfl) ?_
  refine lv_imul hx hb dX12_areApart_42 ?_
  refine lv_iadd hx hb dX12_areApart_43 ?_
  refine x_goes (x_runS (As := [.int (((f_X12_along a3) * (f_X12_along a9)) + ((f_X12_across a3) * (f_X12_across a9)))]) (rest := [.int a4]) F hP hS (c_X12_amount l D cT lo nb w ad (((f_X12_along a3) * (f_X12_along a9)) + ((f_X12_across a3) * (f_X12_across a9)))) cw_X12_amount lk_X12_263 st_X12_amount ⟨rfl, rfl, Nat.le_of_ble_eq_true rfl, Nat.le_of_ble_eq_true rfl⟩ hl.1 rfl (Nat.le_of_ble_eq_true rfl) dX12_areApart_44 ⟨Nat.zero_le _, Nat.zero_le _⟩) hS (fun H locs hP hS _ => ?_)
  refine lv_imul hx hb dX12_areApart_47 ?_
  refine lv_iload hx hb dX12_areApart_48 (lv_at hl 7 rfl) ?_
  refine lv_iload_n hx hb dX12_areApart_50 rfl (lv_at hl 5 rfl) ?_
  refine x_goes (x_runS (As := [.int a3]) (rest := [.int a5, .int (a4 * (f_X12_amount (((f_X12_along a3) * (f_X12_along a9)) + ((f_X12_across a3) * (f_X12_across a9)))))]) F hP hS (c_X12_across l D cT lo nb w ad a3) cw_X12_across lk_X12_225 st_X12_across ⟨rfl, rfl, Nat.le_of_ble_eq_true rfl, Nat.le_of_ble_eq_true rfl⟩ hl.1 rfl (Nat.le_of_ble_eq_true rfl) dX12_areApart_51 ⟨Nat.zero_le _, Nat.zero_le _⟩) hS (fun H locs hP hS _ => ?_)
  refine lv_ineg hx hb dX12_areApart_54 ?_
  refine lv_iload hx hb dX12_areApart_55 (lv_at hl 2 rfl) ?_
  refine lv_imul hx hb dX12_areApart_57 ?_
  refine lv_iload_n hx hb dX12_areApart_58 rfl (lv_at hl 5 rfl) ?_
  refine x_goes (x_runS (As := [.int a3]) (rest := [.int ((-(f_X12_across a3)) * (f_X12_along a9)), .int a5, .int (a4 * (f_X12_amount (((f_X12_along a3) * (f_X12_along a9)) + ((f_X12_across a3) * (f_X12_across a9)))))]) F hP hS (c_X12_along l D cT lo nb w ad a3) cw_X12_along lk_X12_214 st_X12_along ⟨rfl, rfl, Nat.le_of_ble_eq_true rfl, Nat.le_of_ble_eq_true rfl⟩ hl.1 rfl (Nat.le_of_ble_eq_true rfl) dX12_areApart_59 ⟨Nat.zero_le _, Nat.zero_le _⟩) hS (fun H locs hP hS _ => ?_)
  refine lv_iload hx hb dX12_areApart_62 (lv_at hl 1 rfl) ?_
  refine lv_imul hx hb dX12_areApart_64 ?_
  refine lv_iadd hx hb dX12_areApart_65 ?_
  refine x_goes (x_runS (As := [.int (((-(f_X12_across a3)) * (f_X12_along a9)) + ((f_X12_along a3) * (f_X12_across a9)))]) (rest := [.int a5, .int (a4 * (f_X12_amount (((f_X12_along a3) * (f_X12_along a9)) + ((f_X12_across a3) * (f_X12_across a9)))))]) F hP hS (c_X12_amount l D cT lo nb w ad (((-(f_X12_across a3)) * (f_X12_along a9)) + ((f_X12_along a3) * (f_X12_across a9)))) cw_X12_amount lk_X12_263 st_X12_amount ⟨rfl, rfl, Nat.le_of_ble_eq_true rfl, Nat.le_of_ble_eq_true rfl⟩ hl.1 rfl (Nat.le_of_ble_eq_true rfl) dX12_areApart_66 ⟨Nat.zero_le _, Nat.zero_le _⟩) hS (fun H locs hP hS _ => ?_)
  refine lv_imul hx hb dX12_areApart_69 ?_
  refine lv_iadd hx hb dX12_areApart_70 ?_
  refine y_let h (fun v_71 h => ?_)
  refine lv_istore (lv' := [(12, .int v_71), (11, .int v_26), (10, .int (f_X12_across a9)), (9, .int (f_X12_along a9)), (0, .int a1), (1, .int a2), (2, .int a3), (3, .int a4), (4, .int a5), (5, .int a6), (6, .int a7), (7, .int a8), (8, .int a9)]) hx hb dX12_areApart_71 hl (Nat.le_of_ble_eq_true rfl) rfl (fun ls hl => ?_)
  refine lv_iload hx hb dX12_areApart_73 (lv_at hl 10 rfl) ?_
  refine lv_iload hx hb dX12_areApart_75 (lv_at hl 9 rfl) ?_
  refine x_goes (x_runS (As := [.int a6]) (rest := [.int a7]) F hP hS (c_X12_along l D cT lo nb w ad a6) cw_X12_along lk_X12_214 st_X12_along ⟨rfl, rfl, Nat.le_of_ble_eq_true rfl, Nat.le_of_ble_eq_true rfl⟩ hl.1 rfl (Nat.le_of_ble_eq_true rfl) dX12_areApart_77 ⟨Nat.zero_le _, Nat.zero_le _⟩) hS (fun H locs hP hS _ => ?_)
  refine lv_iload hx hb dX12_areApart_80 (lv_at hl 3 rfl) ?_
  refine lv_imul hx hb dX12_areApart_82 ?_
  refine lv_iload hx hb dX12_areApart_83 (lv_at hl 9 rfl) ?_
  refine x_goes (x_runS (As := [.int a6]) (rest := [.int ((f_X12_along a6) * (f_X12_along a9)), .int a7]) F hP hS (c_X12_across l D cT lo nb w ad a6) cw_X12_across lk_X12_225 st_X12_across ⟨rfl, rfl, Nat.le_of_ble_eq_true rfl, Nat.le_of_ble_eq_true rfl⟩ hl.1 rfl (Nat.le_of_ble_eq_true rfl) dX12_areApart_85 ⟨Nat.zero_le _, Nat.zero_le _⟩) hS (fun H locs hP hS _ => ?_)
  refine lv_iload hx hb dX12_areApart_88 (lv_at hl 2 rfl) ?_
  refine lv_imul hx hb dX12_areApart_90 ?_
  refine lv_iadd hx hb dX12_areApart_91 ?_
  refine x_goes (x_runS (As := [.int (((f_X12_along a6) * (f_X12_along a9)) + ((f_X12_across a6) * (f_X12_across a9)))]) (rest := [.int a7]) F hP hS (c_X12_amount l D cT lo nb w ad (((f_X12_along a6) * (f_X12_along a9)) + ((f_X12_across a6) * (f_X12_across a9)))) cw_X12_amount lk_X12_263 st_X12_amount ⟨rfl, rfl, Nat.le_of_ble_eq_true rfl, Nat.le_of_ble_eq_true rfl⟩ hl.1 rfl (Nat.le_of_ble_eq_true rfl) dX12_areApart_92 ⟨Nat.zero_le _, Nat.zero_le _⟩) hS (fun H locs hP hS _ => ?_)
  refine lv_imul hx hb dX12_areApart_95 ?_
  refine lv_iload hx hb dX12_areApart_96 (lv_at hl 11 rfl) ?_
  refine lv_iload hx hb dX12_areApart_98 (lv_at hl 9 rfl) ?_
  refine x_goes (x_runS (As := [.int a6]) (rest := [.int a8, .int (a7 * (f_X12_amount (((f_X12_along a6) * (f_X12_along a9)) + ((f_X12_across a6) * (f_X12_across a9)))))]) F hP hS (c_X12_across l D cT lo nb w ad a6) cw_X12_across lk_X12_225 st_X12_across ⟨rfl, rfl, Nat.le_of_ble_eq_true rfl, Nat.le_of_ble_eq_true rfl⟩ hl.1 rfl (Nat.le_of_ble_eq_true rfl) dX12_areApart_100 ⟨Nat.zero_le _, Nat.zero_le _⟩) hS (fun H locs hP hS _ => ?_)
  refine lv_ineg hx hb dX12_areApart_103 ?_
  refine lv_iload hx hb dX12_areApart_104 (lv_at hl 3 rfl) ?_
  refine lv_imul hx hb dX12_areApart_106 ?_
  refine lv_iload hx hb dX12_areApart_107 (lv_at hl 9 rfl) ?_
  refine x_goes (x_runS (As := [.int a6]) (rest := [.int ((-(f_X12_across a6)) * (f_X12_along a9)), .int a8, .int (a7 * (f_X12_amount (((f_X12_along a6) * (f_X12_along a9)) + ((f_X12_across a6) * (f_X12_across a9)))))]) F hP hS (c_X12_along l D cT lo nb w ad a6) cw_X12_along lk_X12_214 st_X12_along ⟨rfl, rfl, Nat.le_of_ble_eq_true rfl, Nat.le_of_ble_eq_true rfl⟩ hl.1 rfl (Nat.le_of_ble_eq_true rfl) dX12_areApart_109 ⟨Nat.zero_le _, Nat.zero_le _⟩) hS (fun H locs hP hS _ => ?_)
  refine lv_iload hx hb dX12_areApart_112 (lv_at hl 2 rfl) ?_
  refine lv_imul hx hb dX12_areApart_114 ?_
  refine lv_iadd hx hb dX12_areApart_115 ?_
  refine x_goes (x_runS (As := [.int (((-(f_X12_across a6)) * (f_X12_along a9)) + ((f_X12_along a6) * (f_X12_across a9)))]) (rest := [.int a8, .int (a7 * (f_X12_amount (((f_X12_along a6) * (f_X12_along a9)) + ((f_X12_across a6) * (f_X12_across a9)))))]) F hP hS (c_X12_amount l D cT lo nb w ad (((-(f_X12_across a6)) * (f_X12_along a9)) + ((f_X12_along a6) * (f_X12_across a9)))) cw_X12_amount lk_X12_263 st_X12_amount ⟨rfl, rfl, Nat.le_of_ble_eq_true rfl, Nat.le_of_ble_eq_true rfl⟩ hl.1 rfl (Nat.le_of_ble_eq_true rfl) dX12_areApart_116 ⟨Nat.zero_le _, Nat.zero_le _⟩) hS (fun H locs hP hS _ => ?_)
  refine lv_imul hx hb dX12_areApart_119 ?_
  refine lv_iadd hx hb dX12_areApart_120 ?_
  refine y_let h (fun v_121 h => ?_)
  refine lv_istore (lv' := [(13, .int v_121), (12, .int v_71), (11, .int v_26), (10, .int (f_X12_across a9)), (9, .int (f_X12_along a9)), (0, .int a1), (1, .int a2), (2, .int a3), (3, .int a4), (4, .int a5), (5, .int a6), (6, .int a7), (7, .int a8), (8, .int a9)]) hx hb dX12_areApart_121 hl (Nat.le_of_ble_eq_true rfl) rfl (fun ls hl => ?_)
  refine lv_iload hx hb dX12_areApart_123 (lv_at hl 2 rfl) ?_
  refine lv_iload hx hb dX12_areApart_125 (lv_at hl 1 rfl) ?_
  refine lv_iload hx hb dX12_areApart_127 (lv_at hl 0 rfl) ?_
  refine lv_iadd hx hb dX12_areApart_129 ?_
  refine lv_icmp_lt (tgt := 137) hx hb dX12_areApart_130 (by decide) (fun hc => ?_) (fun hc => ?_)
  · have h := if_t _ hc h
    refine lv_iconst (v := 0) hx hb dX12_areApart_137 ic_0 ?_
    exact y_zretP h F hr hP hS hlk rfl dX12_areApart_138
  · have h := if_f _ hc h
    refine lv_iconst (v := 1) hx hb dX12_areApart_133 ic_1 ?_
    refine lv_goto (tgt := 138) hx hb dX12_areApart_134 (by decide) ?_
    exact y_zretP h F hr hP hS hlk rfl dX12_areApart_138
def f_X12_touch (a1 : Int32) (a2 : Int32) (a3 : Int32) (a4 : Int32) (a5 : Int32) (a6 : Int32) (a7 : Int32) (a8 : Int32) : Int32 :=
q_lt (f_X12_areApart a1 a2 a3 a4 a5 a6 a7 a8 a3) (fun v_16 =>
q_lt (v_16 ||| (f_X12_areApart a1 a2 a3 a4 a5 a6 a7 a8 (a3 + (9 : Int32)))) (fun v_40 =>
q_lt (v_40 ||| (f_X12_areApart a1 a2 a3 a4 a5 a6 a7 a8 a6)) (fun v_62 =>
q_lt (v_62 ||| (f_X12_areApart a1 a2 a3 a4 a5 a6 a7 a8 (a6 + (9 : Int32)))) (fun v_87 =>
if v_87 = 0 then
(1 : Int32)
else
(0 : Int32)))))
set_option maxRecDepth 100000 in
set_option maxHeartbeats 4000000 in
theorem c_X12_touch (l : Launch) (D : va_G) (cT : Nat → ClassId) (lo nb : Nat) (w : Wd) (ad : Nat → Nat) (a1 : Int32) (a2 : Int32) (a3 : Int32) (a4 : Int32) (a5 : Int32) (a6 : Int32) (a7 : Int32) (a8 : Int32) : Met l yX12_touch (.code yX12_touch cX12_touch 9 (some .boolean) :: TW) { frames := 4, cells := 0, slots := 0, locals := 95 } (mPc D cT lo nb w ad [.int a1, .int a2, .int a3, .int a4, .int a5, .int a6, .int a7, .int a8]) (mQz D cT lo nb w w ad (f_X12_touch a1 a2 a3 a4 a5 a6 a7 a8)) 0 0 (fun q => lo ≤ q) := by
  obtain ⟨r, h⟩ : ∃ r, f_X12_touch a1 a2 a3 a4 a5 a6 a7 a8 = r := ⟨_, rfl⟩
  rw [h]
  unfold f_X12_touch at h
  refine x_met (lv := [(0, .int a1), (1, .int a2), (2, .int a3), (3, .int a4), (4, .int a5), (5, .int a6), (6, .int a7), (7, .int a8)]) (by decide +kernel) (Nat.le_of_ble_eq_true rfl) rfl ?_
  intro p e s m args below meth c ls F hr hlk hP hin hl
  have hx := F.1
  have hb := F.2.1
  have hS : va_S (fun q => lo ≤ q) s.heap s.heap [] := va_S.rf
  refine lv_iload_n hx hb dX12_touch_0 rfl (lv_at hl 0 rfl) ?_
  refine lv_iload_n hx hb dX12_touch_1 rfl (lv_at hl 1 rfl) ?_
  refine lv_iload_n hx hb dX12_touch_2 rfl (lv_at hl 2 rfl) ?_
  refine lv_iload_n hx hb dX12_touch_3 rfl (lv_at hl 3 rfl) ?_
  refine lv_iload hx hb dX12_touch_4 (lv_at hl 4 rfl) ?_
  refine lv_iload hx hb dX12_touch_6 (lv_at hl 5 rfl) ?_
  refine lv_iload hx hb dX12_touch_8 (lv_at hl 6 rfl) ?_
  refine lv_iload hx hb dX12_touch_10 (lv_at hl 7 rfl) ?_
  refine lv_iload_n hx hb dX12_touch_12 rfl (lv_at hl 2 rfl) ?_
  refine x_goesZ (x_runS (As := [.int a1, .int a2, .int a3, .int a4, .int a5, .int a6, .int a7, .int a8, .int a3]) (rest := []) F hP hS (c_X12_areApart l D cT lo nb w ad a1 a2 a3 a4 a5 a6 a7 a8 a3) cw_X12_areApart lk_X12_266 st_X12_areApart ⟨rfl, rfl, Nat.le_of_ble_eq_true rfl, Nat.le_of_ble_eq_true rfl⟩ hl.1 rfl (Nat.le_of_ble_eq_true rfl) dX12_touch_13 ⟨Nat.zero_le _, Nat.zero_le _⟩) hS (fun H locs hz_13 hP hS _ => ?_)
  refine y_let h (fun v_16 h => ?_)
  refine lv_istore (lv' := [(8, .int v_16), (0, .int a1), (1, .int a2), (2, .int a3), (3, .int a4), (4, .int a5), (5, .int a6), (6, .int a7), (7, .int a8)]) hx hb dX12_touch_16 hl (Nat.le_of_ble_eq_true rfl) rfl (fun ls hl => ?_)
  refine lv_iload hx hb dX12_touch_18 (lv_at hl 0 rfl) ?_
  refine lv_iload_n hx hb dX12_touch_20 rfl (lv_at hl 1 rfl) ?_
  refine lv_iload_n hx hb dX12_touch_21 rfl (lv_at hl 2 rfl) ?_
  refine lv_iload_n hx hb dX12_touch_22 rfl (lv_at hl 3 rfl) ?_
  refine lv_iload_n hx hb dX12_touch_23 rfl (lv_at hl 4 rfl) ?_
  refine lv_iload hx hb dX12_touch_24 (lv_at hl 5 rfl) ?_
  refine lv_iload hx hb dX12_touch_26 (lv_at hl 6 rfl) ?_
  refine lv_iload hx hb dX12_touch_28 (lv_at hl 7 rfl) ?_
  refine lv_iload hx hb dX12_touch_30 (lv_at hl 8 rfl) ?_
  refine lv_iload_n hx hb dX12_touch_32 rfl (lv_at hl 3 rfl) ?_
  refine lv_bipush (v := 9) hx hb dX12_touch_33 ib_9 ?_
  refine lv_iadd hx hb dX12_touch_35 ?_
  refine x_goesZ (x_runS (As := [.int a1, .int a2, .int a3, .int a4, .int a5, .int a6, .int a7, .int a8, .int (a3 + (9 : Int32))]) (rest := [.int v_16]) F hP hS (c_X12_areApart l D cT lo nb w ad a1 a2 a3 a4 a5 a6 a7 a8 (a3 + (9 : Int32))) cw_X12_areApart lk_X12_266 st_X12_areApart ⟨rfl, rfl, Nat.le_of_ble_eq_true rfl, Nat.le_of_ble_eq_true rfl⟩ hl.1 rfl (Nat.le_of_ble_eq_true rfl) dX12_touch_36 ⟨Nat.zero_le _, Nat.zero_le _⟩) hS (fun H locs hz_36 hP hS _ => ?_)
  refine lv_ior hx hb dX12_touch_39 ?_
  refine y_let h (fun v_40 h => ?_)
  refine lv_istore (lv' := [(8, .int v_40), (0, .int a1), (1, .int a2), (2, .int a3), (3, .int a4), (4, .int a5), (5, .int a6), (6, .int a7), (7, .int a8)]) hx hb dX12_touch_40 hl (Nat.le_of_ble_eq_true rfl) rfl (fun ls hl => ?_)
  refine lv_iload hx hb dX12_touch_42 (lv_at hl 0 rfl) ?_
  refine lv_iload_n hx hb dX12_touch_44 rfl (lv_at hl 1 rfl) ?_
  refine lv_iload_n hx hb dX12_touch_45 rfl (lv_at hl 2 rfl) ?_
  refine lv_iload_n hx hb dX12_touch_46 rfl (lv_at hl 3 rfl) ?_
  refine lv_iload_n hx hb dX12_touch_47 rfl (lv_at hl 4 rfl) ?_
  refine lv_iload hx hb dX12_touch_48 (lv_at hl 5 rfl) ?_
  refine lv_iload hx hb dX12_touch_50 (lv_at hl 6 rfl) ?_
  refine lv_iload hx hb dX12_touch_52 (lv_at hl 7 rfl) ?_
  refine lv_iload hx hb dX12_touch_54 (lv_at hl 8 rfl) ?_
  refine lv_iload hx hb dX12_touch_56 (lv_at hl 6 rfl) ?_
  refine x_goesZ (x_runS (As := [.int a1, .int a2, .int a3, .int a4, .int a5, .int a6, .int a7, .int a8, .int a6]) (rest := [.int v_40]) F hP hS (c_X12_areApart l D cT lo nb w ad a1 a2 a3 a4 a5 a6 a7 a8 a6) cw_X12_areApart lk_X12_266 st_X12_areApart ⟨rfl, rfl, Nat.le_of_ble_eq_true rfl, Nat.le_of_ble_eq_true rfl⟩ hl.1 rfl (Nat.le_of_ble_eq_true rfl) dX12_touch_58 ⟨Nat.zero_le _, Nat.zero_le _⟩) hS (fun H locs hz_58 hP hS _ => ?_)
  refine lv_ior hx hb dX12_touch_61 ?_
  refine y_let h (fun v_62 h => ?_)
  refine lv_istore (lv' := [(8, .int v_62), (0, .int a1), (1, .int a2), (2, .int a3), (3, .int a4), (4, .int a5), (5, .int a6), (6, .int a7), (7, .int a8)]) hx hb dX12_touch_62 hl (Nat.le_of_ble_eq_true rfl) rfl (fun ls hl => ?_)
  refine lv_iload hx hb dX12_touch_64 (lv_at hl 0 rfl) ?_
  refine lv_iload_n hx hb dX12_touch_66 rfl (lv_at hl 1 rfl) ?_
  refine lv_iload_n hx hb dX12_touch_67 rfl (lv_at hl 2 rfl) ?_
  refine lv_iload_n hx hb dX12_touch_68 rfl (lv_at hl 3 rfl) ?_
  refine lv_iload_n hx hb dX12_touch_69 rfl (lv_at hl 4 rfl) ?_
  refine lv_iload hx hb dX12_touch_70 (lv_at hl 5 rfl) ?_
  refine lv_iload hx hb dX12_touch_72 (lv_at hl 6 rfl) ?_
  refine lv_iload hx hb dX12_touch_74 (lv_at hl 7 rfl) ?_
  refine lv_iload hx hb dX12_touch_76 (lv_at hl 8 rfl) ?_
  refine lv_iload hx hb dX12_touch_78 (lv_at hl 6 rfl) ?_
  refine lv_bipush (v := 9) hx hb dX12_touch_80 ib_9 ?_
  refine lv_iadd hx hb dX12_touch_82 ?_
  refine x_goesZ (x_runS (As := [.int a1, .int a2, .int a3, .int a4, .int a5, .int a6, .int a7, .int a8, .int (a6 + (9 : Int32))]) (rest := [.int v_62]) F hP hS (c_X12_areApart l D cT lo nb w ad a1 a2 a3 a4 a5 a6 a7 a8 (a6 + (9 : Int32))) cw_X12_areApart lk_X12_266 st_X12_areApart ⟨rfl, rfl, Nat.le_of_ble_eq_true rfl, Nat.le_of_ble_eq_true rfl⟩ hl.1 rfl (Nat.le_of_ble_eq_true rfl) dX12_touch_83 ⟨Nat.zero_le _, Nat.zero_le _⟩) hS (fun H locs hz_83 hP hS _ => ?_)
  refine lv_ior hx hb dX12_touch_86 ?_
  refine y_let h (fun v_87 h => ?_)
  refine lv_istore (lv' := [(8, .int v_87), (0, .int a1), (1, .int a2), (2, .int a3), (3, .int a4), (4, .int a5), (5, .int a6), (6, .int a7), (7, .int a8)]) hx hb dX12_touch_87 hl (Nat.le_of_ble_eq_true rfl) rfl (fun ls hl => ?_)
  refine lv_iload hx hb dX12_touch_89 (lv_at hl 0 rfl) ?_
  refine lv_if_ne (tgt := 98) hx hb dX12_touch_91 (by decide) (fun hc => ?_) (fun hc => ?_)
  · have h := if_f _ hc h
    refine lv_iconst (v := 0) hx hb dX12_touch_98 ic_0 ?_
    exact y_zretP h F hr hP hS hlk rfl dX12_touch_99
  · have h := if_t _ hc h
    refine lv_iconst (v := 1) hx hb dX12_touch_94 ic_1 ?_
    refine lv_goto (tgt := 99) hx hb dX12_touch_95 (by decide) ?_
    exact y_zretP h F hr hP hS hlk rfl dX12_touch_99
def f_X12_touchesBox (w : Wd) (a1 : Int32) (a2 : Int32) (a3 n3 : Nat) (a4 : Int32) (a5 : Int32) : Option Int32 :=
q_lt ((4 : Int32) * a4) (fun v_4 =>
q_ld w a3 n3 v_4 (fun v_11 =>
q_ld w a3 n3 (v_4 + (2 : Int32)) (fun v_17 =>
q_gt w 63 31 (fun v_22 =>
q_lt (((65 : Int32) * (v_11 + v_17)) - ((2 : Int32) * v_22)) (fun v_27 =>
q_ld w a3 n3 (v_4 + (1 : Int32)) (fun v_36 =>
q_ld w a3 n3 (v_4 + (3 : Int32)) (fun v_42 =>
q_gt w 63 32 (fun v_47 =>
q_lt (((65 : Int32) * (v_36 + v_42)) - ((2 : Int32) * v_47)) (fun v_52 =>
q_ld w a3 n3 (v_4 + (2 : Int32)) (fun v_59 =>
q_ld w a3 n3 v_4 (fun v_63 =>
q_lt ((v_59 - v_63) + ((2 : Int32) * a5)) (fun v_70 =>
q_ld w a3 n3 (v_4 + (3 : Int32)) (fun v_77 =>
q_ld w a3 n3 (v_4 + (1 : Int32)) (fun v_83 =>
q_lt ((v_77 - v_83) + ((2 : Int32) * a5)) (fun v_90 =>
q_gt w 63 33 (fun v_97 =>
q_bo (f_X12_halfLong w a1 a2) (fun v_104 =>
q_bo (f_X12_halfBroad w a1 a2) (fun v_112 =>
some (f_X12_touch v_27 v_52 v_97 ((2 : Int32) * v_104) ((2 : Int32) * v_112) (0 : Int32) v_70 v_90)))))))))))))))))))
set_option maxRecDepth 100000 in
set_option maxHeartbeats 4000000 in
theorem c_X12_touchesBox (l : Launch) (D : va_G) (cT : Nat → ClassId) (lo : Nat) (w : Wd) (ad : Nat → Nat) (a1 : Int32) (a2 : Int32) (a3 n3 : Nat) (hk3 : kt a3 = (1, n3)) (ha3 : wA w a3 = 2) (a4 : Int32) (a5 : Int32) (r : Int32) (h : f_X12_touchesBox w a1 a2 a3 n3 a4 a5 = some r) : Met l yX12_touchesBox (.code yX12_touchesBox cX12_touchesBox 11 (some .boolean) :: TW) { frames := 5, cells := 0, slots := 0, locals := 123 } (mPc D cT lo NB w ad [.ref (ad 63), .int a1, .int a2, .ref (ad a3), .int a4, .int a5]) (mQz D cT lo NB w w ad r) 0 0 (fun q => lo ≤ q) := by
  unfold f_X12_touchesBox at h
  refine x_met (lv := [(0, .ref (ad 63)), (1, .int a1), (2, .int a2), (3, .ref (ad a3)), (4, .int a4), (5, .int a5)]) (by decide +kernel) (Nat.le_of_ble_eq_true rfl) rfl ?_
  intro p e s m args below meth c ls F hr hlk hP hin hl
  have hx := F.1
  have hb := F.2.1
  have hS : va_S (fun q => lo ≤ q) s.heap s.heap [] := va_S.rf
  refine lv_iconst (v := 4) hx hb dX12_touchesBox_0 ic_4 ?_
  refine lv_iload hx hb dX12_touchesBox_1 (lv_at hl 4 rfl) ?_
  refine lv_imul hx hb dX12_touchesBox_3 ?_
  refine y_let h (fun v_4 h => ?_)
  refine lv_istore (lv' := [(6, .int v_4), (0, .ref (ad 63)), (1, .int a1), (2, .int a2), (3, .ref (ad a3)), (4, .int a4), (5, .int a5)]) hx hb dX12_touchesBox_4 hl (Nat.le_of_ble_eq_true rfl) rfl (fun ls hl => ?_)
  refine lv_bipush (v := 65) hx hb dX12_touchesBox_6 ib_65 ?_
  refine lv_aload_n hx hb dX12_touchesBox_8 rfl (lv_at hl 4 rfl) ?_
  refine lv_iload hx hb dX12_touchesBox_9 (lv_at hl 0 rfl) ?_
  refine y_iald h F hP hk3 (n2 ha3) dX12_touchesBox_11 (fun v_11 h => ?_)
  refine lv_aload_n hx hb dX12_touchesBox_12 rfl (lv_at hl 4 rfl) ?_
  refine lv_iload hx hb dX12_touchesBox_13 (lv_at hl 0 rfl) ?_
  refine lv_iconst (v := 2) hx hb dX12_touchesBox_15 ic_2 ?_
  refine lv_iadd hx hb dX12_touchesBox_16 ?_
  refine y_iald h F hP hk3 (n2 ha3) dX12_touchesBox_17 (fun v_17 h => ?_)
  refine lv_iadd hx hb dX12_touchesBox_18 ?_
  refine lv_imul hx hb dX12_touchesBox_19 ?_
  refine lv_iconst (v := 2) hx hb dX12_touchesBox_20 ic_2 ?_
  refine lv_aload_n hx hb dX12_touchesBox_21 rfl (lv_at hl 1 rfl) ?_
  refine y_geti h F hP k_63 (n2 (hP.al 63 rfl)) fl_X12_270 rfl dX12_touchesBox_22 (fun v_22 h => ?_)
  refine lv_imul hx hb dX12_touchesBox_25 ?_
  refine lv_isub hx hb dX12_touchesBox_26 ?_
  refine y_let h (fun v_27 h => ?_)
  refine lv_istore (lv' := [(7, .int v_27), (6, .int v_4), (0, .ref (ad 63)), (1, .int a1), (2, .int a2), (3, .ref (ad a3)), (4, .int a4), (5, .int a5)]) hx hb dX12_touchesBox_27 hl (Nat.le_of_ble_eq_true rfl) rfl (fun ls hl => ?_)
  refine lv_bipush (v := 65) hx hb dX12_touchesBox_29 ib_65 ?_
  refine lv_aload_n hx hb dX12_touchesBox_31 rfl (lv_at hl 5 rfl) ?_
  refine lv_iload hx hb dX12_touchesBox_32 (lv_at hl 1 rfl) ?_
  refine lv_iconst (v := 1) hx hb dX12_touchesBox_34 ic_1 ?_
  refine lv_iadd hx hb dX12_touchesBox_35 ?_
  refine y_iald h F hP hk3 (n2 ha3) dX12_touchesBox_36 (fun v_36 h => ?_)
  refine lv_aload_n hx hb dX12_touchesBox_37 rfl (lv_at hl 5 rfl) ?_
  refine lv_iload hx hb dX12_touchesBox_38 (lv_at hl 1 rfl) ?_
  refine lv_iconst (v := 3) hx hb dX12_touchesBox_40 ic_3 ?_
  refine lv_iadd hx hb dX12_touchesBox_41 ?_
  refine y_iald h F hP hk3 (n2 ha3) dX12_touchesBox_42 (fun v_42 h => ?_)
  refine lv_iadd hx hb dX12_touchesBox_43 ?_
  refine lv_imul hx hb dX12_touchesBox_44 ?_
  refine lv_iconst (v := 2) hx hb dX12_touchesBox_45 ic_2 ?_
  refine lv_aload_n hx hb dX12_touchesBox_46 rfl (lv_at hl 2 rfl) ?_
  refine y_geti h F hP k_63 (n2 (hP.al 63 rfl)) fl_X12_273 rfl dX12_touchesBox_47 (fun v_47 h => ?_)
  refine lv_imul hx hb dX12_touchesBox_50 ?_
  refine lv_isub hx hb dX12_touchesBox_51 ?_
  refine y_let h (fun v_52 h => ?_)
  refine lv_istore (lv' := [(8, .int v_52), (7, .int v_27), (6, .int v_4), (0, .ref (ad 63)), (1, .int a1), (2, .int a2), (3, .ref (ad a3)), (4, .int a4), (5, .int a5)]) hx hb dX12_touchesBox_52 hl (Nat.le_of_ble_eq_true rfl) rfl (fun ls hl => ?_)
  refine lv_aload_n hx hb dX12_touchesBox_54 rfl (lv_at hl 6 rfl) ?_
  refine lv_iload hx hb dX12_touchesBox_55 (lv_at hl 2 rfl) ?_
  refine lv_iconst (v := 2) hx hb dX12_touchesBox_57 ic_2 ?_
  refine lv_iadd hx hb dX12_touchesBox_58 ?_
  refine y_iald h F hP hk3 (n2 ha3) dX12_touchesBox_59 (fun v_59 h => ?_)
  refine lv_aload_n hx hb dX12_touchesBox_60 rfl (lv_at hl 6 rfl) ?_
  refine lv_iload hx hb dX12_touchesBox_61 (lv_at hl 2 rfl) ?_
  refine y_iald h F hP hk3 (n2 ha3) dX12_touchesBox_63 (fun v_63 h => ?_)
  refine lv_isub hx hb dX12_touchesBox_64 ?_
  refine lv_iconst (v := 2) hx hb dX12_touchesBox_65 ic_2 ?_
  refine lv_iload hx hb dX12_touchesBox_66 (lv_at hl 8 rfl) ?_
  refine lv_imul hx hb dX12_touchesBox_68 ?_
  refine lv_iadd hx hb dX12_touchesBox_69 ?_
  refine y_let h (fun v_70 h => ?_)
  refine lv_istore (lv' := [(9, .int v_70), (8, .int v_52), (7, .int v_27), (6, .int v_4), (0, .ref (ad 63)), (1, .int a1), (2, .int a2), (3, .ref (ad a3)), (4, .int a4), (5, .int a5)]) hx hb dX12_touchesBox_70 hl (Nat.le_of_ble_eq_true rfl) rfl (fun ls hl => ?_)
  refine lv_aload_n hx hb dX12_touchesBox_72 rfl (lv_at hl 7 rfl) ?_
  refine lv_iload hx hb dX12_touchesBox_73 (lv_at hl 3 rfl) ?_
  refine lv_iconst (v := 3) hx hb dX12_touchesBox_75 ic_3 ?_
  refine lv_iadd hx hb dX12_touchesBox_76 ?_
  refine y_iald h F hP hk3 (n2 ha3) dX12_touchesBox_77 (fun v_77 h => ?_)
  refine lv_aload_n hx hb dX12_touchesBox_78 rfl (lv_at hl 7 rfl) ?_
  refine lv_iload hx hb dX12_touchesBox_79 (lv_at hl 3 rfl) ?_
  refine lv_iconst (v := 1) hx hb dX12_touchesBox_81 ic_1 ?_
  refine lv_iadd hx hb dX12_touchesBox_82 ?_
  refine y_iald h F hP hk3 (n2 ha3) dX12_touchesBox_83 (fun v_83 h => ?_)
  refine lv_isub hx hb dX12_touchesBox_84 ?_
  refine lv_iconst (v := 2) hx hb dX12_touchesBox_85 ic_2 ?_
  refine lv_iload hx hb dX12_touchesBox_86 (lv_at hl 9 rfl) ?_
  refine lv_imul hx hb dX12_touchesBox_88 ?_
  refine lv_iadd hx hb dX12_touchesBox_89 ?_
  refine y_let h (fun v_90 h => ?_)
  refine lv_istore (lv' := [(10, .int v_90), (9, .int v_70), (8, .int v_52), (7, .int v_27), (6, .int v_4), (0, .ref (ad 63)), (1, .int a1), (2, .int a2), (3, .ref (ad a3)), (4, .int a4), (5, .int a5)]) hx hb dX12_touchesBox_90 hl (Nat.le_of_ble_eq_true rfl) rfl (fun ls hl => ?_)
  refine lv_iload hx hb dX12_touchesBox_92 (lv_at hl 3 rfl) ?_
  refine lv_iload hx hb dX12_touchesBox_94 (lv_at hl 2 rfl) ?_
  refine lv_aload_n hx hb dX12_touchesBox_96 rfl (lv_at hl 5 rfl) ?_
  refine y_geti h F hP k_63 (n2 (hP.al 63 rfl)) fl_X12_276 rfl dX12_touchesBox_97 (fun v_97 h => ?_)
  refine lv_iconst (v := 2) hx hb dX12_touchesBox_100 ic_2 ?_
  refine lv_aload_n hx hb dX12_touchesBox_101 rfl (lv_at hl 5 rfl) ?_
  refine lv_iload_n hx hb dX12_touchesBox_102 rfl (lv_at hl 6 rfl) ?_
  refine lv_iload_n hx hb dX12_touchesBox_103 rfl (lv_at hl 7 rfl) ?_
  obtain ⟨v_104, hc_104, h⟩ := bo_s h
  refine x_goes (x_runV (As := [.int a1, .int a2]) (rest := [.int (2 : Int32), .int v_97, .int v_52, .int v_27]) F hP hS (c_X12_halfLong l D cT lo w ad a1 a2 v_104 hc_104) cw_X12_halfLong lk_X12_279 vi_X12_halfLong k_63 (n2 (hP.al 63 rfl)) rfl ⟨rfl, rfl, Nat.le_of_ble_eq_true rfl, Nat.le_of_ble_eq_true rfl⟩ hl.1 rfl (Nat.le_of_ble_eq_true rfl) dX12_touchesBox_104 ⟨Nat.zero_le _, Nat.zero_le _⟩) hS (fun H locs hP hS _ => ?_)
  refine lv_imul hx hb dX12_touchesBox_107 ?_
  refine lv_iconst (v := 2) hx hb dX12_touchesBox_108 ic_2 ?_
  refine lv_aload_n hx hb dX12_touchesBox_109 rfl (lv_at hl 5 rfl) ?_
  refine lv_iload_n hx hb dX12_touchesBox_110 rfl (lv_at hl 6 rfl) ?_
  refine lv_iload_n hx hb dX12_touchesBox_111 rfl (lv_at hl 7 rfl) ?_
  obtain ⟨v_112, hc_112, h⟩ := bo_s h
  refine x_goes (x_runV (As := [.int a1, .int a2]) (rest := [.int (2 : Int32), .int ((2 : Int32) * v_104), .int v_97, .int v_52, .int v_27]) F hP hS (c_X12_halfBroad l D cT lo w ad a1 a2 v_112 hc_112) cw_X12_halfBroad lk_X12_282 vi_X12_halfBroad k_63 (n2 (hP.al 63 rfl)) rfl ⟨rfl, rfl, Nat.le_of_ble_eq_true rfl, Nat.le_of_ble_eq_true rfl⟩ hl.1 rfl (Nat.le_of_ble_eq_true rfl) dX12_touchesBox_112 ⟨Nat.zero_le _, Nat.zero_le _⟩) hS (fun H locs hP hS _ => ?_)
  refine lv_imul hx hb dX12_touchesBox_115 ?_
  refine lv_iconst (v := 0) hx hb dX12_touchesBox_116 ic_0 ?_
  refine lv_iload hx hb dX12_touchesBox_117 (lv_at hl 1 rfl) ?_
  refine lv_iload hx hb dX12_touchesBox_119 (lv_at hl 0 rfl) ?_
  refine x_goesZ (x_runS (As := [.int v_27, .int v_52, .int v_97, .int ((2 : Int32) * v_104), .int ((2 : Int32) * v_112), .int (0 : Int32), .int v_70, .int v_90]) (rest := []) F hP hS (c_X12_touch l D cT lo NB w ad v_27 v_52 v_97 ((2 : Int32) * v_104) ((2 : Int32) * v_112) (0 : Int32) v_70 v_90) cw_X12_touch lk_X12_285 st_X12_touch ⟨rfl, rfl, Nat.le_of_ble_eq_true rfl, Nat.le_of_ble_eq_true rfl⟩ hl.1 rfl (Nat.le_of_ble_eq_true rfl) dX12_touchesBox_121 ⟨Nat.zero_le _, Nat.zero_le _⟩) hS (fun H locs hz_121 hP hS _ => ?_)
  exact y_zretO h F hr hP hS hlk hz_121 dX12_touchesBox_124
def l_X12_meetsHouse_2 (a1 : Int32) (a2 : Int32) (w : Wd) : Nat → Int32 → Option Int32
  | 0, _ => none
  | n_2 + 1, x3_2l =>
    q_ld w 80 4 a1 (fun v_8 =>
    if v_8 ≤ x3_2l then
    some (0 : Int32)
    else
    q_ld w 65 20 a2 (fun v_17 =>
    q_bo (f_X12_footOf w a1 x3_2l) (fun v_21 =>
    q_jn (q_lt (x3_2l + (1 : Int32)) (fun v_44 =>
    l_X12_meetsHouse_2 a1 a2 w n_2 v_44)) (fun j_44 =>
    if v_17 ≤ v_21 then
    j_44
    else
    q_bo (f_X12_touchesBox w a1 x3_2l 64 80 a2 (0 : Int32)) (fun v_36 =>
    if v_36 = 0 then
    j_44
    else
    some (1 : Int32))))))
def f_X12_meetsHouse (w : Wd) (a1 : Int32) (a2 : Int32) : Option Int32 :=
l_X12_meetsHouse_2 a1 a2 w FU (0 : Int32)
set_option maxRecDepth 100000 in
set_option maxHeartbeats 4000000 in
theorem c_X12_meetsHouse (l : Launch) (D : va_G) (cT : Nat → ClassId) (lo : Nat) (w : Wd) (ad : Nat → Nat) (a1 : Int32) (a2 : Int32) (r : Int32) (h : f_X12_meetsHouse w a1 a2 = some r) : Met l yX12_meetsHouse (.code yX12_meetsHouse cX12_meetsHouse 4 (some .boolean) :: TW) { frames := 6, cells := 0, slots := 0, locals := 153 } (mPc D cT lo NB w ad [.ref (ad 63), .int a1, .int a2]) (mQz D cT lo NB w w ad r) 0 0 (fun q => lo ≤ q) := by
  unfold f_X12_meetsHouse at h
  refine x_met (lv := [(0, .ref (ad 63)), (1, .int a1), (2, .int a2)]) (by decide +kernel) (Nat.le_of_ble_eq_true rfl) rfl ?_
  intro p e s m args below meth c ls F hr hlk hP hin hl
  have hx := F.1
  have hb := F.2.1
  have hS : va_S (fun q => lo ≤ q) s.heap s.heap [] := va_S.rf
  refine lv_iconst (v := 0) hx hb dX12_meetsHouse_0 ic_0 ?_
  refine lv_istore_n (lv' := [(3, .int (0 : Int32)), (0, .ref (ad 63)), (1, .int a1), (2, .int a2)]) hx hb dX12_meetsHouse_1 rfl hl (Nat.le_of_ble_eq_true rfl) rfl (fun ls hl => ?_)
  have L_2 : ∀ (n_2 : Nat) (x3_2l : Int32), l_X12_meetsHouse_2 a1 a2 w n_2 x3_2l = some r → GG p l e { frames := 6, cells := 0, slots := 0, locals := 153 } s m args below meth c 0 0 (MQ below (mQz D cT lo NB w w ad r) args s 0 0 (fun q => lo ≤ q)) D cT lo NB 4 ad w 2 [(3, .int x3_2l), (0, .ref (ad 63)), (1, .int a1), (2, .int a2)] [] := by
    intro n_2
    induction n_2 with
    | zero =>
      intro x3_2l h
      exact absurd h (by unfold l_X12_meetsHouse_2; exact fun z => by cases z)
    | succ n_2 ih_2 =>
      intro x3_2l h H locs ls hP hS hl
      unfold l_X12_meetsHouse_2 at h
      refine lv_iload_n hx hb dX12_meetsHouse_2 rfl (lv_at hl 0 rfl) ?_
      refine lv_aload_n hx hb dX12_meetsHouse_3 rfl (lv_at hl 1 rfl) ?_
      refine x_getr F hP k_63 (hP.al 63 rfl) fl_X12_59 rfl r_63_21 dX12_meetsHouse_4 ?_
      refine lv_iload_n hx hb dX12_meetsHouse_7 rfl (lv_at hl 2 rfl) ?_
      refine y_iald h F hP k_80 (n2 (hP.al 80 rfl)) dX12_meetsHouse_8 (fun v_8 h => ?_)
      refine lv_icmp_ge (tgt := 50) hx hb dX12_meetsHouse_9 (by decide) (fun hc => ?_) (fun hc => ?_)
      · have h := if_t _ hc h
        refine lv_iconst (v := 0) hx hb dX12_meetsHouse_50 ic_0 ?_
        exact y_zretO h F hr hP hS hlk rfl dX12_meetsHouse_51
      · have h := if_f _ hc h
        refine lv_aload_n hx hb dX12_meetsHouse_12 rfl (lv_at hl 1 rfl) ?_
        refine x_getr F hP k_63 (hP.al 63 rfl) fl_X12_13 rfl r_63_2 dX12_meetsHouse_13 ?_
        refine lv_iload_n hx hb dX12_meetsHouse_16 rfl (lv_at hl 3 rfl) ?_
        refine y_iald h F hP k_65 (n2 (hP.al 65 rfl)) dX12_meetsHouse_17 (fun v_17 h => ?_)
        refine lv_aload_n hx hb dX12_meetsHouse_18 rfl (lv_at hl 1 rfl) ?_
        refine lv_iload_n hx hb dX12_meetsHouse_19 rfl (lv_at hl 2 rfl) ?_
        refine lv_iload_n hx hb dX12_meetsHouse_20 rfl (lv_at hl 0 rfl) ?_
        obtain ⟨v_21, hc_21, h⟩ := bo_s h
        refine x_goes (x_runV (As := [.int a1, .int x3_2l]) (rest := [.int v_17]) F hP hS (c_X12_footOf l D cT lo w ad a1 x3_2l v_21 hc_21) cw_X12_footOf lk_X12_260 vi_X12_footOf k_63 (n2 (hP.al 63 rfl)) rfl ⟨rfl, rfl, Nat.le_of_ble_eq_true rfl, Nat.le_of_ble_eq_true rfl⟩ hl.1 rfl (Nat.le_of_ble_eq_true rfl) dX12_meetsHouse_21 ⟨Nat.zero_le _, Nat.zero_le _⟩) hS (fun H locs hP hS _ => ?_)
        refine jn_use (fun (j_44 : Option Int32) => j_44 = some r → GG p l e { frames := 6, cells := 0, slots := 0, locals := 153 } s m args below meth c 0 0 (MQ below (mQz D cT lo NB w w ad r) args s 0 0 (fun q => lo ≤ q)) D cT lo NB 4 ad w 44 [(3, .int x3_2l), (0, .ref (ad 63)), (1, .int a1), (2, .int a2)] []) h (fun h H locs ls hP hS hl => ?_) (fun j_44 J_44 h => ?_)
        · refine y_iinc (lv' := fun (v_44 : Int32) => [(3, .int v_44), (0, .ref (ad 63)), (1, .int a1), (2, .int a2)]) h F ic_1 dX12_meetsHouse_44 hl (kq := 0) rfl (Nat.le_of_ble_eq_true rfl) (fun _ => rfl) (fun v_44 ls hl h => ?_)
          refine lv_goto (tgt := 2) hx hb dX12_meetsHouse_47 (by decide) ?_
          exact ih_2 v_44 h _ _ _ hP hS (lv_sub hl [0, 1, 2, 3] rfl)
        · refine lv_icmp_le (tgt := 44) hx hb dX12_meetsHouse_24 (by decide) (fun hc => ?_) (fun hc => ?_)
          · have h := if_t _ hc h
            exact J_44  h _ _ _ hP hS (lv_sub hl [0, 1, 2, 3] rfl)
          · have h := if_f _ hc h
            refine lv_aload_n hx hb dX12_meetsHouse_27 rfl (lv_at hl 1 rfl) ?_
            refine lv_iload_n hx hb dX12_meetsHouse_28 rfl (lv_at hl 2 rfl) ?_
            refine lv_iload_n hx hb dX12_meetsHouse_29 rfl (lv_at hl 0 rfl) ?_
            refine lv_aload_n hx hb dX12_meetsHouse_30 rfl (lv_at hl 1 rfl) ?_
            refine x_getr F hP k_63 (hP.al 63 rfl) fl_X12_7 rfl r_63_1 dX12_meetsHouse_31 ?_
            refine lv_iload_n hx hb dX12_meetsHouse_34 rfl (lv_at hl 3 rfl) ?_
            refine lv_iconst (v := 0) hx hb dX12_meetsHouse_35 ic_0 ?_
            obtain ⟨v_36, hc_36, h⟩ := bo_s h
            refine x_goesZ (x_runV (As := [.int a1, .int x3_2l, .ref (ad 64), .int a2, .int (0 : Int32)]) (rest := []) F hP hS (c_X12_touchesBox l D cT lo w ad a1 x3_2l 64 80 k_64 (hP.al 64 rfl) a2 (0 : Int32) v_36 hc_36) cw_X12_touchesBox lk_X12_289 vi_X12_touchesBox k_63 (n2 (hP.al 63 rfl)) rfl ⟨rfl, rfl, Nat.le_of_ble_eq_true rfl, Nat.le_of_ble_eq_true rfl⟩ hl.1 rfl (Nat.le_of_ble_eq_true rfl) dX12_meetsHouse_36 ⟨Nat.zero_le _, Nat.zero_le _⟩) hS (fun H locs hz_36 hP hS _ => ?_)
            refine lv_if_eq (tgt := 44) hx hb dX12_meetsHouse_39 (by decide) (fun hc => ?_) (fun hc => ?_)
            · have h := if_t _ hc h
              exact J_44  h _ _ _ hP hS (lv_sub hl [0, 1, 2, 3] rfl)
            · have h := if_f _ hc h
              refine lv_iconst (v := 1) hx hb dX12_meetsHouse_42 ic_1 ?_
              exact y_zretO h F hr hP hS hlk rfl dX12_meetsHouse_43
  exact L_2 FU (0 : Int32) h _ _ _ hP hS (lv_sub hl [0, 1, 2, 3] rfl)
def l_X12_meetsEaves_2 (a1 : Int32) (a2 : Int32) (w : Wd) : Nat → Int32 → Option Int32
  | 0, _ => none
  | n_2 + 1, x3_2l =>
    q_ld w 80 4 a1 (fun v_8 =>
    if v_8 ≤ x3_2l then
    some (0 : Int32)
    else
    q_ld w 66 20 a2 (fun v_17 =>
    q_ld w 81 20 (((5 : Int32) * a1) + x3_2l) (fun v_27 =>
    q_jn (q_lt (x3_2l + (1 : Int32)) (fun v_70 =>
    l_X12_meetsEaves_2 a1 a2 w n_2 v_70)) (fun j_70 =>
    if v_27 ≤ v_17 then
    j_70
    else
    q_bo (f_X12_footOf w a1 x3_2l) (fun v_34 =>
    q_ld w 65 20 a2 (fun v_42 =>
    if (v_42 + (5 : Int32)) ≤ v_34 then
    j_70
    else
    q_ld w 67 20 a2 (fun v_61 =>
    q_bo (f_X12_touchesBox w a1 x3_2l 64 80 a2 v_61) (fun v_62 =>
    if v_62 = 0 then
    j_70
    else
    some (1 : Int32)))))))))
def f_X12_meetsEaves (w : Wd) (a1 : Int32) (a2 : Int32) : Option Int32 :=
l_X12_meetsEaves_2 a1 a2 w FU (0 : Int32)
set_option maxRecDepth 100000 in
set_option maxHeartbeats 4000000 in
theorem c_X12_meetsEaves (l : Launch) (D : va_G) (cT : Nat → ClassId) (lo : Nat) (w : Wd) (ad : Nat → Nat) (a1 : Int32) (a2 : Int32) (r : Int32) (h : f_X12_meetsEaves w a1 a2 = some r) : Met l yX12_meetsEaves (.code yX12_meetsEaves cX12_meetsEaves 4 (some .boolean) :: TW) { frames := 6, cells := 0, slots := 0, locals := 153 } (mPc D cT lo NB w ad [.ref (ad 63), .int a1, .int a2]) (mQz D cT lo NB w w ad r) 0 0 (fun q => lo ≤ q) := by
  unfold f_X12_meetsEaves at h
  refine x_met (lv := [(0, .ref (ad 63)), (1, .int a1), (2, .int a2)]) (by decide +kernel) (Nat.le_of_ble_eq_true rfl) rfl ?_
  intro p e s m args below meth c ls F hr hlk hP hin hl
  have hx := F.1
  have hb := F.2.1
  have hS : va_S (fun q => lo ≤ q) s.heap s.heap [] := va_S.rf
  refine lv_iconst (v := 0) hx hb dX12_meetsEaves_0 ic_0 ?_
  refine lv_istore_n (lv' := [(3, .int (0 : Int32)), (0, .ref (ad 63)), (1, .int a1), (2, .int a2)]) hx hb dX12_meetsEaves_1 rfl hl (Nat.le_of_ble_eq_true rfl) rfl (fun ls hl => ?_)
  have L_2 : ∀ (n_2 : Nat) (x3_2l : Int32), l_X12_meetsEaves_2 a1 a2 w n_2 x3_2l = some r → GG p l e { frames := 6, cells := 0, slots := 0, locals := 153 } s m args below meth c 0 0 (MQ below (mQz D cT lo NB w w ad r) args s 0 0 (fun q => lo ≤ q)) D cT lo NB 4 ad w 2 [(3, .int x3_2l), (0, .ref (ad 63)), (1, .int a1), (2, .int a2)] [] := by
    intro n_2
    induction n_2 with
    | zero =>
      intro x3_2l h
      exact absurd h (by unfold l_X12_meetsEaves_2; exact fun z => by cases z)
    | succ n_2 ih_2 =>
      intro x3_2l h H locs ls hP hS hl
      unfold l_X12_meetsEaves_2 at h
      refine lv_iload_n hx hb dX12_meetsEaves_2 rfl (lv_at hl 0 rfl) ?_
      refine lv_aload_n hx hb dX12_meetsEaves_3 rfl (lv_at hl 1 rfl) ?_
      refine x_getr F hP k_63 (hP.al 63 rfl) fl_X12_59 rfl r_63_21 dX12_meetsEaves_4 ?_
      refine lv_iload_n hx hb dX12_meetsEaves_7 rfl (lv_at hl 2 rfl) ?_
      refine y_iald h F hP k_80 (n2 (hP.al 80 rfl)) dX12_meetsEaves_8 (fun v_8 h => ?_)
      refine lv_icmp_ge (tgt := 76) hx hb dX12_meetsEaves_9 (by decide) (fun hc => ?_) (fun hc => ?_)
      · have h := if_t _ hc h
        refine lv_iconst (v := 0) hx hb dX12_meetsEaves_76 ic_0 ?_
        exact y_zretO h F hr hP hS hlk rfl dX12_meetsEaves_77
      · have h := if_f _ hc h
        refine lv_aload_n hx hb dX12_meetsEaves_12 rfl (lv_at hl 1 rfl) ?_
        refine x_getr F hP k_63 (hP.al 63 rfl) fl_X12_16 rfl r_63_3 dX12_meetsEaves_13 ?_
        refine lv_iload_n hx hb dX12_meetsEaves_16 rfl (lv_at hl 3 rfl) ?_
        refine y_iald h F hP k_66 (n2 (hP.al 66 rfl)) dX12_meetsEaves_17 (fun v_17 h => ?_)
        refine lv_aload_n hx hb dX12_meetsEaves_18 rfl (lv_at hl 1 rfl) ?_
        refine x_getr F hP k_63 (hP.al 63 rfl) fl_X12_62 rfl r_63_22 dX12_meetsEaves_19 ?_
        refine lv_iconst (v := 5) hx hb dX12_meetsEaves_22 ic_5 ?_
        refine lv_iload_n hx hb dX12_meetsEaves_23 rfl (lv_at hl 2 rfl) ?_
        refine lv_imul hx hb dX12_meetsEaves_24 ?_
        refine lv_iload_n hx hb dX12_meetsEaves_25 rfl (lv_at hl 0 rfl) ?_
        refine lv_iadd hx hb dX12_meetsEaves_26 ?_
        refine y_iald h F hP k_81 (n2 (hP.al 81 rfl)) dX12_meetsEaves_27 (fun v_27 h => ?_)
        refine jn_use (fun (j_70 : Option Int32) => j_70 = some r → GG p l e { frames := 6, cells := 0, slots := 0, locals := 153 } s m args below meth c 0 0 (MQ below (mQz D cT lo NB w w ad r) args s 0 0 (fun q => lo ≤ q)) D cT lo NB 4 ad w 70 [(3, .int x3_2l), (0, .ref (ad 63)), (1, .int a1), (2, .int a2)] []) h (fun h H locs ls hP hS hl => ?_) (fun j_70 J_70 h => ?_)
        · refine y_iinc (lv' := fun (v_70 : Int32) => [(3, .int v_70), (0, .ref (ad 63)), (1, .int a1), (2, .int a2)]) h F ic_1 dX12_meetsEaves_70 hl (kq := 0) rfl (Nat.le_of_ble_eq_true rfl) (fun _ => rfl) (fun v_70 ls hl h => ?_)
          refine lv_goto (tgt := 2) hx hb dX12_meetsEaves_73 (by decide) ?_
          exact ih_2 v_70 h _ _ _ hP hS (lv_sub hl [0, 1, 2, 3] rfl)
        · refine lv_icmp_ge (tgt := 70) hx hb dX12_meetsEaves_28 (by decide) (fun hc => ?_) (fun hc => ?_)
          · have h := if_t _ hc h
            exact J_70  h _ _ _ hP hS (lv_sub hl [0, 1, 2, 3] rfl)
          · have h := if_f _ hc h
            refine lv_aload_n hx hb dX12_meetsEaves_31 rfl (lv_at hl 1 rfl) ?_
            refine lv_iload_n hx hb dX12_meetsEaves_32 rfl (lv_at hl 2 rfl) ?_
            refine lv_iload_n hx hb dX12_meetsEaves_33 rfl (lv_at hl 0 rfl) ?_
            obtain ⟨v_34, hc_34, h⟩ := bo_s h
            refine x_goes (x_runV (As := [.int a1, .int x3_2l]) (rest := []) F hP hS (c_X12_footOf l D cT lo w ad a1 x3_2l v_34 hc_34) cw_X12_footOf lk_X12_260 vi_X12_footOf k_63 (n2 (hP.al 63 rfl)) rfl ⟨rfl, rfl, Nat.le_of_ble_eq_true rfl, Nat.le_of_ble_eq_true rfl⟩ hl.1 rfl (Nat.le_of_ble_eq_true rfl) dX12_meetsEaves_34 ⟨Nat.zero_le _, Nat.zero_le _⟩) hS (fun H locs hP hS _ => ?_)
            refine lv_aload_n hx hb dX12_meetsEaves_37 rfl (lv_at hl 1 rfl) ?_
            refine x_getr F hP k_63 (hP.al 63 rfl) fl_X12_13 rfl r_63_2 dX12_meetsEaves_38 ?_
            refine lv_iload_n hx hb dX12_meetsEaves_41 rfl (lv_at hl 3 rfl) ?_
            refine y_iald h F hP k_65 (n2 (hP.al 65 rfl)) dX12_meetsEaves_42 (fun v_42 h => ?_)
            refine lv_iconst (v := 5) hx hb dX12_meetsEaves_43 ic_5 ?_
            refine lv_iadd hx hb dX12_meetsEaves_44 ?_
            refine lv_icmp_ge (tgt := 70) hx hb dX12_meetsEaves_45 (by decide) (fun hc => ?_) (fun hc => ?_)
            · have h := if_t _ hc h
              exact J_70  h _ _ _ hP hS (lv_sub hl [0, 1, 2, 3] rfl)
            · have h := if_f _ hc h
              refine lv_aload_n hx hb dX12_meetsEaves_48 rfl (lv_at hl 1 rfl) ?_
              refine lv_iload_n hx hb dX12_meetsEaves_49 rfl (lv_at hl 2 rfl) ?_
              refine lv_iload_n hx hb dX12_meetsEaves_50 rfl (lv_at hl 0 rfl) ?_
              refine lv_aload_n hx hb dX12_meetsEaves_51 rfl (lv_at hl 1 rfl) ?_
              refine x_getr F hP k_63 (hP.al 63 rfl) fl_X12_7 rfl r_63_1 dX12_meetsEaves_52 ?_
              refine lv_iload_n hx hb dX12_meetsEaves_55 rfl (lv_at hl 3 rfl) ?_
              refine lv_aload_n hx hb dX12_meetsEaves_56 rfl (lv_at hl 1 rfl) ?_
              refine x_getr F hP k_63 (hP.al 63 rfl) fl_X12_19 rfl r_63_4 dX12_meetsEaves_57 ?_
              refine lv_iload_n hx hb dX12_meetsEaves_60 rfl (lv_at hl 3 rfl) ?_
              refine y_iald h F hP k_67 (n2 (hP.al 67 rfl)) dX12_meetsEaves_61 (fun v_61 h => ?_)
              obtain ⟨v_62, hc_62, h⟩ := bo_s h
              refine x_goesZ (x_runV (As := [.int a1, .int x3_2l, .ref (ad 64), .int a2, .int v_61]) (rest := []) F hP hS (c_X12_touchesBox l D cT lo w ad a1 x3_2l 64 80 k_64 (hP.al 64 rfl) a2 v_61 v_62 hc_62) cw_X12_touchesBox lk_X12_289 vi_X12_touchesBox k_63 (n2 (hP.al 63 rfl)) rfl ⟨rfl, rfl, Nat.le_of_ble_eq_true rfl, Nat.le_of_ble_eq_true rfl⟩ hl.1 rfl (Nat.le_of_ble_eq_true rfl) dX12_meetsEaves_62 ⟨Nat.zero_le _, Nat.zero_le _⟩) hS (fun H locs hz_62 hP hS _ => ?_)
              refine lv_if_eq (tgt := 70) hx hb dX12_meetsEaves_65 (by decide) (fun hc => ?_) (fun hc => ?_)
              · have h := if_t _ hc h
                exact J_70  h _ _ _ hP hS (lv_sub hl [0, 1, 2, 3] rfl)
              · have h := if_f _ hc h
                refine lv_iconst (v := 1) hx hb dX12_meetsEaves_68 ic_1 ?_
                exact y_zretO h F hr hP hS hlk rfl dX12_meetsEaves_69
  exact L_2 FU (0 : Int32) h _ _ _ hP hS (lv_sub hl [0, 1, 2, 3] rfl)
