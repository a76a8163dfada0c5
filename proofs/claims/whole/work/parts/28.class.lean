theorem dX11_turn_0 : decode cX11_turn 0 = .ok (.iload_n 1, 1) := by decide +kernel
theorem dX11_turn_1 : decode cX11_turn 1 = .ok (.iconst 0, 1) := by decide +kernel
theorem dX11_turn_2 : decode cX11_turn 2 = .ok (.bipush 35, 2) := by decide +kernel
theorem dX11_turn_4 : decode cX11_turn 4 = .ok (.invokestatic 71, 3) := by decide +kernel
theorem dX11_turn_7 : decode cX11_turn 7 = .ok (.ifCond .eq 12, 3) := by decide +kernel
theorem dX11_turn_10 : decode cX11_turn 10 = .ok (.iload_n 2, 1) := by decide +kernel
theorem dX11_turn_11 : decode cX11_turn 11 = .ok (.iconst 0, 1) := by decide +kernel
theorem dX11_turn_12 : decode cX11_turn 12 = .ok (.iconst 1, 1) := by decide +kernel
theorem dX11_turn_13 : decode cX11_turn 13 = .ok (.invokestatic 71, 3) := by decide +kernel
theorem dX11_turn_16 : decode cX11_turn 16 = .ok (.ifCond .ne 7, 3) := by decide +kernel
theorem dX11_turn_19 : decode cX11_turn 19 = .ok (.sipush (-1000), 3) := by decide +kernel
theorem dX11_turn_22 : decode cX11_turn 22 = .ok (.ireturn, 1) := by decide +kernel
theorem dX11_turn_23 : decode cX11_turn 23 = .ok (.iload_n 2, 1) := by decide +kernel
theorem dX11_turn_24 : decode cX11_turn 24 = .ok (.ifCond .ne 10, 3) := by decide +kernel
theorem dX11_turn_27 : decode cX11_turn 27 = .ok (.iload_n 1, 1) := by decide +kernel
theorem dX11_turn_28 : decode cX11_turn 28 = .ok (.invokestatic 75, 3) := by decide +kernel
theorem dX11_turn_31 : decode cX11_turn 31 = .ok (.goto 7, 3) := by decide +kernel
theorem dX11_turn_34 : decode cX11_turn 34 = .ok (.iload_n 1, 1) := by decide +kernel
theorem dX11_turn_35 : decode cX11_turn 35 = .ok (.invokestatic 79, 3) := by decide +kernel
theorem dX11_turn_38 : decode cX11_turn 38 = .ok (.ireturn, 1) := by decide +kernel
theorem dX11_cut_0 : decode cX11_cut 0 = .ok (.aload_n 0, 1) := by decide +kernel
theorem dX11_cut_1 : decode cX11_cut 1 = .ok (.getfield 10, 3) := by decide +kernel
theorem dX11_cut_4 : decode cX11_cut 4 = .ok (.iload_n 1, 1) := by decide +kernel
theorem dX11_cut_5 : decode cX11_cut 5 = .ok (.iload_n 2, 1) := by decide +kernel
theorem dX11_cut_6 : decode cX11_cut 6 = .ok (.invokevirtual 86, 3) := by decide +kernel
theorem dX11_cut_9 : decode cX11_cut 9 = .ok (.ireturn, 1) := by decide +kernel
theorem dX11_down_0 : decode cX11_down 0 = .ok (.aload_n 0, 1) := by decide +kernel
theorem dX11_down_1 : decode cX11_down 1 = .ok (.getfield 10, 3) := by decide +kernel
theorem dX11_down_4 : decode cX11_down 4 = .ok (.iload_n 1, 1) := by decide +kernel
theorem dX11_down_5 : decode cX11_down 5 = .ok (.iload_n 2, 1) := by decide +kernel
theorem dX11_down_6 : decode cX11_down 6 = .ok (.invokevirtual 98, 3) := by decide +kernel
theorem dX11_down_9 : decode cX11_down 9 = .ok (.ireturn, 1) := by decide +kernel
theorem dX11_rain_0 : decode cX11_rain 0 = .ok (.aload_n 0, 1) := by decide +kernel
theorem dX11_rain_1 : decode cX11_rain 1 = .ok (.getfield 10, 3) := by decide +kernel
theorem dX11_rain_4 : decode cX11_rain 4 = .ok (.iload_n 1, 1) := by decide +kernel
theorem dX11_rain_5 : decode cX11_rain 5 = .ok (.invokevirtual 106, 3) := by decide +kernel
theorem dX11_rain_8 : decode cX11_rain 8 = .ok (.ireturn, 1) := by decide +kernel
theorem dX11_ground_0 : decode cX11_ground 0 = .ok (.iload_n 1, 1) := by decide +kernel
theorem dX11_ground_1 : decode cX11_ground 1 = .ok (.ldc 110, 2) := by decide +kernel
theorem dX11_ground_3 : decode cX11_ground 3 = .ok (.ldc 111, 2) := by decide +kernel
theorem dX11_ground_5 : decode cX11_ground 5 = .ok (.invokestatic 71, 3) := by decide +kernel
theorem dX11_ground_8 : decode cX11_ground 8 = .ok (.ifCond .eq 23, 3) := by decide +kernel
theorem dX11_ground_11 : decode cX11_ground 11 = .ok (.iload_n 2, 1) := by decide +kernel
theorem dX11_ground_12 : decode cX11_ground 12 = .ok (.ldc 110, 2) := by decide +kernel
theorem dX11_ground_14 : decode cX11_ground 14 = .ok (.ldc 111, 2) := by decide +kernel
theorem dX11_ground_16 : decode cX11_ground 16 = .ok (.invokestatic 71, 3) := by decide +kernel
theorem dX11_ground_19 : decode cX11_ground 19 = .ok (.ifCond .eq 12, 3) := by decide +kernel
theorem dX11_ground_22 : decode cX11_ground 22 = .ok (.iload_n 3, 1) := by decide +kernel
theorem dX11_ground_23 : decode cX11_ground 23 = .ok (.iconst 0, 1) := by decide +kernel
theorem dX11_ground_24 : decode cX11_ground 24 = .ok (.iconst 3, 1) := by decide +kernel
theorem dX11_ground_25 : decode cX11_ground 25 = .ok (.invokestatic 71, 3) := by decide +kernel
theorem dX11_ground_28 : decode cX11_ground 28 = .ok (.ifCond .ne 7, 3) := by decide +kernel
theorem dX11_ground_31 : decode cX11_ground 31 = .ok (.sipush (-1000), 3) := by decide +kernel
theorem dX11_ground_34 : decode cX11_ground 34 = .ok (.ireturn, 1) := by decide +kernel
theorem dX11_ground_35 : decode cX11_ground 35 = .ok (.aload_n 0, 1) := by decide +kernel
theorem dX11_ground_36 : decode cX11_ground 36 = .ok (.getfield 10, 3) := by decide +kernel
theorem dX11_ground_39 : decode cX11_ground 39 = .ok (.iload_n 1, 1) := by decide +kernel
theorem dX11_ground_40 : decode cX11_ground 40 = .ok (.iload_n 2, 1) := by decide +kernel
theorem dX11_ground_41 : decode cX11_ground 41 = .ok (.invokevirtual 112, 3) := by decide +kernel
theorem dX11_ground_44 : decode cX11_ground 44 = .ok (.istore 4, 2) := by decide +kernel
theorem dX11_ground_46 : decode cX11_ground 46 = .ok (.iload_n 3, 1) := by decide +kernel
theorem dX11_ground_47 : decode cX11_ground 47 = .ok (.tableswitch 48 0 2 #[25, 28, 38], 25) := by decide +kernel
theorem dX11_ground_72 : decode cX11_ground 72 = .ok (.iload 4, 2) := by decide +kernel
theorem dX11_ground_74 : decode cX11_ground 74 = .ok (.ireturn, 1) := by decide +kernel
theorem dX11_ground_75 : decode cX11_ground 75 = .ok (.aload_n 0, 1) := by decide +kernel
theorem dX11_ground_76 : decode cX11_ground 76 = .ok (.getfield 10, 3) := by decide +kernel
theorem dX11_ground_79 : decode cX11_ground 79 = .ok (.iload 4, 2) := by decide +kernel
theorem dX11_ground_81 : decode cX11_ground 81 = .ok (.invokevirtual 115, 3) := by decide +kernel
theorem dX11_ground_84 : decode cX11_ground 84 = .ok (.ireturn, 1) := by decide +kernel
theorem dX11_ground_85 : decode cX11_ground 85 = .ok (.aload_n 0, 1) := by decide +kernel
theorem dX11_ground_86 : decode cX11_ground 86 = .ok (.getfield 10, 3) := by decide +kernel
theorem dX11_ground_89 : decode cX11_ground 89 = .ok (.iload 4, 2) := by decide +kernel
theorem dX11_ground_91 : decode cX11_ground 91 = .ok (.invokevirtual 118, 3) := by decide +kernel
theorem dX11_ground_94 : decode cX11_ground 94 = .ok (.ireturn, 1) := by decide +kernel
theorem dX11_ground_95 : decode cX11_ground 95 = .ok (.aload_n 0, 1) := by decide +kernel
theorem dX11_ground_96 : decode cX11_ground 96 = .ok (.getfield 10, 3) := by decide +kernel
theorem dX11_ground_99 : decode cX11_ground 99 = .ok (.iload 4, 2) := by decide +kernel
theorem dX11_ground_101 : decode cX11_ground 101 = .ok (.invokevirtual 121, 3) := by decide +kernel
theorem dX11_ground_104 : decode cX11_ground 104 = .ok (.ifCond .eq 7, 3) := by decide +kernel
theorem dX11_ground_107 : decode cX11_ground 107 = .ok (.iconst 1, 1) := by decide +kernel
theorem dX11_ground_108 : decode cX11_ground 108 = .ok (.goto 4, 3) := by decide +kernel
theorem dX11_ground_111 : decode cX11_ground 111 = .ok (.iconst 0, 1) := by decide +kernel
theorem dX11_ground_112 : decode cX11_ground 112 = .ok (.ireturn, 1) := by decide +kernel
theorem dX11_storey_0 : decode cX11_storey 0 = .ok (.aload_n 0, 1) := by decide +kernel
theorem dX11_storey_1 : decode cX11_storey 1 = .ok (.getfield 21, 3) := by decide +kernel
theorem dX11_storey_4 : decode cX11_storey 4 = .ok (.iload_n 1, 1) := by decide +kernel
theorem dX11_storey_5 : decode cX11_storey 5 = .ok (.invokevirtual 128, 3) := by decide +kernel
theorem dX11_storey_8 : decode cX11_storey 8 = .ok (.astore 5, 2) := by decide +kernel
theorem dX11_storey_10 : decode cX11_storey 10 = .ok (.aload 5, 2) := by decide +kernel
theorem dX11_storey_12 : decode cX11_storey 12 = .ok (.ifnonnull 6, 3) := by decide +kernel
theorem dX11_storey_15 : decode cX11_storey 15 = .ok (.bipush (-2), 2) := by decide +kernel
theorem dX11_storey_17 : decode cX11_storey 17 = .ok (.ireturn, 1) := by decide +kernel
theorem dX11_storey_18 : decode cX11_storey 18 = .ok (.aload 5, 2) := by decide +kernel
theorem dX11_storey_20 : decode cX11_storey 20 = .ok (.iload_n 2, 1) := by decide +kernel
theorem dX11_storey_21 : decode cX11_storey 21 = .ok (.iload_n 3, 1) := by decide +kernel
theorem dX11_storey_22 : decode cX11_storey 22 = .ok (.iload 4, 2) := by decide +kernel
theorem dX11_storey_24 : decode cX11_storey 24 = .ok (.invokevirtual 132, 3) := by decide +kernel
theorem dX11_storey_27 : decode cX11_storey 27 = .ok (.ireturn, 1) := by decide +kernel
theorem dX11_stand_0 : decode cX11_stand 0 = .ok (.aload_n 0, 1) := by decide +kernel
theorem dX11_stand_1 : decode cX11_stand 1 = .ok (.getfield 21, 3) := by decide +kernel
theorem dX11_stand_4 : decode cX11_stand 4 = .ok (.iload_n 1, 1) := by decide +kernel
theorem dX11_stand_5 : decode cX11_stand 5 = .ok (.invokevirtual 128, 3) := by decide +kernel
theorem dX11_stand_8 : decode cX11_stand 8 = .ok (.astore 5, 2) := by decide +kernel
theorem dX11_stand_10 : decode cX11_stand 10 = .ok (.aload 5, 2) := by decide +kernel
theorem dX11_stand_12 : decode cX11_stand 12 = .ok (.ifnull 40, 3) := by decide +kernel
theorem dX11_stand_15 : decode cX11_stand 15 = .ok (.iload_n 2, 1) := by decide +kernel
theorem dX11_stand_16 : decode cX11_stand 16 = .ok (.sipush (-500), 3) := by decide +kernel
theorem dX11_stand_19 : decode cX11_stand 19 = .ok (.sipush 500, 3) := by decide +kernel
theorem dX11_stand_22 : decode cX11_stand 22 = .ok (.invokestatic 71, 3) := by decide +kernel
theorem dX11_stand_25 : decode cX11_stand 25 = .ok (.ifCond .eq 27, 3) := by decide +kernel
theorem dX11_stand_28 : decode cX11_stand 28 = .ok (.iload_n 3, 1) := by decide +kernel
theorem dX11_stand_29 : decode cX11_stand 29 = .ok (.sipush (-500), 3) := by decide +kernel
theorem dX11_stand_32 : decode cX11_stand 32 = .ok (.sipush 500, 3) := by decide +kernel
theorem dX11_stand_35 : decode cX11_stand 35 = .ok (.invokestatic 71, 3) := by decide +kernel
theorem dX11_stand_38 : decode cX11_stand 38 = .ok (.ifCond .eq 14, 3) := by decide +kernel
theorem dX11_stand_41 : decode cX11_stand 41 = .ok (.iload 4, 2) := by decide +kernel
theorem dX11_stand_43 : decode cX11_stand 43 = .ok (.iconst 0, 1) := by decide +kernel
theorem dX11_stand_44 : decode cX11_stand 44 = .ok (.bipush 35, 2) := by decide +kernel
theorem dX11_stand_46 : decode cX11_stand 46 = .ok (.invokestatic 71, 3) := by decide +kernel
theorem dX11_stand_49 : decode cX11_stand 49 = .ok (.ifCond .ne 6, 3) := by decide +kernel
theorem dX11_stand_52 : decode cX11_stand 52 = .ok (.bipush (-2), 2) := by decide +kernel
theorem dX11_stand_54 : decode cX11_stand 54 = .ok (.ireturn, 1) := by decide +kernel
theorem dX11_stand_55 : decode cX11_stand 55 = .ok (.aload_n 0, 1) := by decide +kernel
theorem dX11_stand_56 : decode cX11_stand 56 = .ok (.getfield 21, 3) := by decide +kernel
theorem dX11_stand_59 : decode cX11_stand 59 = .ok (.aload 5, 2) := by decide +kernel
theorem dX11_stand_61 : decode cX11_stand 61 = .ok (.bipush 65, 2) := by decide +kernel
theorem dX11_stand_63 : decode cX11_stand 63 = .ok (.iload_n 2, 1) := by decide +kernel
theorem dX11_stand_64 : decode cX11_stand 64 = .ok (.imul, 1) := by decide +kernel
theorem dX11_stand_65 : decode cX11_stand 65 = .ok (.bipush 65, 2) := by decide +kernel
theorem dX11_stand_67 : decode cX11_stand 67 = .ok (.iload_n 3, 1) := by decide +kernel
theorem dX11_stand_68 : decode cX11_stand 68 = .ok (.imul, 1) := by decide +kernel
theorem dX11_stand_69 : decode cX11_stand 69 = .ok (.iload 4, 2) := by decide +kernel
theorem dX11_stand_71 : decode cX11_stand 71 = .ok (.invokevirtual 138, 3) := by decide +kernel
theorem dX11_stand_74 : decode cX11_stand 74 = .ok (.ifCond .eq 6, 3) := by decide +kernel
theorem dX11_stand_77 : decode cX11_stand 77 = .ok (.bipush (-3), 2) := by decide +kernel
theorem dX11_stand_79 : decode cX11_stand 79 = .ok (.ireturn, 1) := by decide +kernel
theorem dX11_stand_80 : decode cX11_stand 80 = .ok (.aload 5, 2) := by decide +kernel
theorem dX11_stand_82 : decode cX11_stand 82 = .ok (.bipush 65, 2) := by decide +kernel
theorem dX11_stand_84 : decode cX11_stand 84 = .ok (.iload_n 2, 1) := by decide +kernel
theorem dX11_stand_85 : decode cX11_stand 85 = .ok (.imul, 1) := by decide +kernel
theorem dX11_stand_86 : decode cX11_stand 86 = .ok (.bipush 65, 2) := by decide +kernel
theorem dX11_stand_88 : decode cX11_stand 88 = .ok (.iload_n 3, 1) := by decide +kernel
theorem dX11_stand_89 : decode cX11_stand 89 = .ok (.imul, 1) := by decide +kernel
theorem dX11_stand_90 : decode cX11_stand 90 = .ok (.iload 4, 2) := by decide +kernel
theorem dX11_stand_92 : decode cX11_stand 92 = .ok (.invokevirtual 142, 3) := by decide +kernel
theorem dX11_stand_95 : decode cX11_stand 95 = .ok (.iconst 1, 1) := by decide +kernel
theorem dX11_stand_96 : decode cX11_stand 96 = .ok (.ireturn, 1) := by decide +kernel
theorem dX11_leave_0 : decode cX11_leave 0 = .ok (.aload_n 0, 1) := by decide +kernel
theorem dX11_leave_1 : decode cX11_leave 1 = .ok (.getfield 21, 3) := by decide +kernel
theorem dX11_leave_4 : decode cX11_leave 4 = .ok (.iload_n 1, 1) := by decide +kernel
theorem dX11_leave_5 : decode cX11_leave 5 = .ok (.invokevirtual 128, 3) := by decide +kernel
theorem dX11_leave_8 : decode cX11_leave 8 = .ok (.astore_n 2, 1) := by decide +kernel
theorem dX11_leave_9 : decode cX11_leave 9 = .ok (.aload_n 2, 1) := by decide +kernel
theorem dX11_leave_10 : decode cX11_leave 10 = .ok (.ifnonnull 6, 3) := by decide +kernel
theorem dX11_leave_13 : decode cX11_leave 13 = .ok (.bipush (-2), 2) := by decide +kernel
theorem dX11_leave_15 : decode cX11_leave 15 = .ok (.ireturn, 1) := by decide +kernel
theorem dX11_leave_16 : decode cX11_leave 16 = .ok (.aload_n 2, 1) := by decide +kernel
theorem dX11_leave_17 : decode cX11_leave 17 = .ok (.getfield 146, 3) := by decide +kernel
theorem dX11_leave_20 : decode cX11_leave 20 = .ok (.istore_n 3, 1) := by decide +kernel
theorem dX11_leave_21 : decode cX11_leave 21 = .ok (.aload_n 2, 1) := by decide +kernel
theorem dX11_leave_22 : decode cX11_leave 22 = .ok (.iconst 0, 1) := by decide +kernel
theorem dX11_leave_23 : decode cX11_leave 23 = .ok (.putfield 146, 3) := by decide +kernel
theorem dX11_leave_26 : decode cX11_leave 26 = .ok (.iload_n 3, 1) := by decide +kernel
theorem dX11_leave_27 : decode cX11_leave 27 = .ok (.ifCond .eq 7, 3) := by decide +kernel
theorem dX11_leave_30 : decode cX11_leave 30 = .ok (.iconst 1, 1) := by decide +kernel
theorem dX11_leave_31 : decode cX11_leave 31 = .ok (.goto 4, 3) := by decide +kernel
theorem dX11_leave_34 : decode cX11_leave 34 = .ok (.iconst 0, 1) := by decide +kernel
theorem dX11_leave_35 : decode cX11_leave 35 = .ok (.ireturn, 1) := by decide +kernel
theorem dX11_about_0 : decode cX11_about 0 = .ok (.aload_n 0, 1) := by decide +kernel
theorem dX11_about_1 : decode cX11_about 1 = .ok (.getfield 21, 3) := by decide +kernel
theorem dX11_about_4 : decode cX11_about 4 = .ok (.iload_n 1, 1) := by decide +kernel
theorem dX11_about_5 : decode cX11_about 5 = .ok (.invokevirtual 128, 3) := by decide +kernel
theorem dX11_about_8 : decode cX11_about 8 = .ok (.astore_n 3, 1) := by decide +kernel
theorem dX11_about_9 : decode cX11_about 9 = .ok (.aload_n 3, 1) := by decide +kernel
theorem dX11_about_10 : decode cX11_about 10 = .ok (.ifnonnull 6, 3) := by decide +kernel
theorem dX11_about_13 : decode cX11_about 13 = .ok (.ldc 150, 2) := by decide +kernel
theorem dX11_about_15 : decode cX11_about 15 = .ok (.ireturn, 1) := by decide +kernel
theorem dX11_about_16 : decode cX11_about 16 = .ok (.aload_n 3, 1) := by decide +kernel
theorem dX11_about_17 : decode cX11_about 17 = .ok (.iload_n 2, 1) := by decide +kernel
theorem dX11_about_18 : decode cX11_about 18 = .ok (.invokevirtual 151, 3) := by decide +kernel
theorem dX11_about_21 : decode cX11_about 21 = .ok (.ireturn, 1) := by decide +kernel
theorem dX11_wheel_0 : decode cX11_wheel 0 = .ok (.aload_n 0, 1) := by decide +kernel
theorem dX11_wheel_1 : decode cX11_wheel 1 = .ok (.getfield 21, 3) := by decide +kernel
theorem dX11_wheel_4 : decode cX11_wheel 4 = .ok (.iload_n 1, 1) := by decide +kernel
theorem dX11_wheel_5 : decode cX11_wheel 5 = .ok (.invokevirtual 128, 3) := by decide +kernel
theorem dX11_wheel_8 : decode cX11_wheel 8 = .ok (.astore 4, 2) := by decide +kernel
theorem dX11_wheel_10 : decode cX11_wheel 10 = .ok (.aload 4, 2) := by decide +kernel
theorem dX11_wheel_12 : decode cX11_wheel 12 = .ok (.ifnull 29, 3) := by decide +kernel
theorem dX11_wheel_15 : decode cX11_wheel 15 = .ok (.aload 4, 2) := by decide +kernel
theorem dX11_wheel_17 : decode cX11_wheel 17 = .ok (.getfield 146, 3) := by decide +kernel
theorem dX11_wheel_20 : decode cX11_wheel 20 = .ok (.ifCond .eq 21, 3) := by decide +kernel
theorem dX11_wheel_23 : decode cX11_wheel 23 = .ok (.iload_n 2, 1) := by decide +kernel
theorem dX11_wheel_24 : decode cX11_wheel 24 = .ok (.iconst 0, 1) := by decide +kernel
theorem dX11_wheel_25 : decode cX11_wheel 25 = .ok (.iconst 3, 1) := by decide +kernel
theorem dX11_wheel_26 : decode cX11_wheel 26 = .ok (.invokestatic 71, 3) := by decide +kernel
theorem dX11_wheel_29 : decode cX11_wheel 29 = .ok (.ifCond .eq 12, 3) := by decide +kernel
theorem dX11_wheel_32 : decode cX11_wheel 32 = .ok (.iload_n 3, 1) := by decide +kernel
theorem dX11_wheel_33 : decode cX11_wheel 33 = .ok (.iconst 0, 1) := by decide +kernel
theorem dX11_wheel_34 : decode cX11_wheel 34 = .ok (.iconst 1, 1) := by decide +kernel
theorem dX11_wheel_35 : decode cX11_wheel 35 = .ok (.invokestatic 71, 3) := by decide +kernel
theorem dX11_wheel_38 : decode cX11_wheel 38 = .ok (.ifCond .ne 6, 3) := by decide +kernel
theorem dX11_wheel_41 : decode cX11_wheel 41 = .ok (.ldc 150, 2) := by decide +kernel
theorem dX11_wheel_43 : decode cX11_wheel 43 = .ok (.ireturn, 1) := by decide +kernel
theorem dX11_wheel_44 : decode cX11_wheel 44 = .ok (.iload_n 3, 1) := by decide +kernel
theorem dX11_wheel_45 : decode cX11_wheel 45 = .ok (.ifCond .ne 23, 3) := by decide +kernel
theorem dX11_wheel_48 : decode cX11_wheel 48 = .ok (.aload 4, 2) := by decide +kernel
theorem dX11_wheel_50 : decode cX11_wheel 50 = .ok (.getfield 154, 3) := by decide +kernel
theorem dX11_wheel_53 : decode cX11_wheel 53 = .ok (.aload 4, 2) := by decide +kernel
theorem dX11_wheel_55 : decode cX11_wheel 55 = .ok (.iload_n 2, 1) := by decide +kernel
theorem dX11_wheel_56 : decode cX11_wheel 56 = .ok (.aload 4, 2) := by decide +kernel
theorem dX11_wheel_58 : decode cX11_wheel 58 = .ok (.getfield 158, 3) := by decide +kernel
theorem dX11_wheel_61 : decode cX11_wheel 61 = .ok (.invokevirtual 161, 3) := by decide +kernel
theorem dX11_wheel_64 : decode cX11_wheel 64 = .ok (.iadd, 1) := by decide +kernel
theorem dX11_wheel_65 : decode cX11_wheel 65 = .ok (.goto 20, 3) := by decide +kernel
theorem dX11_wheel_68 : decode cX11_wheel 68 = .ok (.aload 4, 2) := by decide +kernel
theorem dX11_wheel_70 : decode cX11_wheel 70 = .ok (.getfield 164, 3) := by decide +kernel
theorem dX11_wheel_73 : decode cX11_wheel 73 = .ok (.aload 4, 2) := by decide +kernel
theorem dX11_wheel_75 : decode cX11_wheel 75 = .ok (.iload_n 2, 1) := by decide +kernel
theorem dX11_wheel_76 : decode cX11_wheel 76 = .ok (.aload 4, 2) := by decide +kernel
theorem dX11_wheel_78 : decode cX11_wheel 78 = .ok (.getfield 158, 3) := by decide +kernel
theorem dX11_wheel_81 : decode cX11_wheel 81 = .ok (.invokevirtual 167, 3) := by decide +kernel
theorem dX11_wheel_84 : decode cX11_wheel 84 = .ok (.iadd, 1) := by decide +kernel
theorem dX11_wheel_85 : decode cX11_wheel 85 = .ok (.ireturn, 1) := by decide +kernel
theorem dX11_feet_0 : decode cX11_feet 0 = .ok (.iload_n 1, 1) := by decide +kernel
theorem dX11_feet_1 : decode cX11_feet 1 = .ok (.iconst 1, 1) := by decide +kernel
theorem dX11_feet_2 : decode cX11_feet 2 = .ok (.bipush 20, 2) := by decide +kernel
theorem dX11_feet_4 : decode cX11_feet 4 = .ok (.invokestatic 71, 3) := by decide +kernel
theorem dX11_feet_7 : decode cX11_feet 7 = .ok (.ifCond .ne 6, 3) := by decide +kernel
theorem dX11_feet_10 : decode cX11_feet 10 = .ok (.bipush (-2), 2) := by decide +kernel
theorem dX11_feet_12 : decode cX11_feet 12 = .ok (.ireturn, 1) := by decide +kernel
theorem dX11_feet_13 : decode cX11_feet 13 = .ok (.aload_n 0, 1) := by decide +kernel
theorem dX11_feet_14 : decode cX11_feet 14 = .ok (.getfield 21, 3) := by decide +kernel
theorem dX11_feet_17 : decode cX11_feet 17 = .ok (.getfield 170, 3) := by decide +kernel
theorem dX11_feet_20 : decode cX11_feet 20 = .ok (.istore_n 2, 1) := by decide +kernel
theorem dX11_feet_21 : decode cX11_feet 21 = .ok (.aload_n 0, 1) := by decide +kernel
theorem dX11_feet_22 : decode cX11_feet 22 = .ok (.getfield 21, 3) := by decide +kernel
theorem dX11_feet_25 : decode cX11_feet 25 = .ok (.iload_n 1, 1) := by decide +kernel
theorem dX11_feet_26 : decode cX11_feet 26 = .ok (.putfield 170, 3) := by decide +kernel
theorem dX11_feet_29 : decode cX11_feet 29 = .ok (.iload_n 2, 1) := by decide +kernel
theorem dX11_feet_30 : decode cX11_feet 30 = .ok (.ireturn, 1) := by decide +kernel
theorem dX11_meets_0 : decode cX11_meets 0 = .ok (.aload_n 0, 1) := by decide +kernel
theorem dX11_meets_1 : decode cX11_meets 1 = .ok (.getfield 21, 3) := by decide +kernel
theorem dX11_meets_4 : decode cX11_meets 4 = .ok (.iload_n 1, 1) := by decide +kernel
theorem dX11_meets_5 : decode cX11_meets 5 = .ok (.invokevirtual 128, 3) := by decide +kernel
theorem dX11_meets_8 : decode cX11_meets 8 = .ok (.astore_n 3, 1) := by decide +kernel
theorem dX11_meets_9 : decode cX11_meets 9 = .ok (.aload_n 3, 1) := by decide +kernel
theorem dX11_meets_10 : decode cX11_meets 10 = .ok (.ifnull 13, 3) := by decide +kernel
theorem dX11_meets_13 : decode cX11_meets 13 = .ok (.iload_n 2, 1) := by decide +kernel
theorem dX11_meets_14 : decode cX11_meets 14 = .ok (.iconst 0, 1) := by decide +kernel
theorem dX11_meets_15 : decode cX11_meets 15 = .ok (.bipush 10, 2) := by decide +kernel
theorem dX11_meets_17 : decode cX11_meets 17 = .ok (.invokestatic 71, 3) := by decide +kernel
theorem dX11_meets_20 : decode cX11_meets 20 = .ok (.ifCond .ne 6, 3) := by decide +kernel
theorem dX11_meets_23 : decode cX11_meets 23 = .ok (.bipush (-2), 2) := by decide +kernel
theorem dX11_meets_25 : decode cX11_meets 25 = .ok (.ireturn, 1) := by decide +kernel
theorem dX11_meets_26 : decode cX11_meets 26 = .ok (.aload_n 3, 1) := by decide +kernel
theorem dX11_meets_27 : decode cX11_meets 27 = .ok (.getfield 146, 3) := by decide +kernel
theorem dX11_meets_30 : decode cX11_meets 30 = .ok (.ifCond .ne 6, 3) := by decide +kernel
theorem dX11_meets_33 : decode cX11_meets 33 = .ok (.bipush (-3), 2) := by decide +kernel
theorem dX11_meets_35 : decode cX11_meets 35 = .ok (.ireturn, 1) := by decide +kernel
theorem dX11_meets_36 : decode cX11_meets 36 = .ok (.iload_n 2, 1) := by decide +kernel
theorem dX11_meets_37 : decode cX11_meets 37 = .ok (.bipush 10, 2) := by decide +kernel
theorem dX11_meets_39 : decode cX11_meets 39 = .ok (.if_icmp .ne 24, 3) := by decide +kernel
theorem dX11_meets_42 : decode cX11_meets 42 = .ok (.aload_n 0, 1) := by decide +kernel
theorem dX11_meets_43 : decode cX11_meets 43 = .ok (.getfield 21, 3) := by decide +kernel
theorem dX11_meets_46 : decode cX11_meets 46 = .ok (.aload_n 3, 1) := by decide +kernel
theorem dX11_meets_47 : decode cX11_meets 47 = .ok (.aload_n 3, 1) := by decide +kernel
theorem dX11_meets_48 : decode cX11_meets 48 = .ok (.getfield 154, 3) := by decide +kernel
theorem dX11_meets_51 : decode cX11_meets 51 = .ok (.aload_n 3, 1) := by decide +kernel
theorem dX11_meets_52 : decode cX11_meets 52 = .ok (.getfield 164, 3) := by decide +kernel
theorem dX11_meets_55 : decode cX11_meets 55 = .ok (.aload_n 3, 1) := by decide +kernel
theorem dX11_meets_56 : decode cX11_meets 56 = .ok (.getfield 158, 3) := by decide +kernel
theorem dX11_meets_59 : decode cX11_meets 59 = .ok (.invokevirtual 138, 3) := by decide +kernel
theorem dX11_meets_62 : decode cX11_meets 62 = .ok (.ireturn, 1) := by decide +kernel
theorem dX11_meets_63 : decode cX11_meets 63 = .ok (.aload_n 0, 1) := by decide +kernel
theorem dX11_meets_64 : decode cX11_meets 64 = .ok (.getfield 21, 3) := by decide +kernel
theorem dX11_meets_67 : decode cX11_meets 67 = .ok (.aload_n 3, 1) := by decide +kernel
theorem dX11_meets_68 : decode cX11_meets 68 = .ok (.aload_n 3, 1) := by decide +kernel
theorem dX11_meets_69 : decode cX11_meets 69 = .ok (.getfield 154, 3) := by decide +kernel
theorem dX11_meets_72 : decode cX11_meets 72 = .ok (.aload_n 3, 1) := by decide +kernel
theorem dX11_meets_73 : decode cX11_meets 73 = .ok (.getfield 164, 3) := by decide +kernel
theorem dX11_meets_76 : decode cX11_meets 76 = .ok (.aload_n 3, 1) := by decide +kernel
theorem dX11_meets_77 : decode cX11_meets 77 = .ok (.getfield 158, 3) := by decide +kernel
theorem dX11_meets_80 : decode cX11_meets 80 = .ok (.iload_n 2, 1) := by decide +kernel
theorem dX11_meets_81 : decode cX11_meets 81 = .ok (.invokevirtual 173, 3) := by decide +kernel
theorem dX11_meets_84 : decode cX11_meets 84 = .ok (.aload_n 0, 1) := by decide +kernel
theorem dX11_meets_85 : decode cX11_meets 85 = .ok (.getfield 21, 3) := by decide +kernel
theorem dX11_meets_88 : decode cX11_meets 88 = .ok (.aload_n 3, 1) := by decide +kernel
theorem dX11_meets_89 : decode cX11_meets 89 = .ok (.aload_n 0, 1) := by decide +kernel
theorem dX11_meets_90 : decode cX11_meets 90 = .ok (.getfield 21, 3) := by decide +kernel
theorem dX11_meets_93 : decode cX11_meets 93 = .ok (.getfield 177, 3) := by decide +kernel
theorem dX11_meets_96 : decode cX11_meets 96 = .ok (.aload_n 0, 1) := by decide +kernel
theorem dX11_meets_97 : decode cX11_meets 97 = .ok (.getfield 21, 3) := by decide +kernel
theorem dX11_meets_100 : decode cX11_meets 100 = .ok (.getfield 180, 3) := by decide +kernel
theorem dX11_meets_103 : decode cX11_meets 103 = .ok (.aload_n 0, 1) := by decide +kernel
theorem dX11_meets_104 : decode cX11_meets 104 = .ok (.getfield 21, 3) := by decide +kernel
theorem dX11_meets_107 : decode cX11_meets 107 = .ok (.getfield 183, 3) := by decide +kernel
theorem dX11_meets_110 : decode cX11_meets 110 = .ok (.invokevirtual 138, 3) := by decide +kernel
theorem dX11_meets_113 : decode cX11_meets 113 = .ok (.ireturn, 1) := by decide +kernel
theorem dX11_move_0 : decode cX11_move 0 = .ok (.aload_n 0, 1) := by decide +kernel
theorem dX11_move_1 : decode cX11_move 1 = .ok (.getfield 21, 3) := by decide +kernel
theorem dX11_move_4 : decode cX11_move 4 = .ok (.iload_n 1, 1) := by decide +kernel
theorem dX11_move_5 : decode cX11_move 5 = .ok (.invokevirtual 128, 3) := by decide +kernel
theorem dX11_move_8 : decode cX11_move 8 = .ok (.astore_n 3, 1) := by decide +kernel
theorem dX11_move_9 : decode cX11_move 9 = .ok (.aload_n 3, 1) := by decide +kernel
theorem dX11_move_10 : decode cX11_move 10 = .ok (.ifnull 13, 3) := by decide +kernel
theorem dX11_move_13 : decode cX11_move 13 = .ok (.iload_n 2, 1) := by decide +kernel
theorem dX11_move_14 : decode cX11_move 14 = .ok (.iconst 0, 1) := by decide +kernel
theorem dX11_move_15 : decode cX11_move 15 = .ok (.bipush 9, 2) := by decide +kernel
theorem dX11_move_17 : decode cX11_move 17 = .ok (.invokestatic 71, 3) := by decide +kernel
theorem dX11_move_20 : decode cX11_move 20 = .ok (.ifCond .ne 6, 3) := by decide +kernel
theorem dX11_move_23 : decode cX11_move 23 = .ok (.bipush (-2), 2) := by decide +kernel
theorem dX11_move_25 : decode cX11_move 25 = .ok (.ireturn, 1) := by decide +kernel
theorem dX11_move_26 : decode cX11_move 26 = .ok (.aload_n 0, 1) := by decide +kernel
theorem dX11_move_27 : decode cX11_move 27 = .ok (.getfield 21, 3) := by decide +kernel
theorem dX11_move_30 : decode cX11_move 30 = .ok (.aload_n 3, 1) := by decide +kernel
theorem dX11_move_31 : decode cX11_move 31 = .ok (.iload_n 2, 1) := by decide +kernel
theorem dX11_move_32 : decode cX11_move 32 = .ok (.invokevirtual 186, 3) := by decide +kernel
theorem dX11_move_35 : decode cX11_move 35 = .ok (.ifCond .eq 7, 3) := by decide +kernel
theorem dX11_move_38 : decode cX11_move 38 = .ok (.iconst 1, 1) := by decide +kernel
theorem dX11_move_39 : decode cX11_move 39 = .ok (.goto 5, 3) := by decide +kernel
theorem dX11_move_42 : decode cX11_move 42 = .ok (.bipush (-3), 2) := by decide +kernel
theorem dX11_move_44 : decode cX11_move 44 = .ok (.ireturn, 1) := by decide +kernel
theorem dX11_step_0 : decode cX11_step 0 = .ok (.aload_n 0, 1) := by decide +kernel
theorem dX11_step_1 : decode cX11_step 1 = .ok (.getfield 30, 3) := by decide +kernel
theorem dX11_step_4 : decode cX11_step 4 = .ok (.iload_n 1, 1) := by decide +kernel
theorem dX11_step_5 : decode cX11_step 5 = .ok (.invokevirtual 203, 3) := by decide +kernel
theorem dX11_step_8 : decode cX11_step 8 = .ok (.ireturn, 1) := by decide +kernel
theorem dX11_seen_0 : decode cX11_seen 0 = .ok (.aload_n 0, 1) := by decide +kernel
theorem dX11_seen_1 : decode cX11_seen 1 = .ok (.getfield 30, 3) := by decide +kernel
theorem dX11_seen_4 : decode cX11_seen 4 = .ok (.getfield 206, 3) := by decide +kernel
theorem dX11_seen_7 : decode cX11_seen 7 = .ok (.ireturn, 1) := by decide +kernel
theorem dX11_rope_0 : decode cX11_rope 0 = .ok (.aload_n 0, 1) := by decide +kernel
theorem dX11_rope_1 : decode cX11_rope 1 = .ok (.getfield 21, 3) := by decide +kernel
theorem dX11_rope_4 : decode cX11_rope 4 = .ok (.iload_n 1, 1) := by decide +kernel
theorem dX11_rope_5 : decode cX11_rope 5 = .ok (.invokevirtual 128, 3) := by decide +kernel
theorem dX11_rope_8 : decode cX11_rope 8 = .ok (.astore 6, 2) := by decide +kernel
theorem dX11_rope_10 : decode cX11_rope 10 = .ok (.aload 6, 2) := by decide +kernel
theorem dX11_rope_12 : decode cX11_rope 12 = .ok (.ifnull 12, 3) := by decide +kernel
theorem dX11_rope_15 : decode cX11_rope 15 = .ok (.iload_n 2, 1) := by decide +kernel
theorem dX11_rope_16 : decode cX11_rope 16 = .ok (.iconst 0, 1) := by decide +kernel
theorem dX11_rope_17 : decode cX11_rope 17 = .ok (.iconst 3, 1) := by decide +kernel
theorem dX11_rope_18 : decode cX11_rope 18 = .ok (.invokestatic 71, 3) := by decide +kernel
theorem dX11_rope_21 : decode cX11_rope 21 = .ok (.ifCond .ne 6, 3) := by decide +kernel
theorem dX11_rope_24 : decode cX11_rope 24 = .ok (.bipush (-2), 2) := by decide +kernel
theorem dX11_rope_26 : decode cX11_rope 26 = .ok (.ireturn, 1) := by decide +kernel
theorem dX11_rope_27 : decode cX11_rope 27 = .ok (.iload_n 3, 1) := by decide +kernel
theorem dX11_rope_28 : decode cX11_rope 28 = .ok (.iconst 0, 1) := by decide +kernel
theorem dX11_rope_29 : decode cX11_rope 29 = .ok (.sipush 300, 3) := by decide +kernel
theorem dX11_rope_32 : decode cX11_rope 32 = .ok (.invokestatic 71, 3) := by decide +kernel
theorem dX11_rope_35 : decode cX11_rope 35 = .ok (.ifCond .eq 26, 3) := by decide +kernel
theorem dX11_rope_38 : decode cX11_rope 38 = .ok (.iload 4, 2) := by decide +kernel
theorem dX11_rope_40 : decode cX11_rope 40 = .ok (.iconst 1, 1) := by decide +kernel
theorem dX11_rope_41 : decode cX11_rope 41 = .ok (.bipush 60, 2) := by decide +kernel
theorem dX11_rope_43 : decode cX11_rope 43 = .ok (.invokestatic 71, 3) := by decide +kernel
theorem dX11_rope_46 : decode cX11_rope 46 = .ok (.ifCond .eq 15, 3) := by decide +kernel
theorem dX11_rope_49 : decode cX11_rope 49 = .ok (.iload 5, 2) := by decide +kernel
theorem dX11_rope_51 : decode cX11_rope 51 = .ok (.bipush (-9), 2) := by decide +kernel
theorem dX11_rope_53 : decode cX11_rope 53 = .ok (.bipush 9, 2) := by decide +kernel
theorem dX11_rope_55 : decode cX11_rope 55 = .ok (.invokestatic 71, 3) := by decide +kernel
theorem dX11_rope_58 : decode cX11_rope 58 = .ok (.ifCond .ne 6, 3) := by decide +kernel
theorem dX11_rope_61 : decode cX11_rope 61 = .ok (.bipush (-2), 2) := by decide +kernel
theorem dX11_rope_63 : decode cX11_rope 63 = .ok (.ireturn, 1) := by decide +kernel
theorem dX11_rope_64 : decode cX11_rope 64 = .ok (.aload 6, 2) := by decide +kernel
theorem dX11_rope_66 : decode cX11_rope 66 = .ok (.getfield 209, 3) := by decide +kernel
theorem dX11_rope_69 : decode cX11_rope 69 = .ok (.iload_n 2, 1) := by decide +kernel
theorem dX11_rope_70 : decode cX11_rope 70 = .ok (.iload_n 3, 1) := by decide +kernel
theorem dX11_rope_71 : decode cX11_rope 71 = .ok (.iastore, 1) := by decide +kernel
theorem dX11_rope_72 : decode cX11_rope 72 = .ok (.aload 6, 2) := by decide +kernel
theorem dX11_rope_74 : decode cX11_rope 74 = .ok (.getfield 213, 3) := by decide +kernel
theorem dX11_rope_77 : decode cX11_rope 77 = .ok (.iload_n 2, 1) := by decide +kernel
theorem dX11_rope_78 : decode cX11_rope 78 = .ok (.iload 4, 2) := by decide +kernel
theorem dX11_rope_80 : decode cX11_rope 80 = .ok (.iastore, 1) := by decide +kernel
theorem dX11_rope_81 : decode cX11_rope 81 = .ok (.aload 6, 2) := by decide +kernel
theorem dX11_rope_83 : decode cX11_rope 83 = .ok (.getfield 216, 3) := by decide +kernel
theorem dX11_rope_86 : decode cX11_rope 86 = .ok (.iload_n 2, 1) := by decide +kernel
theorem dX11_rope_87 : decode cX11_rope 87 = .ok (.iload 5, 2) := by decide +kernel
theorem dX11_rope_89 : decode cX11_rope 89 = .ok (.iastore, 1) := by decide +kernel
theorem dX11_rope_90 : decode cX11_rope 90 = .ok (.iconst 1, 1) := by decide +kernel
theorem dX11_rope_91 : decode cX11_rope 91 = .ok (.ireturn, 1) := by decide +kernel
theorem dX11_set_0 : decode cX11_set 0 = .ok (.aload_n 0, 1) := by decide +kernel
theorem dX11_set_1 : decode cX11_set 1 = .ok (.getfield 21, 3) := by decide +kernel
theorem dX11_set_4 : decode cX11_set 4 = .ok (.iload_n 1, 1) := by decide +kernel
theorem dX11_set_5 : decode cX11_set 5 = .ok (.iload_n 2, 1) := by decide +kernel
theorem dX11_set_6 : decode cX11_set 6 = .ok (.invokevirtual 219, 3) := by decide +kernel
theorem dX11_set_9 : decode cX11_set 9 = .ok (.ireturn, 1) := by decide +kernel
theorem dX11_tight_0 : decode cX11_tight 0 = .ok (.aload_n 0, 1) := by decide +kernel
theorem dX11_tight_1 : decode cX11_tight 1 = .ok (.getfield 21, 3) := by decide +kernel
theorem dX11_tight_4 : decode cX11_tight 4 = .ok (.iload_n 1, 1) := by decide +kernel
theorem dX11_tight_5 : decode cX11_tight 5 = .ok (.invokevirtual 128, 3) := by decide +kernel
theorem dX11_tight_8 : decode cX11_tight 8 = .ok (.astore_n 3, 1) := by decide +kernel
theorem dX11_tight_9 : decode cX11_tight 9 = .ok (.aload_n 3, 1) := by decide +kernel
theorem dX11_tight_10 : decode cX11_tight 10 = .ok (.ifnull 12, 3) := by decide +kernel
theorem dX11_tight_13 : decode cX11_tight 13 = .ok (.iload_n 2, 1) := by decide +kernel
theorem dX11_tight_14 : decode cX11_tight 14 = .ok (.iconst 0, 1) := by decide +kernel
theorem dX11_tight_15 : decode cX11_tight 15 = .ok (.iconst 3, 1) := by decide +kernel
theorem dX11_tight_16 : decode cX11_tight 16 = .ok (.invokestatic 71, 3) := by decide +kernel
theorem dX11_tight_19 : decode cX11_tight 19 = .ok (.ifCond .ne 6, 3) := by decide +kernel
theorem dX11_tight_22 : decode cX11_tight 22 = .ok (.bipush (-2), 2) := by decide +kernel
theorem dX11_tight_24 : decode cX11_tight 24 = .ok (.ireturn, 1) := by decide +kernel
theorem dX11_tight_25 : decode cX11_tight 25 = .ok (.aload_n 3, 1) := by decide +kernel
theorem dX11_tight_26 : decode cX11_tight 26 = .ok (.getfield 146, 3) := by decide +kernel
theorem dX11_tight_29 : decode cX11_tight 29 = .ok (.ifCond .ne 6, 3) := by decide +kernel
theorem dX11_tight_32 : decode cX11_tight 32 = .ok (.bipush (-3), 2) := by decide +kernel
theorem dX11_tight_34 : decode cX11_tight 34 = .ok (.ireturn, 1) := by decide +kernel
theorem dX11_tight_35 : decode cX11_tight 35 = .ok (.aload_n 0, 1) := by decide +kernel
theorem dX11_tight_36 : decode cX11_tight 36 = .ok (.getfield 21, 3) := by decide +kernel
theorem dX11_tight_39 : decode cX11_tight 39 = .ok (.aload_n 3, 1) := by decide +kernel
theorem dX11_tight_40 : decode cX11_tight 40 = .ok (.iload_n 2, 1) := by decide +kernel
theorem dX11_tight_41 : decode cX11_tight 41 = .ok (.invokevirtual 222, 3) := by decide +kernel
theorem dX11_tight_44 : decode cX11_tight 44 = .ok (.istore 4, 2) := by decide +kernel
theorem dX11_tight_46 : decode cX11_tight 46 = .ok (.iload 4, 2) := by decide +kernel
theorem dX11_tight_48 : decode cX11_tight 48 = .ok (.iconst (-1), 1) := by decide +kernel
theorem dX11_tight_49 : decode cX11_tight 49 = .ok (.if_icmp .eq 9, 3) := by decide +kernel
theorem dX11_tight_52 : decode cX11_tight 52 = .ok (.bipush 100, 2) := by decide +kernel
theorem dX11_tight_54 : decode cX11_tight 54 = .ok (.iload 4, 2) := by decide +kernel
theorem dX11_tight_56 : decode cX11_tight 56 = .ok (.iadd, 1) := by decide +kernel
theorem dX11_tight_57 : decode cX11_tight 57 = .ok (.ireturn, 1) := by decide +kernel
theorem dX11_tight_58 : decode cX11_tight 58 = .ok (.aload_n 3, 1) := by decide +kernel
theorem dX11_tight_59 : decode cX11_tight 59 = .ok (.iload_n 2, 1) := by decide +kernel
theorem dX11_tight_60 : decode cX11_tight 60 = .ok (.invokevirtual 226, 3) := by decide +kernel
theorem dX11_tight_63 : decode cX11_tight 63 = .ok (.ifCond .eq 7, 3) := by decide +kernel
theorem dX11_tight_66 : decode cX11_tight 66 = .ok (.iconst 1, 1) := by decide +kernel
theorem dX11_tight_67 : decode cX11_tight 67 = .ok (.goto 4, 3) := by decide +kernel
theorem dX11_tight_70 : decode cX11_tight 70 = .ok (.iconst 0, 1) := by decide +kernel
theorem dX11_tight_71 : decode cX11_tight 71 = .ok (.ireturn, 1) := by decide +kernel
theorem dX11_pull_0 : decode cX11_pull 0 = .ok (.aload_n 0, 1) := by decide +kernel
theorem dX11_pull_1 : decode cX11_pull 1 = .ok (.getfield 21, 3) := by decide +kernel
theorem dX11_pull_4 : decode cX11_pull 4 = .ok (.iload_n 1, 1) := by decide +kernel
theorem dX11_pull_5 : decode cX11_pull 5 = .ok (.invokevirtual 128, 3) := by decide +kernel
theorem dX11_pull_8 : decode cX11_pull 8 = .ok (.astore_n 2, 1) := by decide +kernel
theorem dX11_pull_9 : decode cX11_pull 9 = .ok (.aload_n 2, 1) := by decide +kernel
theorem dX11_pull_10 : decode cX11_pull 10 = .ok (.ifnull 10, 3) := by decide +kernel
theorem dX11_pull_13 : decode cX11_pull 13 = .ok (.aload_n 2, 1) := by decide +kernel
theorem dX11_pull_14 : decode cX11_pull 14 = .ok (.getfield 146, 3) := by decide +kernel
theorem dX11_pull_17 : decode cX11_pull 17 = .ok (.ifCond .ne 6, 3) := by decide +kernel
theorem dX11_pull_20 : decode cX11_pull 20 = .ok (.ldc 150, 2) := by decide +kernel
theorem dX11_pull_22 : decode cX11_pull 22 = .ok (.ireturn, 1) := by decide +kernel
theorem dX11_pull_23 : decode cX11_pull 23 = .ok (.aload_n 0, 1) := by decide +kernel
theorem dX11_pull_24 : decode cX11_pull 24 = .ok (.getfield 21, 3) := by decide +kernel
theorem dX11_pull_27 : decode cX11_pull 27 = .ok (.aload_n 2, 1) := by decide +kernel
theorem dX11_pull_28 : decode cX11_pull 28 = .ok (.invokevirtual 229, 3) := by decide +kernel
theorem dX11_pull_31 : decode cX11_pull 31 = .ok (.ireturn, 1) := by decide +kernel
theorem dX11_need_0 : decode cX11_need 0 = .ok (.aload_n 0, 1) := by decide +kernel
theorem dX11_need_1 : decode cX11_need 1 = .ok (.getfield 21, 3) := by decide +kernel
theorem dX11_need_4 : decode cX11_need 4 = .ok (.iload_n 1, 1) := by decide +kernel
theorem dX11_need_5 : decode cX11_need 5 = .ok (.invokevirtual 128, 3) := by decide +kernel
theorem dX11_need_8 : decode cX11_need 8 = .ok (.astore_n 2, 1) := by decide +kernel
theorem dX11_need_9 : decode cX11_need 9 = .ok (.aload_n 2, 1) := by decide +kernel
theorem dX11_need_10 : decode cX11_need 10 = .ok (.ifnull 10, 3) := by decide +kernel
theorem dX11_need_13 : decode cX11_need 13 = .ok (.aload_n 2, 1) := by decide +kernel
theorem dX11_need_14 : decode cX11_need 14 = .ok (.getfield 146, 3) := by decide +kernel
theorem dX11_need_17 : decode cX11_need 17 = .ok (.ifCond .ne 6, 3) := by decide +kernel
theorem dX11_need_20 : decode cX11_need 20 = .ok (.ldc 150, 2) := by decide +kernel
theorem dX11_need_22 : decode cX11_need 22 = .ok (.ireturn, 1) := by decide +kernel
theorem dX11_need_23 : decode cX11_need 23 = .ok (.aload_n 0, 1) := by decide +kernel
theorem dX11_need_24 : decode cX11_need 24 = .ok (.getfield 21, 3) := by decide +kernel
theorem dX11_need_27 : decode cX11_need 27 = .ok (.aload_n 2, 1) := by decide +kernel
theorem dX11_need_28 : decode cX11_need 28 = .ok (.invokevirtual 233, 3) := by decide +kernel
theorem dX11_need_31 : decode cX11_need 31 = .ok (.ireturn, 1) := by decide +kernel
theorem dX11_may_0 : decode cX11_may 0 = .ok (.aload_n 0, 1) := by decide +kernel
theorem dX11_may_1 : decode cX11_may 1 = .ok (.getfield 21, 3) := by decide +kernel
theorem dX11_may_4 : decode cX11_may 4 = .ok (.iload_n 1, 1) := by decide +kernel
theorem dX11_may_5 : decode cX11_may 5 = .ok (.invokevirtual 128, 3) := by decide +kernel
theorem dX11_may_8 : decode cX11_may 8 = .ok (.astore_n 2, 1) := by decide +kernel
theorem dX11_may_9 : decode cX11_may 9 = .ok (.aload_n 2, 1) := by decide +kernel
theorem dX11_may_10 : decode cX11_may 10 = .ok (.ifnonnull 6, 3) := by decide +kernel
theorem dX11_may_13 : decode cX11_may 13 = .ok (.bipush (-2), 2) := by decide +kernel
theorem dX11_may_15 : decode cX11_may 15 = .ok (.ireturn, 1) := by decide +kernel
theorem dX11_may_16 : decode cX11_may 16 = .ok (.aload_n 2, 1) := by decide +kernel
theorem dX11_may_17 : decode cX11_may 17 = .ok (.getfield 146, 3) := by decide +kernel
theorem dX11_may_20 : decode cX11_may 20 = .ok (.ifCond .ne 6, 3) := by decide +kernel
theorem dX11_may_23 : decode cX11_may 23 = .ok (.bipush (-3), 2) := by decide +kernel
theorem dX11_may_25 : decode cX11_may 25 = .ok (.ireturn, 1) := by decide +kernel
theorem dX11_may_26 : decode cX11_may 26 = .ok (.aload_n 0, 1) := by decide +kernel
theorem dX11_may_27 : decode cX11_may 27 = .ok (.getfield 21, 3) := by decide +kernel
theorem dX11_may_30 : decode cX11_may 30 = .ok (.aload_n 2, 1) := by decide +kernel
theorem dX11_may_31 : decode cX11_may 31 = .ok (.invokevirtual 229, 3) := by decide +kernel
theorem dX11_may_34 : decode cX11_may 34 = .ok (.istore_n 3, 1) := by decide +kernel
theorem dX11_may_35 : decode cX11_may 35 = .ok (.iload_n 3, 1) := by decide +kernel
theorem dX11_may_36 : decode cX11_may 36 = .ok (.ifCond .le 19, 3) := by decide +kernel
theorem dX11_may_39 : decode cX11_may 39 = .ok (.iload_n 3, 1) := by decide +kernel
theorem dX11_may_40 : decode cX11_may 40 = .ok (.aload_n 0, 1) := by decide +kernel
theorem dX11_may_41 : decode cX11_may 41 = .ok (.getfield 21, 3) := by decide +kernel
theorem dX11_may_44 : decode cX11_may 44 = .ok (.aload_n 2, 1) := by decide +kernel
theorem dX11_may_45 : decode cX11_may 45 = .ok (.invokevirtual 233, 3) := by decide +kernel
theorem dX11_may_48 : decode cX11_may 48 = .ok (.if_icmp .lt 7, 3) := by decide +kernel
theorem dX11_may_51 : decode cX11_may 51 = .ok (.iconst 1, 1) := by decide +kernel
theorem dX11_may_52 : decode cX11_may 52 = .ok (.goto 4, 3) := by decide +kernel
theorem dX11_may_55 : decode cX11_may 55 = .ok (.iconst 0, 1) := by decide +kernel
theorem dX11_may_56 : decode cX11_may 56 = .ok (.ireturn, 1) := by decide +kernel
theorem dX11_woods_0 : decode cX11_woods 0 = .ok (.aload_n 0, 1) := by decide +kernel
theorem dX11_woods_1 : decode cX11_woods 1 = .ok (.getfield 21, 3) := by decide +kernel
theorem dX11_woods_4 : decode cX11_woods 4 = .ok (.iload_n 1, 1) := by decide +kernel
theorem dX11_woods_5 : decode cX11_woods 5 = .ok (.invokevirtual 128, 3) := by decide +kernel
theorem dX11_woods_8 : decode cX11_woods 8 = .ok (.astore_n 2, 1) := by decide +kernel
theorem dX11_woods_9 : decode cX11_woods 9 = .ok (.aload_n 2, 1) := by decide +kernel
theorem dX11_woods_10 : decode cX11_woods 10 = .ok (.ifnonnull 6, 3) := by decide +kernel
theorem dX11_woods_13 : decode cX11_woods 13 = .ok (.bipush (-2), 2) := by decide +kernel
theorem dX11_woods_15 : decode cX11_woods 15 = .ok (.ireturn, 1) := by decide +kernel
theorem dX11_woods_16 : decode cX11_woods 16 = .ok (.aload_n 2, 1) := by decide +kernel
theorem dX11_woods_17 : decode cX11_woods 17 = .ok (.getfield 146, 3) := by decide +kernel
theorem dX11_woods_20 : decode cX11_woods 20 = .ok (.ifCond .ne 6, 3) := by decide +kernel
theorem dX11_woods_23 : decode cX11_woods 23 = .ok (.bipush (-3), 2) := by decide +kernel
theorem dX11_woods_25 : decode cX11_woods 25 = .ok (.ireturn, 1) := by decide +kernel
theorem dX11_woods_26 : decode cX11_woods 26 = .ok (.aload_n 0, 1) := by decide +kernel
theorem dX11_woods_27 : decode cX11_woods 27 = .ok (.getfield 21, 3) := by decide +kernel
theorem dX11_woods_30 : decode cX11_woods 30 = .ok (.aload_n 2, 1) := by decide +kernel
theorem dX11_woods_31 : decode cX11_woods 31 = .ok (.invokevirtual 236, 3) := by decide +kernel
theorem dX11_woods_34 : decode cX11_woods 34 = .ok (.ireturn, 1) := by decide +kernel
theorem dX11_team_0 : decode cX11_team 0 = .ok (.aload_n 0, 1) := by decide +kernel
theorem dX11_team_1 : decode cX11_team 1 = .ok (.getfield 37, 3) := by decide +kernel
theorem dX11_team_4 : decode cX11_team 4 = .ok (.iload_n 1, 1) := by decide +kernel
theorem dX11_team_5 : decode cX11_team 5 = .ok (.invokevirtual 239, 3) := by decide +kernel
theorem dX11_team_8 : decode cX11_team 8 = .ok (.ireturn, 1) := by decide +kernel
theorem dX11_stage_0 : decode cX11_stage 0 = .ok (.aload_n 0, 1) := by decide +kernel
theorem dX11_stage_1 : decode cX11_stage 1 = .ok (.getfield 37, 3) := by decide +kernel
theorem dX11_stage_4 : decode cX11_stage 4 = .ok (.iload_n 1, 1) := by decide +kernel
theorem dX11_stage_5 : decode cX11_stage 5 = .ok (.invokevirtual 242, 3) := by decide +kernel
theorem dX11_stage_8 : decode cX11_stage 8 = .ok (.ireturn, 1) := by decide +kernel
theorem dX11_run_0 : decode cX11_run 0 = .ok (.aload_n 0, 1) := by decide +kernel
theorem dX11_run_1 : decode cX11_run 1 = .ok (.getfield 37, 3) := by decide +kernel
theorem dX11_run_4 : decode cX11_run 4 = .ok (.iload_n 1, 1) := by decide +kernel
theorem dX11_run_5 : decode cX11_run 5 = .ok (.invokevirtual 245, 3) := by decide +kernel
theorem dX11_run_8 : decode cX11_run 8 = .ok (.ireturn, 1) := by decide +kernel
theorem dX11_roster_0 : decode cX11_roster 0 = .ok (.aload_n 0, 1) := by decide +kernel
theorem dX11_roster_1 : decode cX11_roster 1 = .ok (.getfield 37, 3) := by decide +kernel
theorem dX11_roster_4 : decode cX11_roster 4 = .ok (.invokevirtual 248, 3) := by decide +kernel
theorem dX11_roster_7 : decode cX11_roster 7 = .ok (.ireturn, 1) := by decide +kernel
theorem dX11_pulls_0 : decode cX11_pulls 0 = .ok (.aload_n 0, 1) := by decide +kernel
theorem dX11_pulls_1 : decode cX11_pulls 1 = .ok (.getfield 37, 3) := by decide +kernel
theorem dX11_pulls_4 : decode cX11_pulls 4 = .ok (.iload_n 1, 1) := by decide +kernel
theorem dX11_pulls_5 : decode cX11_pulls 5 = .ok (.invokevirtual 252, 3) := by decide +kernel
theorem dX11_pulls_8 : decode cX11_pulls 8 = .ok (.ireturn, 1) := by decide +kernel
theorem dX11_block_0 : decode cX11_block 0 = .ok (.aload_n 0, 1) := by decide +kernel
theorem dX11_block_1 : decode cX11_block 1 = .ok (.getfield 44, 3) := by decide +kernel
theorem dX11_block_4 : decode cX11_block 4 = .ok (.iload_n 1, 1) := by decide +kernel
theorem dX11_block_5 : decode cX11_block 5 = .ok (.iload_n 2, 1) := by decide +kernel
theorem dX11_block_6 : decode cX11_block 6 = .ok (.iload_n 3, 1) := by decide +kernel
theorem dX11_block_7 : decode cX11_block 7 = .ok (.invokevirtual 255, 3) := by decide +kernel
theorem dX11_block_10 : decode cX11_block 10 = .ok (.ireturn, 1) := by decide +kernel
theorem dX11_enter_0 : decode cX11_enter 0 = .ok (.aload_n 0, 1) := by decide +kernel
theorem dX11_enter_1 : decode cX11_enter 1 = .ok (.getfield 44, 3) := by decide +kernel
theorem dX11_enter_4 : decode cX11_enter 4 = .ok (.iload_n 1, 1) := by decide +kernel
theorem dX11_enter_5 : decode cX11_enter 5 = .ok (.iload_n 2, 1) := by decide +kernel
theorem dX11_enter_6 : decode cX11_enter 6 = .ok (.iload_n 3, 1) := by decide +kernel
theorem dX11_enter_7 : decode cX11_enter 7 = .ok (.invokevirtual 259, 3) := by decide +kernel
theorem dX11_enter_10 : decode cX11_enter 10 = .ok (.ireturn, 1) := by decide +kernel
theorem dX11_stuck_0 : decode cX11_stuck 0 = .ok (.aload_n 0, 1) := by decide +kernel
theorem dX11_stuck_1 : decode cX11_stuck 1 = .ok (.getfield 44, 3) := by decide +kernel
theorem dX11_stuck_4 : decode cX11_stuck 4 = .ok (.iload_n 1, 1) := by decide +kernel
theorem dX11_stuck_5 : decode cX11_stuck 5 = .ok (.iload_n 2, 1) := by decide +kernel
theorem dX11_stuck_6 : decode cX11_stuck 6 = .ok (.iload_n 3, 1) := by decide +kernel
theorem dX11_stuck_7 : decode cX11_stuck 7 = .ok (.invokevirtual 261, 3) := by decide +kernel
theorem dX11_stuck_10 : decode cX11_stuck 10 = .ok (.ireturn, 1) := by decide +kernel
theorem dX11_home_0 : decode cX11_home 0 = .ok (.aload_n 0, 1) := by decide +kernel
theorem dX11_home_1 : decode cX11_home 1 = .ok (.getfield 44, 3) := by decide +kernel
theorem dX11_home_4 : decode cX11_home 4 = .ok (.invokevirtual 264, 3) := by decide +kernel
theorem dX11_home_7 : decode cX11_home 7 = .ok (.ireturn, 1) := by decide +kernel
theorem dX11_gone_0 : decode cX11_gone 0 = .ok (.aload_n 0, 1) := by decide +kernel
theorem dX11_gone_1 : decode cX11_gone 1 = .ok (.getfield 44, 3) := by decide +kernel
theorem dX11_gone_4 : decode cX11_gone 4 = .ok (.iload_n 1, 1) := by decide +kernel
theorem dX11_gone_5 : decode cX11_gone 5 = .ok (.invokevirtual 267, 3) := by decide +kernel
theorem dX11_gone_8 : decode cX11_gone 8 = .ok (.ireturn, 1) := by decide +kernel
theorem dX11_where_0 : decode cX11_where 0 = .ok (.aload_n 0, 1) := by decide +kernel
theorem dX11_where_1 : decode cX11_where 1 = .ok (.getfield 44, 3) := by decide +kernel
theorem dX11_where_4 : decode cX11_where 4 = .ok (.iload_n 1, 1) := by decide +kernel
theorem dX11_where_5 : decode cX11_where 5 = .ok (.iload_n 2, 1) := by decide +kernel
theorem dX11_where_6 : decode cX11_where 6 = .ok (.invokevirtual 270, 3) := by decide +kernel
theorem dX11_where_9 : decode cX11_where 9 = .ok (.ireturn, 1) := by decide +kernel
theorem dX11_task_0 : decode cX11_task 0 = .ok (.aload_n 0, 1) := by decide +kernel
theorem dX11_task_1 : decode cX11_task 1 = .ok (.getfield 51, 3) := by decide +kernel
theorem dX11_task_4 : decode cX11_task 4 = .ok (.iload_n 1, 1) := by decide +kernel
theorem dX11_task_5 : decode cX11_task 5 = .ok (.iload_n 2, 1) := by decide +kernel
theorem dX11_task_6 : decode cX11_task 6 = .ok (.invokevirtual 273, 3) := by decide +kernel
theorem dX11_task_9 : decode cX11_task 9 = .ok (.ireturn, 1) := by decide +kernel
theorem dX11_crews_0 : decode cX11_crews 0 = .ok (.aload_n 0, 1) := by decide +kernel
theorem dX11_crews_1 : decode cX11_crews 1 = .ok (.getfield 51, 3) := by decide +kernel
theorem dX11_crews_4 : decode cX11_crews 4 = .ok (.iload_n 1, 1) := by decide +kernel
theorem dX11_crews_5 : decode cX11_crews 5 = .ok (.invokevirtual 276, 3) := by decide +kernel
theorem dX11_crews_8 : decode cX11_crews 8 = .ok (.ireturn, 1) := by decide +kernel
theorem dX11_late_0 : decode cX11_late 0 = .ok (.aload_n 0, 1) := by decide +kernel
theorem dX11_late_1 : decode cX11_late 1 = .ok (.getfield 51, 3) := by decide +kernel
theorem dX11_late_4 : decode cX11_late 4 = .ok (.iload_n 1, 1) := by decide +kernel
theorem dX11_late_5 : decode cX11_late 5 = .ok (.invokevirtual 279, 3) := by decide +kernel
theorem dX11_late_8 : decode cX11_late 8 = .ok (.ireturn, 1) := by decide +kernel
theorem dX11_latest_0 : decode cX11_latest 0 = .ok (.iload_n 1, 1) := by decide +kernel
theorem dX11_latest_1 : decode cX11_latest 1 = .ok (.iconst 0, 1) := by decide +kernel
theorem dX11_latest_2 : decode cX11_latest 2 = .ok (.iconst 1, 1) := by decide +kernel
theorem dX11_latest_3 : decode cX11_latest 3 = .ok (.invokestatic 71, 3) := by decide +kernel
theorem dX11_latest_6 : decode cX11_latest 6 = .ok (.ifCond .ne 6, 3) := by decide +kernel
theorem dX11_latest_9 : decode cX11_latest 9 = .ok (.bipush (-2), 2) := by decide +kernel
theorem dX11_latest_11 : decode cX11_latest 11 = .ok (.ireturn, 1) := by decide +kernel
theorem dX11_latest_12 : decode cX11_latest 12 = .ok (.iload_n 1, 1) := by decide +kernel
theorem dX11_latest_13 : decode cX11_latest 13 = .ok (.ifCond .ne 13, 3) := by decide +kernel
theorem dX11_latest_16 : decode cX11_latest 16 = .ok (.aload_n 0, 1) := by decide +kernel
theorem dX11_latest_17 : decode cX11_latest 17 = .ok (.getfield 51, 3) := by decide +kernel
theorem dX11_latest_20 : decode cX11_latest 20 = .ok (.invokevirtual 282, 3) := by decide +kernel
theorem dX11_latest_23 : decode cX11_latest 23 = .ok (.goto 10, 3) := by decide +kernel
theorem dX11_latest_26 : decode cX11_latest 26 = .ok (.aload_n 0, 1) := by decide +kernel
theorem dX11_latest_27 : decode cX11_latest 27 = .ok (.getfield 51, 3) := by decide +kernel
theorem dX11_latest_30 : decode cX11_latest 30 = .ok (.invokevirtual 285, 3) := by decide +kernel
theorem dX11_latest_33 : decode cX11_latest 33 = .ok (.ireturn, 1) := by decide +kernel
theorem dX11_type_0 : decode cX11_type 0 = .ok (.aload_n 0, 1) := by decide +kernel
theorem dX11_type_1 : decode cX11_type 1 = .ok (.getfield 60, 3) := by decide +kernel
theorem dX11_type_4 : decode cX11_type 4 = .ok (.iload_n 1, 1) := by decide +kernel
theorem dX11_type_5 : decode cX11_type 5 = .ok (.invokevirtual 288, 3) := by decide +kernel
theorem dX11_type_8 : decode cX11_type 8 = .ok (.ireturn, 1) := by decide +kernel
theorem dX11_tear_0 : decode cX11_tear 0 = .ok (.aload_n 0, 1) := by decide +kernel
theorem dX11_tear_1 : decode cX11_tear 1 = .ok (.getfield 60, 3) := by decide +kernel
theorem dX11_tear_4 : decode cX11_tear 4 = .ok (.invokevirtual 291, 3) := by decide +kernel
theorem dX11_tear_7 : decode cX11_tear 7 = .ok (.ireturn, 1) := by decide +kernel
theorem dX11_fault_0 : decode cX11_fault 0 = .ok (.aload_n 0, 1) := by decide +kernel
theorem dX11_fault_1 : decode cX11_fault 1 = .ok (.getfield 60, 3) := by decide +kernel
theorem dX11_fault_4 : decode cX11_fault 4 = .ok (.invokevirtual 294, 3) := by decide +kernel
theorem dX11_fault_7 : decode cX11_fault 7 = .ok (.ireturn, 1) := by decide +kernel
theorem dX11_perform_0 : decode cX11_perform 0 = .ok (.aload_n 0, 1) := by decide +kernel
theorem dX11_perform_1 : decode cX11_perform 1 = .ok (.getfield 21, 3) := by decide +kernel
theorem dX11_perform_4 : decode cX11_perform 4 = .ok (.iload_n 1, 1) := by decide +kernel
theorem dX11_perform_5 : decode cX11_perform 5 = .ok (.invokevirtual 128, 3) := by decide +kernel
theorem dX11_perform_8 : decode cX11_perform 8 = .ok (.astore_n 2, 1) := by decide +kernel
theorem dX11_perform_9 : decode cX11_perform 9 = .ok (.aload_n 2, 1) := by decide +kernel
theorem dX11_perform_10 : decode cX11_perform 10 = .ok (.ifnonnull 6, 3) := by decide +kernel
theorem dX11_perform_13 : decode cX11_perform 13 = .ok (.bipush (-2), 2) := by decide +kernel
theorem dX11_perform_15 : decode cX11_perform 15 = .ok (.ireturn, 1) := by decide +kernel
theorem dX11_perform_16 : decode cX11_perform 16 = .ok (.aload_n 2, 1) := by decide +kernel
theorem dX11_perform_17 : decode cX11_perform 17 = .ok (.getfield 146, 3) := by decide +kernel
theorem dX11_perform_20 : decode cX11_perform 20 = .ok (.ifCond .eq 14, 3) := by decide +kernel
theorem dX11_perform_23 : decode cX11_perform 23 = .ok (.aload_n 0, 1) := by decide +kernel
theorem dX11_perform_24 : decode cX11_perform 24 = .ok (.getfield 60, 3) := by decide +kernel
theorem dX11_perform_27 : decode cX11_perform 27 = .ok (.invokevirtual 294, 3) := by decide +kernel
theorem dX11_perform_30 : decode cX11_perform 30 = .ok (.iconst (-1), 1) := by decide +kernel
theorem dX11_perform_31 : decode cX11_perform 31 = .ok (.if_icmp .eq 6, 3) := by decide +kernel
theorem dX11_perform_34 : decode cX11_perform 34 = .ok (.bipush (-3), 2) := by decide +kernel
theorem dX11_perform_36 : decode cX11_perform 36 = .ok (.ireturn, 1) := by decide +kernel
theorem dX11_perform_37 : decode cX11_perform 37 = .ok (.aload_n 0, 1) := by decide +kernel
theorem dX11_perform_38 : decode cX11_perform 38 = .ok (.getfield 60, 3) := by decide +kernel
theorem dX11_perform_41 : decode cX11_perform 41 = .ok (.aload_n 2, 1) := by decide +kernel
theorem dX11_perform_42 : decode cX11_perform 42 = .ok (.invokevirtual 297, 3) := by decide +kernel
theorem dX11_perform_45 : decode cX11_perform 45 = .ok (.ireturn, 1) := by decide +kernel
theorem dX11_sheet_0 : decode cX11_sheet 0 = .ok (.aload_n 0, 1) := by decide +kernel
theorem dX11_sheet_1 : decode cX11_sheet 1 = .ok (.getfield 67, 3) := by decide +kernel
theorem dX11_sheet_4 : decode cX11_sheet 4 = .ok (.iload_n 1, 1) := by decide +kernel
theorem dX11_sheet_5 : decode cX11_sheet 5 = .ok (.iload_n 2, 1) := by decide +kernel
theorem dX11_sheet_6 : decode cX11_sheet 6 = .ok (.iload_n 3, 1) := by decide +kernel
theorem dX11_sheet_7 : decode cX11_sheet 7 = .ok (.invokevirtual 300, 3) := by decide +kernel
theorem dX11_sheet_10 : decode cX11_sheet 10 = .ok (.ireturn, 1) := by decide +kernel
theorem dX11_lose_0 : decode cX11_lose 0 = .ok (.aload_n 0, 1) := by decide +kernel
theorem dX11_lose_1 : decode cX11_lose 1 = .ok (.getfield 67, 3) := by decide +kernel
theorem dX11_lose_4 : decode cX11_lose 4 = .ok (.iload_n 1, 1) := by decide +kernel
theorem dX11_lose_5 : decode cX11_lose 5 = .ok (.invokevirtual 303, 3) := by decide +kernel
theorem dX11_lose_8 : decode cX11_lose 8 = .ok (.ireturn, 1) := by decide +kernel
theorem dX11_put_0 : decode cX11_put 0 = .ok (.aload_n 0, 1) := by decide +kernel
theorem dX11_put_1 : decode cX11_put 1 = .ok (.getfield 67, 3) := by decide +kernel
theorem dX11_put_4 : decode cX11_put 4 = .ok (.iload_n 1, 1) := by decide +kernel
theorem dX11_put_5 : decode cX11_put 5 = .ok (.iload_n 2, 1) := by decide +kernel
theorem dX11_put_6 : decode cX11_put 6 = .ok (.iload_n 3, 1) := by decide +kernel
theorem dX11_put_7 : decode cX11_put 7 = .ok (.iload 4, 2) := by decide +kernel
theorem dX11_put_9 : decode cX11_put 9 = .ok (.invokevirtual 306, 3) := by decide +kernel
theorem dX11_put_12 : decode cX11_put 12 = .ok (.ireturn, 1) := by decide +kernel
theorem dX11_get_0 : decode cX11_get 0 = .ok (.aload_n 0, 1) := by decide +kernel
theorem dX11_get_1 : decode cX11_get 1 = .ok (.getfield 67, 3) := by decide +kernel
theorem dX11_get_4 : decode cX11_get 4 = .ok (.iload_n 1, 1) := by decide +kernel
theorem dX11_get_5 : decode cX11_get 5 = .ok (.iload_n 2, 1) := by decide +kernel
theorem dX11_get_6 : decode cX11_get 6 = .ok (.iload_n 3, 1) := by decide +kernel
theorem dX11_get_7 : decode cX11_get 7 = .ok (.invokevirtual 309, 3) := by decide +kernel
theorem dX11_get_10 : decode cX11_get 10 = .ok (.ireturn, 1) := by decide +kernel
theorem dX11_copy_0 : decode cX11_copy 0 = .ok (.aload_n 0, 1) := by decide +kernel
theorem dX11_copy_1 : decode cX11_copy 1 = .ok (.getfield 67, 3) := by decide +kernel
theorem dX11_copy_4 : decode cX11_copy 4 = .ok (.iload_n 1, 1) := by decide +kernel
theorem dX11_copy_5 : decode cX11_copy 5 = .ok (.iload_n 2, 1) := by decide +kernel
theorem dX11_copy_6 : decode cX11_copy 6 = .ok (.iload_n 3, 1) := by decide +kernel
theorem dX11_copy_7 : decode cX11_copy 7 = .ok (.iload 4, 2) := by decide +kernel
theorem dX11_copy_9 : decode cX11_copy 9 = .ok (.iload 5, 2) := by decide +kernel
theorem dX11_copy_11 : decode cX11_copy 11 = .ok (.invokevirtual 312, 3) := by decide +kernel
theorem dX11_copy_14 : decode cX11_copy 14 = .ok (.ireturn, 1) := by decide +kernel
theorem dX11_count_0 : decode cX11_count 0 = .ok (.iload_n 1, 1) := by decide +kernel
theorem dX11_count_1 : decode cX11_count 1 = .ok (.tableswitch 171 0 12 #[67, 75, 83, 91, 99, 107, 115, 123, 131, 139, 147, 155, 163], 67) := by decide +kernel
theorem dX11_count_68 : decode cX11_count 68 = .ok (.aload_n 0, 1) := by decide +kernel
theorem dX11_count_69 : decode cX11_count 69 = .ok (.getfield 10, 3) := by decide +kernel
theorem dX11_count_72 : decode cX11_count 72 = .ok (.getfield 322, 3) := by decide +kernel
theorem dX11_count_75 : decode cX11_count 75 = .ok (.ireturn, 1) := by decide +kernel
theorem dX11_count_76 : decode cX11_count 76 = .ok (.aload_n 0, 1) := by decide +kernel
theorem dX11_count_77 : decode cX11_count 77 = .ok (.getfield 10, 3) := by decide +kernel
theorem dX11_count_80 : decode cX11_count 80 = .ok (.getfield 325, 3) := by decide +kernel
theorem dX11_count_83 : decode cX11_count 83 = .ok (.ireturn, 1) := by decide +kernel
theorem dX11_count_84 : decode cX11_count 84 = .ok (.aload_n 0, 1) := by decide +kernel
theorem dX11_count_85 : decode cX11_count 85 = .ok (.getfield 10, 3) := by decide +kernel
theorem dX11_count_88 : decode cX11_count 88 = .ok (.invokevirtual 328, 3) := by decide +kernel
theorem dX11_count_91 : decode cX11_count 91 = .ok (.ireturn, 1) := by decide +kernel
theorem dX11_count_92 : decode cX11_count 92 = .ok (.aload_n 0, 1) := by decide +kernel
theorem dX11_count_93 : decode cX11_count 93 = .ok (.getfield 10, 3) := by decide +kernel
theorem dX11_count_96 : decode cX11_count 96 = .ok (.getfield 331, 3) := by decide +kernel
theorem dX11_count_99 : decode cX11_count 99 = .ok (.ireturn, 1) := by decide +kernel
theorem dX11_count_100 : decode cX11_count 100 = .ok (.aload_n 0, 1) := by decide +kernel
theorem dX11_count_101 : decode cX11_count 101 = .ok (.getfield 21, 3) := by decide +kernel
theorem dX11_count_104 : decode cX11_count 104 = .ok (.getfield 334, 3) := by decide +kernel
theorem dX11_count_107 : decode cX11_count 107 = .ok (.ireturn, 1) := by decide +kernel
theorem dX11_count_108 : decode cX11_count 108 = .ok (.aload_n 0, 1) := by decide +kernel
theorem dX11_count_109 : decode cX11_count 109 = .ok (.getfield 21, 3) := by decide +kernel
theorem dX11_count_112 : decode cX11_count 112 = .ok (.invokevirtual 337, 3) := by decide +kernel
theorem dX11_count_115 : decode cX11_count 115 = .ok (.ireturn, 1) := by decide +kernel
theorem dX11_count_116 : decode cX11_count 116 = .ok (.aload_n 0, 1) := by decide +kernel
theorem dX11_count_117 : decode cX11_count 117 = .ok (.getfield 44, 3) := by decide +kernel
theorem dX11_count_120 : decode cX11_count 120 = .ok (.getfield 340, 3) := by decide +kernel
theorem dX11_count_123 : decode cX11_count 123 = .ok (.ireturn, 1) := by decide +kernel
theorem dX11_count_124 : decode cX11_count 124 = .ok (.aload_n 0, 1) := by decide +kernel
theorem dX11_count_125 : decode cX11_count 125 = .ok (.getfield 51, 3) := by decide +kernel
theorem dX11_count_128 : decode cX11_count 128 = .ok (.getfield 341, 3) := by decide +kernel
theorem dX11_count_131 : decode cX11_count 131 = .ok (.ireturn, 1) := by decide +kernel
theorem dX11_count_132 : decode cX11_count 132 = .ok (.aload_n 0, 1) := by decide +kernel
theorem dX11_count_133 : decode cX11_count 133 = .ok (.getfield 60, 3) := by decide +kernel
theorem dX11_count_136 : decode cX11_count 136 = .ok (.getfield 344, 3) := by decide +kernel
theorem dX11_count_139 : decode cX11_count 139 = .ok (.ireturn, 1) := by decide +kernel
theorem dX11_count_140 : decode cX11_count 140 = .ok (.aload_n 0, 1) := by decide +kernel
theorem dX11_count_141 : decode cX11_count 141 = .ok (.getfield 67, 3) := by decide +kernel
theorem dX11_count_144 : decode cX11_count 144 = .ok (.getfield 347, 3) := by decide +kernel
theorem dX11_count_147 : decode cX11_count 147 = .ok (.ireturn, 1) := by decide +kernel
theorem dX11_count_148 : decode cX11_count 148 = .ok (.aload_n 0, 1) := by decide +kernel
theorem dX11_count_149 : decode cX11_count 149 = .ok (.getfield 37, 3) := by decide +kernel
theorem dX11_count_152 : decode cX11_count 152 = .ok (.getfield 350, 3) := by decide +kernel
theorem dX11_count_155 : decode cX11_count 155 = .ok (.ireturn, 1) := by decide +kernel
theorem dX11_count_156 : decode cX11_count 156 = .ok (.aload_n 0, 1) := by decide +kernel
theorem dX11_count_157 : decode cX11_count 157 = .ok (.getfield 37, 3) := by decide +kernel
theorem dX11_count_160 : decode cX11_count 160 = .ok (.getfield 353, 3) := by decide +kernel
theorem dX11_count_163 : decode cX11_count 163 = .ok (.ireturn, 1) := by decide +kernel
theorem dX11_count_164 : decode cX11_count 164 = .ok (.aload_n 0, 1) := by decide +kernel
theorem dX11_count_165 : decode cX11_count 165 = .ok (.getfield 21, 3) := by decide +kernel
theorem dX11_count_168 : decode cX11_count 168 = .ok (.getfield 170, 3) := by decide +kernel
theorem dX11_count_171 : decode cX11_count 171 = .ok (.ireturn, 1) := by decide +kernel
theorem dX11_count_172 : decode cX11_count 172 = .ok (.bipush (-2), 2) := by decide +kernel
theorem dX11_count_174 : decode cX11_count 174 = .ok (.ireturn, 1) := by decide +kernel
theorem dX11_digestCars_0 : decode cX11_digestCars 0 = .ok (.lload_n 1, 1) := by decide +kernel
theorem dX11_digestCars_1 : decode cX11_digestCars 1 = .ok (.lstore_n 3, 1) := by decide +kernel
theorem dX11_digestCars_2 : decode cX11_digestCars 2 = .ok (.iconst 0, 1) := by decide +kernel
theorem dX11_digestCars_3 : decode cX11_digestCars 3 = .ok (.istore 5, 2) := by decide +kernel
theorem dX11_digestCars_5 : decode cX11_digestCars 5 = .ok (.iload 5, 2) := by decide +kernel
theorem dX11_digestCars_7 : decode cX11_digestCars 7 = .ok (.aload_n 0, 1) := by decide +kernel
theorem dX11_digestCars_8 : decode cX11_digestCars 8 = .ok (.getfield 21, 3) := by decide +kernel
theorem dX11_digestCars_11 : decode cX11_digestCars 11 = .ok (.getfield 334, 3) := by decide +kernel
theorem dX11_digestCars_14 : decode cX11_digestCars 14 = .ok (.if_icmp .ge 41, 3) := by decide +kernel
theorem dX11_digestCars_17 : decode cX11_digestCars 17 = .ok (.iconst 0, 1) := by decide +kernel
theorem dX11_digestCars_18 : decode cX11_digestCars 18 = .ok (.istore 6, 2) := by decide +kernel
theorem dX11_digestCars_20 : decode cX11_digestCars 20 = .ok (.iload 6, 2) := by decide +kernel
theorem dX11_digestCars_22 : decode cX11_digestCars 22 = .ok (.bipush 9, 2) := by decide +kernel
theorem dX11_digestCars_24 : decode cX11_digestCars 24 = .ok (.if_icmp .gt 25, 3) := by decide +kernel
theorem dX11_digestCars_27 : decode cX11_digestCars 27 = .ok (.ldc2_w 358, 3) := by decide +kernel
theorem dX11_digestCars_30 : decode cX11_digestCars 30 = .ok (.lload_n 3, 1) := by decide +kernel
theorem dX11_digestCars_31 : decode cX11_digestCars 31 = .ok (.lmul, 1) := by decide +kernel
theorem dX11_digestCars_32 : decode cX11_digestCars 32 = .ok (.aload_n 0, 1) := by decide +kernel
theorem dX11_digestCars_33 : decode cX11_digestCars 33 = .ok (.iload 5, 2) := by decide +kernel
theorem dX11_digestCars_35 : decode cX11_digestCars 35 = .ok (.iload 6, 2) := by decide +kernel
theorem dX11_digestCars_37 : decode cX11_digestCars 37 = .ok (.invokevirtual 367, 3) := by decide +kernel
theorem dX11_digestCars_40 : decode cX11_digestCars 40 = .ok (.i2l, 1) := by decide +kernel
theorem dX11_digestCars_41 : decode cX11_digestCars 41 = .ok (.ladd, 1) := by decide +kernel
theorem dX11_digestCars_42 : decode cX11_digestCars 42 = .ok (.lstore_n 3, 1) := by decide +kernel
theorem dX11_digestCars_43 : decode cX11_digestCars 43 = .ok (.iinc 6 1, 3) := by decide +kernel
theorem dX11_digestCars_46 : decode cX11_digestCars 46 = .ok (.goto (-26), 3) := by decide +kernel
theorem dX11_digestCars_49 : decode cX11_digestCars 49 = .ok (.iinc 5 1, 3) := by decide +kernel
theorem dX11_digestCars_52 : decode cX11_digestCars 52 = .ok (.goto (-47), 3) := by decide +kernel
theorem dX11_digestCars_55 : decode cX11_digestCars 55 = .ok (.iconst 0, 1) := by decide +kernel
theorem dX11_digestCars_56 : decode cX11_digestCars 56 = .ok (.istore 5, 2) := by decide +kernel
theorem dX11_digestCars_58 : decode cX11_digestCars 58 = .ok (.iload 5, 2) := by decide +kernel
theorem dX11_digestCars_60 : decode cX11_digestCars 60 = .ok (.aload_n 0, 1) := by decide +kernel
theorem dX11_digestCars_61 : decode cX11_digestCars 61 = .ok (.getfield 21, 3) := by decide +kernel
theorem dX11_digestCars_64 : decode cX11_digestCars 64 = .ok (.getfield 334, 3) := by decide +kernel
theorem dX11_digestCars_67 : decode cX11_digestCars 67 = .ok (.if_icmp .ge 67, 3) := by decide +kernel
theorem dX11_digestCars_70 : decode cX11_digestCars 70 = .ok (.aload_n 0, 1) := by decide +kernel
theorem dX11_digestCars_71 : decode cX11_digestCars 71 = .ok (.getfield 21, 3) := by decide +kernel
theorem dX11_digestCars_74 : decode cX11_digestCars 74 = .ok (.iload 5, 2) := by decide +kernel
theorem dX11_digestCars_76 : decode cX11_digestCars 76 = .ok (.invokevirtual 128, 3) := by decide +kernel
theorem dX11_digestCars_79 : decode cX11_digestCars 79 = .ok (.astore 6, 2) := by decide +kernel
theorem dX11_digestCars_81 : decode cX11_digestCars 81 = .ok (.aload 6, 2) := by decide +kernel
theorem dX11_digestCars_83 : decode cX11_digestCars 83 = .ok (.ifnull 45, 3) := by decide +kernel
theorem dX11_digestCars_86 : decode cX11_digestCars 86 = .ok (.aload 6, 2) := by decide +kernel
theorem dX11_digestCars_88 : decode cX11_digestCars 88 = .ok (.getfield 146, 3) := by decide +kernel
theorem dX11_digestCars_91 : decode cX11_digestCars 91 = .ok (.ifCond .eq 37, 3) := by decide +kernel
theorem dX11_digestCars_94 : decode cX11_digestCars 94 = .ok (.ldc2_w 358, 3) := by decide +kernel
theorem dX11_digestCars_97 : decode cX11_digestCars 97 = .ok (.lload_n 3, 1) := by decide +kernel
theorem dX11_digestCars_98 : decode cX11_digestCars 98 = .ok (.lmul, 1) := by decide +kernel
theorem dX11_digestCars_99 : decode cX11_digestCars 99 = .ok (.aload_n 0, 1) := by decide +kernel
theorem dX11_digestCars_100 : decode cX11_digestCars 100 = .ok (.getfield 21, 3) := by decide +kernel
theorem dX11_digestCars_103 : decode cX11_digestCars 103 = .ok (.aload 6, 2) := by decide +kernel
theorem dX11_digestCars_105 : decode cX11_digestCars 105 = .ok (.invokevirtual 229, 3) := by decide +kernel
theorem dX11_digestCars_108 : decode cX11_digestCars 108 = .ok (.i2l, 1) := by decide +kernel
theorem dX11_digestCars_109 : decode cX11_digestCars 109 = .ok (.ladd, 1) := by decide +kernel
theorem dX11_digestCars_110 : decode cX11_digestCars 110 = .ok (.lstore_n 3, 1) := by decide +kernel
theorem dX11_digestCars_111 : decode cX11_digestCars 111 = .ok (.ldc2_w 358, 3) := by decide +kernel
theorem dX11_digestCars_114 : decode cX11_digestCars 114 = .ok (.lload_n 3, 1) := by decide +kernel
theorem dX11_digestCars_115 : decode cX11_digestCars 115 = .ok (.lmul, 1) := by decide +kernel
theorem dX11_digestCars_116 : decode cX11_digestCars 116 = .ok (.aload_n 0, 1) := by decide +kernel
theorem dX11_digestCars_117 : decode cX11_digestCars 117 = .ok (.getfield 21, 3) := by decide +kernel
theorem dX11_digestCars_120 : decode cX11_digestCars 120 = .ok (.aload 6, 2) := by decide +kernel
theorem dX11_digestCars_122 : decode cX11_digestCars 122 = .ok (.invokevirtual 233, 3) := by decide +kernel
theorem dX11_digestCars_125 : decode cX11_digestCars 125 = .ok (.i2l, 1) := by decide +kernel
theorem dX11_digestCars_126 : decode cX11_digestCars 126 = .ok (.ladd, 1) := by decide +kernel
theorem dX11_digestCars_127 : decode cX11_digestCars 127 = .ok (.lstore_n 3, 1) := by decide +kernel
theorem dX11_digestCars_128 : decode cX11_digestCars 128 = .ok (.iinc 5 1, 3) := by decide +kernel
theorem dX11_digestCars_131 : decode cX11_digestCars 131 = .ok (.goto (-73), 3) := by decide +kernel
theorem dX11_digestCars_134 : decode cX11_digestCars 134 = .ok (.lload_n 3, 1) := by decide +kernel
theorem dX11_digestCars_135 : decode cX11_digestCars 135 = .ok (.lreturn, 1) := by decide +kernel
theorem dX11_digest_0 : decode cX11_digest 0 = .ok (.ldc2_w 356, 3) := by decide +kernel
theorem dX11_digest_3 : decode cX11_digest 3 = .ok (.lstore_n 1, 1) := by decide +kernel
theorem dX11_digest_4 : decode cX11_digest 4 = .ok (.iconst 0, 1) := by decide +kernel
theorem dX11_digest_5 : decode cX11_digest 5 = .ok (.istore_n 3, 1) := by decide +kernel
theorem dX11_digest_6 : decode cX11_digest 6 = .ok (.iload_n 3, 1) := by decide +kernel
theorem dX11_digest_7 : decode cX11_digest 7 = .ok (.bipush 12, 2) := by decide +kernel
theorem dX11_digest_9 : decode cX11_digest 9 = .ok (.if_icmp .gt 28, 3) := by decide +kernel
theorem dX11_digest_12 : decode cX11_digest 12 = .ok (.iload_n 3, 1) := by decide +kernel
theorem dX11_digest_13 : decode cX11_digest 13 = .ok (.bipush 9, 2) := by decide +kernel
theorem dX11_digest_15 : decode cX11_digest 15 = .ok (.if_icmp .eq 16, 3) := by decide +kernel
theorem dX11_digest_18 : decode cX11_digest 18 = .ok (.ldc2_w 358, 3) := by decide +kernel
theorem dX11_digest_21 : decode cX11_digest 21 = .ok (.lload_n 1, 1) := by decide +kernel
theorem dX11_digest_22 : decode cX11_digest 22 = .ok (.lmul, 1) := by decide +kernel
theorem dX11_digest_23 : decode cX11_digest 23 = .ok (.aload_n 0, 1) := by decide +kernel
theorem dX11_digest_24 : decode cX11_digest 24 = .ok (.iload_n 3, 1) := by decide +kernel
theorem dX11_digest_25 : decode cX11_digest 25 = .ok (.invokevirtual 360, 3) := by decide +kernel
theorem dX11_digest_28 : decode cX11_digest 28 = .ok (.i2l, 1) := by decide +kernel
theorem dX11_digest_29 : decode cX11_digest 29 = .ok (.ladd, 1) := by decide +kernel
theorem dX11_digest_30 : decode cX11_digest 30 = .ok (.lstore_n 1, 1) := by decide +kernel
theorem dX11_digest_31 : decode cX11_digest 31 = .ok (.iinc 3 1, 3) := by decide +kernel
theorem dX11_digest_34 : decode cX11_digest 34 = .ok (.goto (-28), 3) := by decide +kernel
theorem dX11_digest_37 : decode cX11_digest 37 = .ok (.aload_n 0, 1) := by decide +kernel
theorem dX11_digest_38 : decode cX11_digest 38 = .ok (.lload_n 1, 1) := by decide +kernel
theorem dX11_digest_39 : decode cX11_digest 39 = .ok (.invokevirtual 363, 3) := by decide +kernel
theorem dX11_digest_42 : decode cX11_digest 42 = .ok (.lstore_n 1, 1) := by decide +kernel
theorem dX11_digest_43 : decode cX11_digest 43 = .ok (.iconst 0, 1) := by decide +kernel
theorem dX11_digest_44 : decode cX11_digest 44 = .ok (.istore_n 3, 1) := by decide +kernel
theorem dX11_digest_45 : decode cX11_digest 45 = .ok (.iload_n 3, 1) := by decide +kernel
theorem dX11_digest_46 : decode cX11_digest 46 = .ok (.aload_n 0, 1) := by decide +kernel
theorem dX11_digest_47 : decode cX11_digest 47 = .ok (.getfield 44, 3) := by decide +kernel
theorem dX11_digest_50 : decode cX11_digest 50 = .ok (.getfield 340, 3) := by decide +kernel
theorem dX11_digest_53 : decode cX11_digest 53 = .ok (.if_icmp .ge 25, 3) := by decide +kernel
theorem dX11_digest_56 : decode cX11_digest 56 = .ok (.ldc2_w 358, 3) := by decide +kernel
theorem dX11_digest_59 : decode cX11_digest 59 = .ok (.lload_n 1, 1) := by decide +kernel
theorem dX11_digest_60 : decode cX11_digest 60 = .ok (.lmul, 1) := by decide +kernel
theorem dX11_digest_61 : decode cX11_digest 61 = .ok (.aload_n 0, 1) := by decide +kernel
theorem dX11_digest_62 : decode cX11_digest 62 = .ok (.getfield 44, 3) := by decide +kernel
theorem dX11_digest_65 : decode cX11_digest 65 = .ok (.iload_n 3, 1) := by decide +kernel
theorem dX11_digest_66 : decode cX11_digest 66 = .ok (.invokevirtual 267, 3) := by decide +kernel
theorem dX11_digest_69 : decode cX11_digest 69 = .ok (.i2l, 1) := by decide +kernel
theorem dX11_digest_70 : decode cX11_digest 70 = .ok (.ladd, 1) := by decide +kernel
theorem dX11_digest_71 : decode cX11_digest 71 = .ok (.lstore_n 1, 1) := by decide +kernel
theorem dX11_digest_72 : decode cX11_digest 72 = .ok (.iinc 3 1, 3) := by decide +kernel
theorem dX11_digest_75 : decode cX11_digest 75 = .ok (.goto (-30), 3) := by decide +kernel
theorem dX11_digest_78 : decode cX11_digest 78 = .ok (.iconst 0, 1) := by decide +kernel
theorem dX11_digest_79 : decode cX11_digest 79 = .ok (.istore_n 3, 1) := by decide +kernel
theorem dX11_digest_80 : decode cX11_digest 80 = .ok (.iload_n 3, 1) := by decide +kernel
theorem dX11_digest_81 : decode cX11_digest 81 = .ok (.aload_n 0, 1) := by decide +kernel
theorem dX11_digest_82 : decode cX11_digest 82 = .ok (.getfield 51, 3) := by decide +kernel
theorem dX11_digest_85 : decode cX11_digest 85 = .ok (.getfield 341, 3) := by decide +kernel
theorem dX11_digest_88 : decode cX11_digest 88 = .ok (.if_icmp .ge 25, 3) := by decide +kernel
theorem dX11_digest_91 : decode cX11_digest 91 = .ok (.ldc2_w 358, 3) := by decide +kernel
theorem dX11_digest_94 : decode cX11_digest 94 = .ok (.lload_n 1, 1) := by decide +kernel
theorem dX11_digest_95 : decode cX11_digest 95 = .ok (.lmul, 1) := by decide +kernel
theorem dX11_digest_96 : decode cX11_digest 96 = .ok (.aload_n 0, 1) := by decide +kernel
theorem dX11_digest_97 : decode cX11_digest 97 = .ok (.getfield 51, 3) := by decide +kernel
theorem dX11_digest_100 : decode cX11_digest 100 = .ok (.iload_n 3, 1) := by decide +kernel
theorem dX11_digest_101 : decode cX11_digest 101 = .ok (.invokevirtual 279, 3) := by decide +kernel
theorem dX11_digest_104 : decode cX11_digest 104 = .ok (.i2l, 1) := by decide +kernel
theorem dX11_digest_105 : decode cX11_digest 105 = .ok (.ladd, 1) := by decide +kernel
theorem dX11_digest_106 : decode cX11_digest 106 = .ok (.lstore_n 1, 1) := by decide +kernel
theorem dX11_digest_107 : decode cX11_digest 107 = .ok (.iinc 3 1, 3) := by decide +kernel
theorem dX11_digest_110 : decode cX11_digest 110 = .ok (.goto (-30), 3) := by decide +kernel
theorem dX11_digest_113 : decode cX11_digest 113 = .ok (.ldc2_w 358, 3) := by decide +kernel
theorem dX11_digest_116 : decode cX11_digest 116 = .ok (.lload_n 1, 1) := by decide +kernel
theorem dX11_digest_117 : decode cX11_digest 117 = .ok (.lmul, 1) := by decide +kernel
theorem dX11_digest_118 : decode cX11_digest 118 = .ok (.aload_n 0, 1) := by decide +kernel
theorem dX11_digest_119 : decode cX11_digest 119 = .ok (.getfield 37, 3) := by decide +kernel
theorem dX11_digest_122 : decode cX11_digest 122 = .ok (.invokevirtual 248, 3) := by decide +kernel
theorem dX11_digest_125 : decode cX11_digest 125 = .ok (.i2l, 1) := by decide +kernel
theorem dX11_digest_126 : decode cX11_digest 126 = .ok (.ladd, 1) := by decide +kernel
theorem dX11_digest_127 : decode cX11_digest 127 = .ok (.lreturn, 1) := by decide +kernel
def f_X11_turn (a1 : Int32) (a2 : Int32) : Int32 :=
if (f_X11_within a1 (0 : Int32) (35 : Int32)) = 0 then
(-1000 : Int32)
else
if (f_X11_within a2 (0 : Int32) (1 : Int32)) = 0 then
(-1000 : Int32)
else
if a2 = 0 then
f_X11_cosine a1
else
f_X11_sine a1
set_option maxRecDepth 100000 in
set_option maxHeartbeats 4000000 in
theorem c_X11_turn (l : Launch) (D : va_G) (cT : Nat → ClassId) (lo nb : Nat) (w : Wd) (ad : Nat → Nat) (a1 : Int32) (a2 : Int32) : Met l yX11_turn (.code yX11_turn cX11_turn 3 (some .int) :: TW) { frames := 2, cells := 0, slots := 0, locals := 42 } (mPc D cT lo nb w ad [.ref (ad 1), .int a1, .int a2]) (mQ D cT lo nb w w ad (some (.int (f_X11_turn a1 a2)))) 0 0 (fun q => lo ≤ q) := by
  obtain ⟨r, h⟩ : ∃ r, f_X11_turn a1 a2 = r := ⟨_, rfl⟩
  rw [h]
  unfold f_X11_turn at h
  refine x_met (lv := [(0, .ref (ad 1)), (1, .int a1), (2, .int a2)]) (by decide +kernel) (Nat.le_of_ble_eq_true rfl) rfl ?_
  intro p e s m args below meth c ls F hr hlk hP hin hl
  have hx := F.1
  have hb := F.2.1
  have hS : va_S (fun q => lo ≤ q) s.heap s.heap [] := va_S.rf
  refine lv_iload_n hx hb dX11_turn_0 rfl (lv_at hl 1 rfl) ?_
  refine lv_iconst (v := 0) hx hb dX11_turn_1 ic_0 ?_
  refine lv_bipush (v := 35) hx hb dX11_turn_2 ib_35 ?_
  refine x_goesZ (x_runS (As := [.int a1, .int (0 : Int32), .int (35 : Int32)]) (rest := []) F hP hS (c_X11_within l D cT lo nb w ad a1 (0 : Int32) (35 : Int32)) cw_X11_within lk_X11_71 st_X11_within ⟨rfl, rfl, Nat.le_of_ble_eq_true rfl, Nat.le_of_ble_eq_true rfl⟩ hl.1 rfl (Nat.le_of_ble_eq_true rfl) dX11_turn_4 ⟨Nat.zero_le _, Nat.zero_le _⟩) hS (fun H locs hz_4 hP hS _ => ?_)
  refine lv_if_eq (tgt := 19) hx hb dX11_turn_7 (by decide) (fun hc => ?_) (fun hc => ?_)
  · have h := if_t _ hc h
    refine lv_sipush (v := -1000) hx hb dX11_turn_19 is_m1000 ?_
    exact y_iretP h F hr hP hS hlk dX11_turn_22
  · have h := if_f _ hc h
    refine lv_iload_n hx hb dX11_turn_10 rfl (lv_at hl 2 rfl) ?_
    refine lv_iconst (v := 0) hx hb dX11_turn_11 ic_0 ?_
    refine lv_iconst (v := 1) hx hb dX11_turn_12 ic_1 ?_
    refine x_goesZ (x_runS (As := [.int a2, .int (0 : Int32), .int (1 : Int32)]) (rest := []) F hP hS (c_X11_within l D cT lo nb w ad a2 (0 : Int32) (1 : Int32)) cw_X11_within lk_X11_71 st_X11_within ⟨rfl, rfl, Nat.le_of_ble_eq_true rfl, Nat.le_of_ble_eq_true rfl⟩ hl.1 rfl (Nat.le_of_ble_eq_true rfl) dX11_turn_13 ⟨Nat.zero_le _, Nat.zero_le _⟩) hS (fun H locs hz_13 hP hS _ => ?_)
    refine lv_if_ne (tgt := 23) hx hb dX11_turn_16 (by decide) (fun hc => ?_) (fun hc => ?_)
    · have h := if_f _ hc h
      refine lv_iload_n hx hb dX11_turn_23 rfl (lv_at hl 2 rfl) ?_
      refine lv_if_ne (tgt := 34) hx hb dX11_turn_24 (by decide) (fun hc => ?_) (fun hc => ?_)
      · have h := if_f _ hc h
        refine lv_iload_n hx hb dX11_turn_34 rfl (lv_at hl 1 rfl) ?_
        refine x_goes (x_runS (As := [.int a1]) (rest := []) F hP hS (c_X11_sine l D cT lo nb w ad a1) cw_X11_sine lk_X11_79 st_X11_sine ⟨rfl, rfl, Nat.le_of_ble_eq_true rfl, Nat.le_of_ble_eq_true rfl⟩ hl.1 rfl (Nat.le_of_ble_eq_true rfl) dX11_turn_35 ⟨Nat.zero_le _, Nat.zero_le _⟩) hS (fun H locs hP hS _ => ?_)
        exact y_iretP h F hr hP hS hlk dX11_turn_38
      · have h := if_t _ hc h
        refine lv_iload_n hx hb dX11_turn_27 rfl (lv_at hl 1 rfl) ?_
        refine x_goes (x_runS (As := [.int a1]) (rest := []) F hP hS (c_X11_cosine l D cT lo nb w ad a1) cw_X11_cosine lk_X11_75 st_X11_cosine ⟨rfl, rfl, Nat.le_of_ble_eq_true rfl, Nat.le_of_ble_eq_true rfl⟩ hl.1 rfl (Nat.le_of_ble_eq_true rfl) dX11_turn_28 ⟨Nat.zero_le _, Nat.zero_le _⟩) hS (fun H locs hP hS _ => ?_)
        refine lv_goto (tgt := 38) hx hb dX11_turn_31 (by decide) ?_
        exact y_iretP h F hr hP hS hlk dX11_turn_38
    · have h := if_t _ hc h
      refine lv_sipush (v := -1000) hx hb dX11_turn_19 is_m1000 ?_
      exact y_iretP h F hr hP hS hlk dX11_turn_22
def f_X11_cut (w : Wd) (a1 : Int32) (a2 : Int32) : Option (Int32 × Wd) :=
q_bi (f_X8_cutEaves w a1 a2) (fun v_6 w_6 =>
some (v_6, w_6))
set_option maxRecDepth 100000 in
set_option maxHeartbeats 4000000 in
theorem c_X11_cut (l : Launch) (D : va_G) (cT : Nat → ClassId) (lo : Nat) (w : Wd) (ad : Nat → Nat) (a1 : Int32) (a2 : Int32) (r : Int32) (w9 : Wd) (h : f_X11_cut w a1 a2 = some (r, w9)) : Met l yX11_cut (.code yX11_cut cX11_cut 3 (some .int) :: TW) { frames := 2, cells := 0, slots := 0, locals := 45 } (mPc D cT lo NB w ad [.ref (ad 1), .int a1, .int a2]) (mQ D cT lo NB w w9 ad (some (.int r))) 0 0 (fun q => lo ≤ q) := by
  unfold f_X11_cut at h
  refine x_met (lv := [(0, .ref (ad 1)), (1, .int a1), (2, .int a2)]) (by decide +kernel) (Nat.le_of_ble_eq_true rfl) rfl ?_
  intro p e s m args below meth c ls F hr hlk hP hin hl
  have hx := F.1
  have hb := F.2.1
  have hS : va_S (fun q => lo ≤ q) s.heap s.heap [] := va_S.rf
  have hM_w : mono w w := mono.refl
  refine lv_aload_n hx hb dX11_cut_0 rfl (lv_at hl 0 rfl) ?_
  refine x_getr F hP k_1 (hP.al 1 rfl) fl_X11_10 rfl r_1_0 dX11_cut_1 ?_
  refine lv_iload_n hx hb dX11_cut_4 rfl (lv_at hl 1 rfl) ?_
  refine lv_iload_n hx hb dX11_cut_5 rfl (lv_at hl 2 rfl) ?_
  obtain ⟨v_6, w_6, hc_6, h⟩ := bi_s h
  refine x_goes (x_runV (As := [.int a1, .int a2]) (rest := []) F hP hS (c_X8_cutEaves l D cT lo w ad a1 a2 v_6 w_6 hc_6) cw_X8_cutEaves lk_X11_86 vi_X8_cutEaves k_2 (n2 (hP.al 2 rfl)) rfl ⟨rfl, rfl, Nat.le_of_ble_eq_true rfl, Nat.le_of_ble_eq_true rfl⟩ hl.1 rfl (Nat.le_of_ble_eq_true rfl) dX11_cut_6 ⟨Nat.zero_le _, Nat.zero_le _⟩) hS (fun H locs hP hS hm => ?_)
  have hM_w := hm
  exact y_iretM h F hr hP hS hM_w hlk dX11_cut_9
def f_X11_down (w : Wd) (a1 : Int32) (a2 : Int32) : Option (Int32 × Wd) :=
q_bi (f_X8_lower w a1 a2) (fun v_6 w_6 =>
some (v_6, w_6))
set_option maxRecDepth 100000 in
set_option maxHeartbeats 4000000 in
theorem c_X11_down (l : Launch) (D : va_G) (cT : Nat → ClassId) (lo : Nat) (w : Wd) (ad : Nat → Nat) (a1 : Int32) (a2 : Int32) (r : Int32) (w9 : Wd) (h : f_X11_down w a1 a2 = some (r, w9)) : Met l yX11_down (.code yX11_down cX11_down 3 (some .int) :: TW) { frames := 2, cells := 0, slots := 0, locals := 45 } (mPc D cT lo NB w ad [.ref (ad 1), .int a1, .int a2]) (mQ D cT lo NB w w9 ad (some (.int r))) 0 0 (fun q => lo ≤ q) := by
  unfold f_X11_down at h
  refine x_met (lv := [(0, .ref (ad 1)), (1, .int a1), (2, .int a2)]) (by decide +kernel) (Nat.le_of_ble_eq_true rfl) rfl ?_
  intro p e s m args below meth c ls F hr hlk hP hin hl
  have hx := F.1
  have hb := F.2.1
  have hS : va_S (fun q => lo ≤ q) s.heap s.heap [] := va_S.rf
  have hM_w : mono w w := mono.refl
  refine lv_aload_n hx hb dX11_down_0 rfl (lv_at hl 0 rfl) ?_
  refine x_getr F hP k_1 (hP.al 1 rfl) fl_X11_10 rfl r_1_0 dX11_down_1 ?_
  refine lv_iload_n hx hb dX11_down_4 rfl (lv_at hl 1 rfl) ?_
  refine lv_iload_n hx hb dX11_down_5 rfl (lv_at hl 2 rfl) ?_
  obtain ⟨v_6, w_6, hc_6, h⟩ := bi_s h
  refine x_goes (x_runV (As := [.int a1, .int a2]) (rest := []) F hP hS (c_X8_lower l D cT lo w ad a1 a2 v_6 w_6 hc_6) cw_X8_lower lk_X11_98 vi_X8_lower k_2 (n2 (hP.al 2 rfl)) rfl ⟨rfl, rfl, Nat.le_of_ble_eq_true rfl, Nat.le_of_ble_eq_true rfl⟩ hl.1 rfl (Nat.le_of_ble_eq_true rfl) dX11_down_6 ⟨Nat.zero_le _, Nat.zero_le _⟩) hS (fun H locs hP hS hm => ?_)
  have hM_w := hm
  exact y_iretM h F hr hP hS hM_w hlk dX11_down_9
def f_X11_rain (w : Wd) (a1 : Int32) : Option (Int32 × Wd) :=
q_bi (f_X8_wetAll w a1) (fun v_5 w_5 =>
some (v_5, w_5))
set_option maxRecDepth 100000 in
set_option maxHeartbeats 4000000 in
theorem c_X11_rain (l : Launch) (D : va_G) (cT : Nat → ClassId) (lo : Nat) (w : Wd) (ad : Nat → Nat) (a1 : Int32) (r : Int32) (w9 : Wd) (h : f_X11_rain w a1 = some (r, w9)) : Met l yX11_rain (.code yX11_rain cX11_rain 2 (some .int) :: TW) { frames := 1, cells := 0, slots := 0, locals := 23 } (mPc D cT lo NB w ad [.ref (ad 1), .int a1]) (mQ D cT lo NB w w9 ad (some (.int r))) 0 0 (fun q => lo ≤ q) := by
  unfold f_X11_rain at h
  refine x_met (lv := [(0, .ref (ad 1)), (1, .int a1)]) (by decide +kernel) (Nat.le_of_ble_eq_true rfl) rfl ?_
  intro p e s m args below meth c ls F hr hlk hP hin hl
  have hx := F.1
  have hb := F.2.1
  have hS : va_S (fun q => lo ≤ q) s.heap s.heap [] := va_S.rf
  have hM_w : mono w w := mono.refl
  refine lv_aload_n hx hb dX11_rain_0 rfl (lv_at hl 0 rfl) ?_
  refine x_getr F hP k_1 (hP.al 1 rfl) fl_X11_10 rfl r_1_0 dX11_rain_1 ?_
  refine lv_iload_n hx hb dX11_rain_4 rfl (lv_at hl 1 rfl) ?_
  obtain ⟨v_5, w_5, hc_5, h⟩ := bi_s h
  refine x_goes (x_runV (As := [.int a1]) (rest := []) F hP hS (c_X8_wetAll l D cT lo w ad a1 v_5 w_5 hc_5) cw_X8_wetAll lk_X11_106 vi_X8_wetAll k_2 (n2 (hP.al 2 rfl)) rfl ⟨rfl, rfl, Nat.le_of_ble_eq_true rfl, Nat.le_of_ble_eq_true rfl⟩ hl.1 rfl (Nat.le_of_ble_eq_true rfl) dX11_rain_5 ⟨Nat.zero_le _, Nat.zero_le _⟩) hS (fun H locs hP hS hm => ?_)
  have hM_w := hm
  exact y_iretM h F hr hP hS hM_w hlk dX11_rain_8
def f_X11_ground (w : Wd) (a1 : Int32) (a2 : Int32) (a3 : Int32) : Option Int32 :=
if (f_X11_within a1 (-40000 : Int32) (40000 : Int32)) = 0 then
some (-1000 : Int32)
else
if (f_X11_within a2 (-40000 : Int32) (40000 : Int32)) = 0 then
some (-1000 : Int32)
else
if (f_X11_within a3 (0 : Int32) (3 : Int32)) = 0 then
some (-1000 : Int32)
else
q_bo (f_X8_slopeAt w a1 a2) (fun v_41 =>
if a3 = 0 then
some v_41
else if a3 = 1 then
q_bo (f_X8_riseXOf w v_41) (fun v_81 =>
some v_81)
else if a3 = 2 then
q_bo (f_X8_riseYOf w v_41) (fun v_91 =>
some v_91)
else 
q_bo (f_X8_isWet w v_41) (fun v_101 =>
if v_101 = 0 then
some (0 : Int32)
else
some (1 : Int32)))
set_option maxRecDepth 100000 in
set_option maxHeartbeats 4000000 in
theorem c_X11_ground (l : Launch) (D : va_G) (cT : Nat → ClassId) (lo : Nat) (w : Wd) (ad : Nat → Nat) (a1 : Int32) (a2 : Int32) (a3 : Int32) (r : Int32) (h : f_X11_ground w a1 a2 a3 = some r) : Met l yX11_ground (.code yX11_ground cX11_ground 5 (some .int) :: TW) { frames := 3, cells := 0, slots := 0, locals := 67 } (mPc D cT lo NB w ad [.ref (ad 1), .int a1, .int a2, .int a3]) (mQ D cT lo NB w w ad (some (.int r))) 0 0 (fun q => lo ≤ q) := by
  unfold f_X11_ground at h
  refine x_met (lv := [(0, .ref (ad 1)), (1, .int a1), (2, .int a2), (3, .int a3)]) (by decide +kernel) (Nat.le_of_ble_eq_true rfl) rfl ?_
  intro p e s m args below meth c ls F hr hlk hP hin hl
  have hx := F.1
  have hb := F.2.1
  have hS : va_S (fun q => lo ≤ q) s.heap s.heap [] := va_S.rf
  refine lv_iload_n hx hb dX11_ground_0 rfl (lv_at hl 1 rfl) ?_
  refine lv_ldc F.1 F.2.1 F.2.2.1 (F.2.2.2.1 _ ct_X11_110) dX11_ground_1 ?_
  refine lv_ldc F.1 F.2.1 F.2.2.1 (F.2.2.2.1 _ ct_X11_111) dX11_ground_3 ?_
  refine x_goesZ (x_runS (As := [.int a1, .int (-40000 : Int32), .int (40000 : Int32)]) (rest := []) F hP hS (c_X11_within l D cT lo NB w ad a1 (-40000 : Int32) (40000 : Int32)) cw_X11_within lk_X11_71 st_X11_within ⟨rfl, rfl, Nat.le_of_ble_eq_true rfl, Nat.le_of_ble_eq_true rfl⟩ hl.1 rfl (Nat.le_of_ble_eq_true rfl) dX11_ground_5 ⟨Nat.zero_le _, Nat.zero_le _⟩) hS (fun H locs hz_5 hP hS _ => ?_)
  refine lv_if_eq (tgt := 31) hx hb dX11_ground_8 (by decide) (fun hc => ?_) (fun hc => ?_)
  · have h := if_t _ hc h
    refine lv_sipush (v := -1000) hx hb dX11_ground_31 is_m1000 ?_
    exact y_iretO h F hr hP hS hlk dX11_ground_34
  · have h := if_f _ hc h
    refine lv_iload_n hx hb dX11_ground_11 rfl (lv_at hl 2 rfl) ?_
    refine lv_ldc F.1 F.2.1 F.2.2.1 (F.2.2.2.1 _ ct_X11_110) dX11_ground_12 ?_
    refine lv_ldc F.1 F.2.1 F.2.2.1 (F.2.2.2.1 _ ct_X11_111) dX11_ground_14 ?_
    refine x_goesZ (x_runS (As := [.int a2, .int (-40000 : Int32), .int (40000 : Int32)]) (rest := []) F hP hS (c_X11_within l D cT lo NB w ad a2 (-40000 : Int32) (40000 : Int32)) cw_X11_within lk_X11_71 st_X11_within ⟨rfl, rfl, Nat.le_of_ble_eq_true rfl, Nat.le_of_ble_eq_true rfl⟩ hl.1 rfl (Nat.le_of_ble_eq_true rfl) dX11_ground_16 ⟨Nat.zero_le _, Nat.zero_le _⟩) hS (fun H locs hz_16 hP hS _ => ?_)
    refine lv_if_eq (tgt := 31) hx hb dX11_ground_19 (by decide) (fun hc => ?_) (fun hc => ?_)
    · have h := if_t _ hc h
      refine lv_sipush (v := -1000) hx hb dX11_ground_31 is_m1000 ?_
      exact y_iretO h F hr hP hS hlk dX11_ground_34
    · have h := if_f _ hc h
      refine lv_iload_n hx hb dX11_ground_22 rfl (lv_at hl 3 rfl) ?_
      refine lv_iconst (v := 0) hx hb dX11_ground_23 ic_0 ?_
      refine lv_iconst (v := 3) hx hb dX11_ground_24 ic_3 ?_
      refine x_goesZ (x_runS (As := [.int a3, .int (0 : Int32), .int (3 : Int32)]) (rest := []) F hP hS (c_X11_within l D cT lo NB w ad a3 (0 : Int32) (3 : Int32)) cw_X11_within lk_X11_71 st_X11_within ⟨rfl, rfl, Nat.le_of_ble_eq_true rfl, Nat.le_of_ble_eq_true rfl⟩ hl.1 rfl (Nat.le_of_ble_eq_true rfl) dX11_ground_25 ⟨Nat.zero_le _, Nat.zero_le _⟩) hS (fun H locs hz_25 hP hS _ => ?_)
      refine lv_if_ne (tgt := 35) hx hb dX11_ground_28 (by decide) (fun hc => ?_) (fun hc => ?_)
      · have h := if_f _ hc h
        refine lv_aload_n hx hb dX11_ground_35 rfl (lv_at hl 0 rfl) ?_
        refine x_getr F hP k_1 (hP.al 1 rfl) fl_X11_10 rfl r_1_0 dX11_ground_36 ?_
        refine lv_iload_n hx hb dX11_ground_39 rfl (lv_at hl 1 rfl) ?_
        refine lv_iload_n hx hb dX11_ground_40 rfl (lv_at hl 2 rfl) ?_
        obtain ⟨v_41, hc_41, h⟩ := bo_s h
        refine x_goes (x_runV (As := [.int a1, .int a2]) (rest := []) F hP hS (c_X8_slopeAt l D cT lo w ad a1 a2 v_41 hc_41) cw_X8_slopeAt lk_X11_112 vi_X8_slopeAt k_2 (n2 (hP.al 2 rfl)) rfl ⟨rfl, rfl, Nat.le_of_ble_eq_true rfl, Nat.le_of_ble_eq_true rfl⟩ hl.1 rfl (Nat.le_of_ble_eq_true rfl) dX11_ground_41 ⟨Nat.zero_le _, Nat.zero_le _⟩) hS (fun H locs hP hS _ => ?_)
        refine lv_istore (lv' := [(4, .int v_41), (0, .ref (ad 1)), (1, .int a1), (2, .int a2), (3, .int a3)]) hx hb dX11_ground_44 hl (Nat.le_of_ble_eq_true rfl) rfl (fun ls hl => ?_)
        refine lv_iload_n hx hb dX11_ground_46 rfl (lv_at hl 4 rfl) ?_
        by_cases hc0 : a3 = 0
        · have h := if_t _ hc0 h
          refine lv_tableIn (off := 25) (tgt := 72) hx hb dX11_ground_47 (by rw [hc0]; decide) (by rw [hc0]; decide) (by rw [hc0]; rfl) (by decide) ?_
          refine lv_iload hx hb dX11_ground_72 (lv_at hl 0 rfl) ?_
          exact y_iretO h F hr hP hS hlk dX11_ground_74
        have h := if_f _ hc0 h
        by_cases hc1 : a3 = 1
        · have h := if_t _ hc1 h
          refine lv_tableIn (off := 28) (tgt := 75) hx hb dX11_ground_47 (by rw [hc1]; decide) (by rw [hc1]; decide) (by rw [hc1]; rfl) (by decide) ?_
          refine lv_aload_n hx hb dX11_ground_75 rfl (lv_at hl 1 rfl) ?_
          refine x_getr F hP k_1 (hP.al 1 rfl) fl_X11_10 rfl r_1_0 dX11_ground_76 ?_
          refine lv_iload hx hb dX11_ground_79 (lv_at hl 0 rfl) ?_
          obtain ⟨v_81, hc_81, h⟩ := bo_s h
          refine x_goes (x_runV (As := [.int v_41]) (rest := []) F hP hS (c_X8_riseXOf l D cT lo w ad v_41 v_81 hc_81) cw_X8_riseXOf lk_X11_115 vi_X8_riseXOf k_2 (n2 (hP.al 2 rfl)) rfl ⟨rfl, rfl, Nat.le_of_ble_eq_true rfl, Nat.le_of_ble_eq_true rfl⟩ hl.1 rfl (Nat.le_of_ble_eq_true rfl) dX11_ground_81 ⟨Nat.zero_le _, Nat.zero_le _⟩) hS (fun H locs hP hS _ => ?_)
          exact y_iretO h F hr hP hS hlk dX11_ground_84
        have h := if_f _ hc1 h
        by_cases hc2 : a3 = 2
        · have h := if_t _ hc2 h
          refine lv_tableIn (off := 38) (tgt := 85) hx hb dX11_ground_47 (by rw [hc2]; decide) (by rw [hc2]; decide) (by rw [hc2]; rfl) (by decide) ?_
          refine lv_aload_n hx hb dX11_ground_85 rfl (lv_at hl 1 rfl) ?_
          refine x_getr F hP k_1 (hP.al 1 rfl) fl_X11_10 rfl r_1_0 dX11_ground_86 ?_
          refine lv_iload hx hb dX11_ground_89 (lv_at hl 0 rfl) ?_
          obtain ⟨v_91, hc_91, h⟩ := bo_s h
          refine x_goes (x_runV (As := [.int v_41]) (rest := []) F hP hS (c_X8_riseYOf l D cT lo w ad v_41 v_91 hc_91) cw_X8_riseYOf lk_X11_118 vi_X8_riseYOf k_2 (n2 (hP.al 2 rfl)) rfl ⟨rfl, rfl, Nat.le_of_ble_eq_true rfl, Nat.le_of_ble_eq_true rfl⟩ hl.1 rfl (Nat.le_of_ble_eq_true rfl) dX11_ground_91 ⟨Nat.zero_le _, Nat.zero_le _⟩) hS (fun H locs hP hS _ => ?_)
          exact y_iretO h F hr hP hS hlk dX11_ground_94
        have h := if_f _ hc2 h
        refine lv_tableOut (tgt := 95) hx hb dX11_ground_47 (tab_out [(0 : Int32), (1 : Int32), (2 : Int32)] (by decide) (by simp [hc0, hc1, hc2])) (by decide) ?_
        refine lv_aload_n hx hb dX11_ground_95 rfl (lv_at hl 1 rfl) ?_
        refine x_getr F hP k_1 (hP.al 1 rfl) fl_X11_10 rfl r_1_0 dX11_ground_96 ?_
        refine lv_iload hx hb dX11_ground_99 (lv_at hl 0 rfl) ?_
        obtain ⟨v_101, hc_101, h⟩ := bo_s h
        refine x_goesZ (x_runV (As := [.int v_41]) (rest := []) F hP hS (c_X8_isWet l D cT lo w ad v_41 v_101 hc_101) cw_X8_isWet lk_X11_121 vi_X8_isWet k_2 (n2 (hP.al 2 rfl)) rfl ⟨rfl, rfl, Nat.le_of_ble_eq_true rfl, Nat.le_of_ble_eq_true rfl⟩ hl.1 rfl (Nat.le_of_ble_eq_true rfl) dX11_ground_101 ⟨Nat.zero_le _, Nat.zero_le _⟩) hS (fun H locs hz_101 hP hS _ => ?_)
        refine lv_if_eq (tgt := 111) hx hb dX11_ground_104 (by decide) (fun hc => ?_) (fun hc => ?_)
        · have h := if_t _ hc h
          refine lv_iconst (v := 0) hx hb dX11_ground_111 ic_0 ?_
          exact y_iretO h F hr hP hS hlk dX11_ground_112
        · have h := if_f _ hc h
          refine lv_iconst (v := 1) hx hb dX11_ground_107 ic_1 ?_
          refine lv_goto (tgt := 112) hx hb dX11_ground_108 (by decide) ?_
          exact y_iretO h F hr hP hS hlk dX11_ground_112
      · have h := if_t _ hc h
        refine lv_sipush (v := -1000) hx hb dX11_ground_31 is_m1000 ?_
        exact y_iretO h F hr hP hS hlk dX11_ground_34
def f_X11_storey (w : Wd) (a1 : Int32) (a2 : Int32) (a3 : Int32) (a4 : Int32) : Option (Int32 × Wd) :=
q_bo (f_X3_carAt w a1) (fun q_5 =>
if q_5 = 0 then
some ((-2 : Int32), w)
else
q_bi (f_X1_addStorey w q_5 a2 a3 a4) (fun v_24 w_24 =>
some (v_24, w_24)))
set_option maxRecDepth 100000 in
set_option maxHeartbeats 4000000 in
theorem c_X11_storey (l : Launch) (D : va_G) (cT : Nat → ClassId) (lo : Nat) (w : Wd) (ad : Nat → Nat) (a1 : Int32) (a2 : Int32) (a3 : Int32) (a4 : Int32) (r : Int32) (w9 : Wd) (h : f_X11_storey w a1 a2 a3 a4 = some (r, w9)) : Met l yX11_storey (.code yX11_storey cX11_storey 6 (some .int) :: TW) { frames := 3, cells := 0, slots := 0, locals := 65 } (mPc D cT lo NB w ad [.ref (ad 1), .int a1, .int a2, .int a3, .int a4]) (mQ D cT lo NB w w9 ad (some (.int r))) 0 0 (fun q => lo ≤ q) := by
  unfold f_X11_storey at h
  refine x_met (lv := [(0, .ref (ad 1)), (1, .int a1), (2, .int a2), (3, .int a3), (4, .int a4)]) (by decide +kernel) (Nat.le_of_ble_eq_true rfl) rfl ?_
  intro p e s m args below meth c ls F hr hlk hP hin hl
  have hx := F.1
  have hb := F.2.1
  have hS : va_S (fun q => lo ≤ q) s.heap s.heap [] := va_S.rf
  have hM_w : mono w w := mono.refl
  refine lv_aload_n hx hb dX11_storey_0 rfl (lv_at hl 0 rfl) ?_
  refine x_getr F hP k_1 (hP.al 1 rfl) fl_X11_21 rfl r_1_1 dX11_storey_1 ?_
  refine lv_iload_n hx hb dX11_storey_4 rfl (lv_at hl 1 rfl) ?_
  obtain ⟨q_5, hc_5, h⟩ := bo_s h
  refine x_goesR (x_runV (As := [.int a1]) (rest := []) F hP hS (c_X3_carAt l D cT lo w ad a1 q_5 hc_5) cw_X3_carAt lk_X11_128 vi_X3_carAt k_3 (n2 (hP.al 3 rfl)) rfl ⟨rfl, rfl, Nat.le_of_ble_eq_true rfl, Nat.le_of_ble_eq_true rfl⟩ hl.1 rfl (Nat.le_of_ble_eq_true rfl) dX11_storey_5 ⟨Nat.zero_le _, Nat.zero_le _⟩) hS (fun H locs hq hP hS => ?_) (fun H locs hz_q_5 hk_q_5 ha_q_5 hP hS => ?_)
  · subst hq
    refine lv_astoreN (lv' := [(5, .null), (0, .ref (ad 1)), (1, .int a1), (2, .int a2), (3, .int a3), (4, .int a4)]) hx hb dX11_storey_8 hl (Nat.le_of_ble_eq_true rfl) rfl (fun ls hl => ?_)
    refine lv_aloadN hx hb dX11_storey_10 (lv_at hl 0 rfl) ?_
    have h := if_t _ rfl h
    refine lv_ifnonnullN hx hb dX11_storey_12 ?_
    refine lv_bipush (v := -2) hx hb dX11_storey_15 ib_m2 ?_
    exact y_iretM h F hr hP hS mono.refl hlk dX11_storey_17
  · refine lv_astore (lv' := [(5, .ref (ad q_5)), (0, .ref (ad 1)), (1, .int a1), (2, .int a2), (3, .int a3), (4, .int a4)]) hx hb dX11_storey_8 hl (Nat.le_of_ble_eq_true rfl) rfl (fun ls hl => ?_)
    refine lv_aload hx hb dX11_storey_10 (lv_at hl 0 rfl) ?_
    have h := if_f _ hz_q_5 h
    refine lv_ifnonnull (tgt := 18) hx hb dX11_storey_12 (by decide) ?_
    refine lv_aload hx hb dX11_storey_18 (lv_at hl 0 rfl) ?_
    refine lv_iload_n hx hb dX11_storey_20 rfl (lv_at hl 3 rfl) ?_
    refine lv_iload_n hx hb dX11_storey_21 rfl (lv_at hl 4 rfl) ?_
    refine lv_iload hx hb dX11_storey_22 (lv_at hl 5 rfl) ?_
    obtain ⟨v_24, w_24, hc_24, h⟩ := bi_s h
    refine x_goes (x_runV (As := [.int a2, .int a3, .int a4]) (rest := []) F hP hS (c_X1_addStorey l D cT lo NB w ad q_5 hk_q_5 ha_q_5 a2 a3 a4 v_24 w_24 hc_24) cw_X1_addStorey lk_X11_132 vi_X1_addStorey hk_q_5 (n2 ha_q_5) rfl ⟨rfl, rfl, Nat.le_of_ble_eq_true rfl, Nat.le_of_ble_eq_true rfl⟩ hl.1 rfl (Nat.le_of_ble_eq_true rfl) dX11_storey_24 ⟨Nat.zero_le _, Nat.zero_le _⟩) hS (fun H locs hP hS hm => ?_)
    have hM_w := hm
    have ha_q_5 := hm.2 _ ha_q_5
    exact y_iretM h F hr hP hS hM_w hlk dX11_storey_27
def f_X11_stand (w : Wd) (a1 : Int32) (a2 : Int32) (a3 : Int32) (a4 : Int32) : Option (Int32 × Wd) :=
q_bo (f_X3_carAt w a1) (fun q_5 =>
if q_5 = 0 then
some ((-2 : Int32), w)
else
if (f_X11_within a2 (-500 : Int32) (500 : Int32)) = 0 then
some ((-2 : Int32), w)
else
if (f_X11_within a3 (-500 : Int32) (500 : Int32)) = 0 then
some ((-2 : Int32), w)
else
if (f_X11_within a4 (0 : Int32) (35 : Int32)) = 0 then
some ((-2 : Int32), w)
else
q_bi (f_X3_firstMet w q_5 ((65 : Int32) * a2) ((65 : Int32) * a3) a4) (fun v_71 w_71 =>
if v_71 = 0 then
q_bo (f_X1_standAt w_71 q_5 ((65 : Int32) * a2) ((65 : Int32) * a3) a4) (fun w_92 =>
some ((1 : Int32), w_92))
else
some ((-3 : Int32), w_71)))
set_option maxRecDepth 100000 in
set_option maxHeartbeats 4000000 in
theorem c_X11_stand (l : Launch) (D : va_G) (cT : Nat → ClassId) (lo : Nat) (w : Wd) (ad : Nat → Nat) (a1 : Int32) (a2 : Int32) (a3 : Int32) (a4 : Int32) (r : Int32) (w9 : Wd) (h : f_X11_stand w a1 a2 a3 a4 = some (r, w9)) : Met l yX11_stand (.code yX11_stand cX11_stand 6 (some .int) :: TW) { frames := 5, cells := 0, slots := 0, locals := 124 } (mPc D cT lo NB w ad [.ref (ad 1), .int a1, .int a2, .int a3, .int a4]) (mQ D cT lo NB w w9 ad (some (.int r))) 0 0 (fun q => lo ≤ q) := by
  unfold f_X11_stand at h
  refine x_met (lv := [(0, .ref (ad 1)), (1, .int a1), (2, .int a2), (3, .int a3), (4, .int a4)]) (by decide +kernel) (Nat.le_of_ble_eq_true rfl) rfl ?_
  intro p e s m args below meth c ls F hr hlk hP hin hl
  have hx := F.1
  have hb := F.2.1
  have hS : va_S (fun q => lo ≤ q) s.heap s.heap [] := va_S.rf
  have hM_w : mono w w := mono.refl
  refine lv_aload_n hx hb dX11_stand_0 rfl (lv_at hl 0 rfl) ?_
  refine x_getr F hP k_1 (hP.al 1 rfl) fl_X11_21 rfl r_1_1 dX11_stand_1 ?_
  refine lv_iload_n hx hb dX11_stand_4 rfl (lv_at hl 1 rfl) ?_
  obtain ⟨q_5, hc_5, h⟩ := bo_s h
  refine x_goesR (x_runV (As := [.int a1]) (rest := []) F hP hS (c_X3_carAt l D cT lo w ad a1 q_5 hc_5) cw_X3_carAt lk_X11_128 vi_X3_carAt k_3 (n2 (hP.al 3 rfl)) rfl ⟨rfl, rfl, Nat.le_of_ble_eq_true rfl, Nat.le_of_ble_eq_true rfl⟩ hl.1 rfl (Nat.le_of_ble_eq_true rfl) dX11_stand_5 ⟨Nat.zero_le _, Nat.zero_le _⟩) hS (fun H locs hq hP hS => ?_) (fun H locs hz_q_5 hk_q_5 ha_q_5 hP hS => ?_)
  · subst hq
    refine lv_astoreN (lv' := [(5, .null), (0, .ref (ad 1)), (1, .int a1), (2, .int a2), (3, .int a3), (4, .int a4)]) hx hb dX11_stand_8 hl (Nat.le_of_ble_eq_true rfl) rfl (fun ls hl => ?_)
    refine lv_aloadN hx hb dX11_stand_10 (lv_at hl 0 rfl) ?_
    have h := if_t _ rfl h
    refine lv_ifnullN (tgt := 52) hx hb dX11_stand_12 (by decide) ?_
    refine lv_bipush (v := -2) hx hb dX11_stand_52 ib_m2 ?_
    exact y_iretM h F hr hP hS mono.refl hlk dX11_stand_54
  · refine lv_astore (lv' := [(5, .ref (ad q_5)), (0, .ref (ad 1)), (1, .int a1), (2, .int a2), (3, .int a3), (4, .int a4)]) hx hb dX11_stand_8 hl (Nat.le_of_ble_eq_true rfl) rfl (fun ls hl => ?_)
    refine lv_aload hx hb dX11_stand_10 (lv_at hl 0 rfl) ?_
    have h := if_f _ hz_q_5 h
    refine lv_ifnull hx hb dX11_stand_12 ?_
    refine lv_iload_n hx hb dX11_stand_15 rfl (lv_at hl 3 rfl) ?_
    refine lv_sipush (v := -500) hx hb dX11_stand_16 is_m500 ?_
    refine lv_sipush (v := 500) hx hb dX11_stand_19 is_500 ?_
    refine x_goesZ (x_runS (As := [.int a2, .int (-500 : Int32), .int (500 : Int32)]) (rest := []) F hP hS (c_X11_within l D cT lo NB w ad a2 (-500 : Int32) (500 : Int32)) cw_X11_within lk_X11_71 st_X11_within ⟨rfl, rfl, Nat.le_of_ble_eq_true rfl, Nat.le_of_ble_eq_true rfl⟩ hl.1 rfl (Nat.le_of_ble_eq_true rfl) dX11_stand_22 ⟨Nat.zero_le _, Nat.zero_le _⟩) hS (fun H locs hz_22 hP hS _ => ?_)
    refine lv_if_eq (tgt := 52) hx hb dX11_stand_25 (by decide) (fun hc => ?_) (fun hc => ?_)
    · have h := if_t _ hc h
      refine lv_bipush (v := -2) hx hb dX11_stand_52 ib_m2 ?_
      exact y_iretM h F hr hP hS mono.refl hlk dX11_stand_54
    · have h := if_f _ hc h
      refine lv_iload_n hx hb dX11_stand_28 rfl (lv_at hl 4 rfl) ?_
      refine lv_sipush (v := -500) hx hb dX11_stand_29 is_m500 ?_
      refine lv_sipush (v := 500) hx hb dX11_stand_32 is_500 ?_
      refine x_goesZ (x_runS (As := [.int a3, .int (-500 : Int32), .int (500 : Int32)]) (rest := []) F hP hS (c_X11_within l D cT lo NB w ad a3 (-500 : Int32) (500 : Int32)) cw_X11_within lk_X11_71 st_X11_within ⟨rfl, rfl, Nat.le_of_ble_eq_true rfl, Nat.le_of_ble_eq_true rfl⟩ hl.1 rfl (Nat.le_of_ble_eq_true rfl) dX11_stand_35 ⟨Nat.zero_le _, Nat.zero_le _⟩) hS (fun H locs hz_35 hP hS _ => ?_)
      refine lv_if_eq (tgt := 52) hx hb dX11_stand_38 (by decide) (fun hc => ?_) (fun hc => ?_)
      · have h := if_t _ hc h
        refine lv_bipush (v := -2) hx hb dX11_stand_52 ib_m2 ?_
        exact y_iretM h F hr hP hS mono.refl hlk dX11_stand_54
      · have h := if_f _ hc h
        refine lv_iload hx hb dX11_stand_41 (lv_at hl 5 rfl) ?_
        refine lv_iconst (v := 0) hx hb dX11_stand_43 ic_0 ?_
        refine lv_bipush (v := 35) hx hb dX11_stand_44 ib_35 ?_
        refine x_goesZ (x_runS (As := [.int a4, .int (0 : Int32), .int (35 : Int32)]) (rest := []) F hP hS (c_X11_within l D cT lo NB w ad a4 (0 : Int32) (35 : Int32)) cw_X11_within lk_X11_71 st_X11_within ⟨rfl, rfl, Nat.le_of_ble_eq_true rfl, Nat.le_of_ble_eq_true rfl⟩ hl.1 rfl (Nat.le_of_ble_eq_true rfl) dX11_stand_46 ⟨Nat.zero_le _, Nat.zero_le _⟩) hS (fun H locs hz_46 hP hS _ => ?_)
        refine lv_if_ne (tgt := 55) hx hb dX11_stand_49 (by decide) (fun hc => ?_) (fun hc => ?_)
        · have h := if_f _ hc h
          refine lv_aload_n hx hb dX11_stand_55 rfl (lv_at hl 1 rfl) ?_
          refine x_getr F hP k_1 (hP.al 1 rfl) fl_X11_21 rfl r_1_1 dX11_stand_56 ?_
          refine lv_aload hx hb dX11_stand_59 (lv_at hl 0 rfl) ?_
          refine lv_bipush (v := 65) hx hb dX11_stand_61 ib_65 ?_
          refine lv_iload_n hx hb dX11_stand_63 rfl (lv_at hl 3 rfl) ?_
          refine lv_imul hx hb dX11_stand_64 ?_
          refine lv_bipush (v := 65) hx hb dX11_stand_65 ib_65 ?_
          refine lv_iload_n hx hb dX11_stand_67 rfl (lv_at hl 4 rfl) ?_
          refine lv_imul hx hb dX11_stand_68 ?_
          refine lv_iload hx hb dX11_stand_69 (lv_at hl 5 rfl) ?_
          obtain ⟨v_71, w_71, hc_71, h⟩ := bi_s h
          refine x_goes (x_runV (As := [.ref (ad q_5), .int ((65 : Int32) * a2), .int ((65 : Int32) * a3), .int a4]) (rest := []) F hP hS (c_X3_firstMet l D cT lo w ad q_5 hk_q_5 ha_q_5 ((65 : Int32) * a2) ((65 : Int32) * a3) a4 v_71 w_71 hc_71) cw_X3_firstMet lk_X11_138 vi_X3_firstMet k_3 (n2 (hP.al 3 rfl)) rfl ⟨rfl, rfl, Nat.le_of_ble_eq_true rfl, Nat.le_of_ble_eq_true rfl⟩ hl.1 rfl (Nat.le_of_ble_eq_true rfl) dX11_stand_71 ⟨Nat.zero_le _, Nat.zero_le _⟩) hS (fun H locs hP hS hm => ?_)
          have hM_w := hm
          have ha_q_5 := hm.2 _ ha_q_5
          refine lv_if_eq (tgt := 80) hx hb dX11_stand_74 (by decide) (fun hc => ?_) (fun hc => ?_)
          · have h := if_t _ hc h
            refine lv_aload hx hb dX11_stand_80 (lv_at hl 0 rfl) ?_
            refine lv_bipush (v := 65) hx hb dX11_stand_82 ib_65 ?_
            refine lv_iload_n hx hb dX11_stand_84 rfl (lv_at hl 3 rfl) ?_
            refine lv_imul hx hb dX11_stand_85 ?_
            refine lv_bipush (v := 65) hx hb dX11_stand_86 ib_65 ?_
            refine lv_iload_n hx hb dX11_stand_88 rfl (lv_at hl 4 rfl) ?_
            refine lv_imul hx hb dX11_stand_89 ?_
            refine lv_iload hx hb dX11_stand_90 (lv_at hl 5 rfl) ?_
            obtain ⟨w_92, hc_92, h⟩ := bo_s h
            refine x_goes (x_runV (As := [.int ((65 : Int32) * a2), .int ((65 : Int32) * a3), .int a4]) (rest := []) F hP hS (c_X1_standAt l D cT lo NB w_71 ad q_5 hk_q_5 ha_q_5 ((65 : Int32) * a2) ((65 : Int32) * a3) a4 w_92 hc_92) cw_X1_standAt lk_X11_142 vi_X1_standAt hk_q_5 (n2 ha_q_5) rfl ⟨rfl, rfl, Nat.le_of_ble_eq_true rfl, Nat.le_of_ble_eq_true rfl⟩ hl.1 rfl (Nat.le_of_ble_eq_true rfl) dX11_stand_92 ⟨Nat.zero_le _, Nat.zero_le _⟩) hS (fun H locs hP hS hm => ?_)
            have hM_w := hM_w.trans hm
            have ha_q_5 := hm.2 _ ha_q_5
            refine lv_iconst (v := 1) hx hb dX11_stand_95 ic_1 ?_
            exact y_iretM h F hr hP hS hM_w hlk dX11_stand_96
          · have h := if_f _ hc h
            refine lv_bipush (v := -3) hx hb dX11_stand_77 ib_m3 ?_
            exact y_iretM h F hr hP hS hM_w hlk dX11_stand_79
        · have h := if_t _ hc h
          refine lv_bipush (v := -2) hx hb dX11_stand_52 ib_m2 ?_
          exact y_iretM h F hr hP hS mono.refl hlk dX11_stand_54
def f_X11_leave (w : Wd) (a1 : Int32) : Option (Int32 × Wd) :=
q_bo (f_X3_carAt w a1) (fun q_5 =>
if q_5 = 0 then
some ((-2 : Int32), w)
else
q_gt w q_5 12 (fun v_17 =>
q_pt w q_5 12 (0 : Int32) (fun w_23 =>
if v_17 = 0 then
some ((0 : Int32), w_23)
else
some ((1 : Int32), w_23))))
set_option maxRecDepth 100000 in
set_option maxHeartbeats 4000000 in
theorem c_X11_leave (l : Launch) (D : va_G) (cT : Nat → ClassId) (lo : Nat) (w : Wd) (ad : Nat → Nat) (a1 : Int32) (r : Int32) (w9 : Wd) (h : f_X11_leave w a1 = some (r, w9)) : Met l yX11_leave (.code yX11_leave cX11_leave 4 (some .int) :: TW) { frames := 2, cells := 0, slots := 0, locals := 43 } (mPc D cT lo NB w ad [.ref (ad 1), .int a1]) (mQ D cT lo NB w w9 ad (some (.int r))) 0 0 (fun q => lo ≤ q) := by
  unfold f_X11_leave at h
  refine x_met (lv := [(0, .ref (ad 1)), (1, .int a1)]) (by decide +kernel) (Nat.le_of_ble_eq_true rfl) rfl ?_
  intro p e s m args below meth c ls F hr hlk hP hin hl
  have hx := F.1
  have hb := F.2.1
  have hS : va_S (fun q => lo ≤ q) s.heap s.heap [] := va_S.rf
  have hM_w : mono w w := mono.refl
  refine lv_aload_n hx hb dX11_leave_0 rfl (lv_at hl 0 rfl) ?_
  refine x_getr F hP k_1 (hP.al 1 rfl) fl_X11_21 rfl r_1_1 dX11_leave_1 ?_
  refine lv_iload_n hx hb dX11_leave_4 rfl (lv_at hl 1 rfl) ?_
  obtain ⟨q_5, hc_5, h⟩ := bo_s h
  refine x_goesR (x_runV (As := [.int a1]) (rest := []) F hP hS (c_X3_carAt l D cT lo w ad a1 q_5 hc_5) cw_X3_carAt lk_X11_128 vi_X3_carAt k_3 (n2 (hP.al 3 rfl)) rfl ⟨rfl, rfl, Nat.le_of_ble_eq_true rfl, Nat.le_of_ble_eq_true rfl⟩ hl.1 rfl (Nat.le_of_ble_eq_true rfl) dX11_leave_5 ⟨Nat.zero_le _, Nat.zero_le _⟩) hS (fun H locs hq hP hS => ?_) (fun H locs hz_q_5 hk_q_5 ha_q_5 hP hS => ?_)
  · subst hq
    refine lv_astore_nN (lv' := [(2, .null), (0, .ref (ad 1)), (1, .int a1)]) hx hb dX11_leave_8 rfl hl (Nat.le_of_ble_eq_true rfl) rfl (fun ls hl => ?_)
    refine lv_aload_nN hx hb dX11_leave_9 rfl (lv_at hl 0 rfl) ?_
    have h := if_t _ rfl h
    refine lv_ifnonnullN hx hb dX11_leave_10 ?_
    refine lv_bipush (v := -2) hx hb dX11_leave_13 ib_m2 ?_
    exact y_iretM h F hr hP hS mono.refl hlk dX11_leave_15
  · refine lv_astore_n (lv' := [(2, .ref (ad q_5)), (0, .ref (ad 1)), (1, .int a1)]) hx hb dX11_leave_8 rfl hl (Nat.le_of_ble_eq_true rfl) rfl (fun ls hl => ?_)
    refine lv_aload_n hx hb dX11_leave_9 rfl (lv_at hl 0 rfl) ?_
    have h := if_f _ hz_q_5 h
    refine lv_ifnonnull (tgt := 16) hx hb dX11_leave_10 (by decide) ?_
    refine lv_aload_n hx hb dX11_leave_16 rfl (lv_at hl 0 rfl) ?_
    refine y_geti h F hP hk_q_5 (n2 ha_q_5) fl_X11_146 rfl dX11_leave_17 (fun v_17 h => ?_)
    refine lv_istore_n (lv' := [(3, .int v_17), (2, .ref (ad q_5)), (0, .ref (ad 1)), (1, .int a1)]) hx hb dX11_leave_20 rfl hl (Nat.le_of_ble_eq_true rfl) rfl (fun ls hl => ?_)
    refine lv_aload_n hx hb dX11_leave_21 rfl (lv_at hl 1 rfl) ?_
    refine lv_iconst (v := 0) hx hb dX11_leave_22 ic_0 ?_
    refine y_putz h (Or.inl rfl) F hP hS hk_q_5 (n2 ha_q_5) fl_X11_146 rfl dX11_leave_23 (fun w_23 H locs hm h hP hS => ?_)
    have hM_w := hm
    have ha_q_5 := hm.2 _ ha_q_5
    refine lv_iload_n hx hb dX11_leave_26 rfl (lv_at hl 0 rfl) ?_
    refine lv_if_eq (tgt := 34) hx hb dX11_leave_27 (by decide) (fun hc => ?_) (fun hc => ?_)
    · have h := if_t _ hc h
      refine lv_iconst (v := 0) hx hb dX11_leave_34 ic_0 ?_
      exact y_iretM h F hr hP hS hM_w hlk dX11_leave_35
    · have h := if_f _ hc h
      refine lv_iconst (v := 1) hx hb dX11_leave_30 ic_1 ?_
      refine lv_goto (tgt := 35) hx hb dX11_leave_31 (by decide) ?_
      exact y_iretM h F hr hP hS hM_w hlk dX11_leave_35
def f_X11_about (w : Wd) (a1 : Int32) (a2 : Int32) : Option Int32 :=
q_bo (f_X3_carAt w a1) (fun q_5 =>
if q_5 = 0 then
some (-2147483648 : Int32)
else
some (f_X1_tell w q_5 a2))
set_option maxRecDepth 100000 in
set_option maxHeartbeats 4000000 in
theorem c_X11_about (l : Launch) (D : va_G) (cT : Nat → ClassId) (lo : Nat) (w : Wd) (ad : Nat → Nat) (a1 : Int32) (a2 : Int32) (r : Int32) (h : f_X11_about w a1 a2 = some r) : Met l yX11_about (.code yX11_about cX11_about 4 (some .int) :: TW) { frames := 2, cells := 0, slots := 0, locals := 43 } (mPc D cT lo NB w ad [.ref (ad 1), .int a1, .int a2]) (mQ D cT lo NB w w ad (some (.int r))) 0 0 (fun q => lo ≤ q) := by
  unfold f_X11_about at h
  refine x_met (lv := [(0, .ref (ad 1)), (1, .int a1), (2, .int a2)]) (by decide +kernel) (Nat.le_of_ble_eq_true rfl) rfl ?_
  intro p e s m args below meth c ls F hr hlk hP hin hl
  have hx := F.1
  have hb := F.2.1
  have hS : va_S (fun q => lo ≤ q) s.heap s.heap [] := va_S.rf
  refine lv_aload_n hx hb dX11_about_0 rfl (lv_at hl 0 rfl) ?_
  refine x_getr F hP k_1 (hP.al 1 rfl) fl_X11_21 rfl r_1_1 dX11_about_1 ?_
  refine lv_iload_n hx hb dX11_about_4 rfl (lv_at hl 1 rfl) ?_
  obtain ⟨q_5, hc_5, h⟩ := bo_s h
  refine x_goesR (x_runV (As := [.int a1]) (rest := []) F hP hS (c_X3_carAt l D cT lo w ad a1 q_5 hc_5) cw_X3_carAt lk_X11_128 vi_X3_carAt k_3 (n2 (hP.al 3 rfl)) rfl ⟨rfl, rfl, Nat.le_of_ble_eq_true rfl, Nat.le_of_ble_eq_true rfl⟩ hl.1 rfl (Nat.le_of_ble_eq_true rfl) dX11_about_5 ⟨Nat.zero_le _, Nat.zero_le _⟩) hS (fun H locs hq hP hS => ?_) (fun H locs hz_q_5 hk_q_5 ha_q_5 hP hS => ?_)
  · subst hq
    refine lv_astore_nN (lv' := [(3, .null), (0, .ref (ad 1)), (1, .int a1), (2, .int a2)]) hx hb dX11_about_8 rfl hl (Nat.le_of_ble_eq_true rfl) rfl (fun ls hl => ?_)
    refine lv_aload_nN hx hb dX11_about_9 rfl (lv_at hl 0 rfl) ?_
    have h := if_t _ rfl h
    refine lv_ifnonnullN hx hb dX11_about_10 ?_
    refine lv_ldc F.1 F.2.1 F.2.2.1 (F.2.2.2.1 _ ct_X11_150) dX11_about_13 ?_
    exact y_iretO h F hr hP hS hlk dX11_about_15
  · refine lv_astore_n (lv' := [(3, .ref (ad q_5)), (0, .ref (ad 1)), (1, .int a1), (2, .int a2)]) hx hb dX11_about_8 rfl hl (Nat.le_of_ble_eq_true rfl) rfl (fun ls hl => ?_)
    refine lv_aload_n hx hb dX11_about_9 rfl (lv_at hl 0 rfl) ?_
    have h := if_f _ hz_q_5 h
    refine lv_ifnonnull (tgt := 16) hx hb dX11_about_10 (by decide) ?_
    refine lv_aload_n hx hb dX11_about_16 rfl (lv_at hl 0 rfl) ?_
    refine lv_iload_n hx hb dX11_about_17 rfl (lv_at hl 3 rfl) ?_
    refine x_goes (x_runV (As := [.int a2]) (rest := []) F hP hS (c_X1_tell l D cT lo NB w ad q_5 hk_q_5 ha_q_5 a2) cw_X1_tell lk_X11_151 vi_X1_tell hk_q_5 (n2 ha_q_5) rfl ⟨rfl, rfl, Nat.le_of_ble_eq_true rfl, Nat.le_of_ble_eq_true rfl⟩ hl.1 rfl (Nat.le_of_ble_eq_true rfl) dX11_about_18 ⟨Nat.zero_le _, Nat.zero_le _⟩) hS (fun H locs hP hS _ => ?_)
    exact y_iretO h F hr hP hS hlk dX11_about_21
def f_X11_wheel (w : Wd) (a1 : Int32) (a2 : Int32) (a3 : Int32) : Option Int32 :=
q_bo (f_X3_carAt w a1) (fun q_5 =>
if q_5 = 0 then
some (-2147483648 : Int32)
else
q_gt w q_5 12 (fun v_17 =>
if v_17 = 0 then
some (-2147483648 : Int32)
else
if (f_X11_within a2 (0 : Int32) (3 : Int32)) = 0 then
some (-2147483648 : Int32)
else
if (f_X11_within a3 (0 : Int32) (1 : Int32)) = 0 then
some (-2147483648 : Int32)
else
if a3 = 0 then
q_gt w q_5 9 (fun v_50 =>
q_gt w q_5 11 (fun v_58 =>
some (v_50 + (f_X1_wheelX w q_5 a2 v_58))))
else
q_gt w q_5 10 (fun v_70 =>
q_gt w q_5 11 (fun v_78 =>
some (v_70 + (f_X1_wheelY w q_5 a2 v_78))))))
set_option maxRecDepth 100000 in
set_option maxHeartbeats 4000000 in
theorem c_X11_wheel (l : Launch) (D : va_G) (cT : Nat → ClassId) (lo : Nat) (w : Wd) (ad : Nat → Nat) (a1 : Int32) (a2 : Int32) (a3 : Int32) (r : Int32) (h : f_X11_wheel w a1 a2 a3 = some r) : Met l yX11_wheel (.code yX11_wheel cX11_wheel 5 (some .int) :: TW) { frames := 3, cells := 0, slots := 0, locals := 64 } (mPc D cT lo NB w ad [.ref (ad 1), .int a1, .int a2, .int a3]) (mQ D cT lo NB w w ad (some (.int r))) 0 0 (fun q => lo ≤ q) := by
  unfold f_X11_wheel at h
  refine x_met (lv := [(0, .ref (ad 1)), (1, .int a1), (2, .int a2), (3, .int a3)]) (by decide +kernel) (Nat.le_of_ble_eq_true rfl) rfl ?_
  intro p e s m args below meth c ls F hr hlk hP hin hl
  have hx := F.1
  have hb := F.2.1
  have hS : va_S (fun q => lo ≤ q) s.heap s.heap [] := va_S.rf
  refine lv_aload_n hx hb dX11_wheel_0 rfl (lv_at hl 0 rfl) ?_
  refine x_getr F hP k_1 (hP.al 1 rfl) fl_X11_21 rfl r_1_1 dX11_wheel_1 ?_
  refine lv_iload_n hx hb dX11_wheel_4 rfl (lv_at hl 1 rfl) ?_
  obtain ⟨q_5, hc_5, h⟩ := bo_s h
  refine x_goesR (x_runV (As := [.int a1]) (rest := []) F hP hS (c_X3_carAt l D cT lo w ad a1 q_5 hc_5) cw_X3_carAt lk_X11_128 vi_X3_carAt k_3 (n2 (hP.al 3 rfl)) rfl ⟨rfl, rfl, Nat.le_of_ble_eq_true rfl, Nat.le_of_ble_eq_true rfl⟩ hl.1 rfl (Nat.le_of_ble_eq_true rfl) dX11_wheel_5 ⟨Nat.zero_le _, Nat.zero_le _⟩) hS (fun H locs hq hP hS => ?_) (fun H locs hz_q_5 hk_q_5 ha_q_5 hP hS => ?_)
  · subst hq
    refine lv_astoreN (lv' := [(4, .null), (0, .ref (ad 1)), (1, .int a1), (2, .int a2), (3, .int a3)]) hx hb dX11_wheel_8 hl (Nat.le_of_ble_eq_true rfl) rfl (fun ls hl => ?_)
    refine lv_aloadN hx hb dX11_wheel_10 (lv_at hl 0 rfl) ?_
    have h := if_t _ rfl h
    refine lv_ifnullN (tgt := 41) hx hb dX11_wheel_12 (by decide) ?_
    refine lv_ldc F.1 F.2.1 F.2.2.1 (F.2.2.2.1 _ ct_X11_150) dX11_wheel_41 ?_
    exact y_iretO h F hr hP hS hlk dX11_wheel_43
  · refine lv_astore (lv' := [(4, .ref (ad q_5)), (0, .ref (ad 1)), (1, .int a1), (2, .int a2), (3, .int a3)]) hx hb dX11_wheel_8 hl (Nat.le_of_ble_eq_true rfl) rfl (fun ls hl => ?_)
    refine lv_aload hx hb dX11_wheel_10 (lv_at hl 0 rfl) ?_
    have h := if_f _ hz_q_5 h
    refine lv_ifnull hx hb dX11_wheel_12 ?_
    refine lv_aload hx hb dX11_wheel_15 (lv_at hl 0 rfl) ?_
    refine y_geti h F hP hk_q_5 (n2 ha_q_5) fl_X11_146 rfl dX11_wheel_17 (fun v_17 h => ?_)
    refine lv_if_eq (tgt := 41) hx hb dX11_wheel_20 (by decide) (fun hc => ?_) (fun hc => ?_)
    · have h := if_t _ hc h
      refine lv_ldc F.1 F.2.1 F.2.2.1 (F.2.2.2.1 _ ct_X11_150) dX11_wheel_41 ?_
      exact y_iretO h F hr hP hS hlk dX11_wheel_43
    · have h := if_f _ hc h
      refine lv_iload_n hx hb dX11_wheel_23 rfl (lv_at hl 3 rfl) ?_
      refine lv_iconst (v := 0) hx hb dX11_wheel_24 ic_0 ?_
      refine lv_iconst (v := 3) hx hb dX11_wheel_25 ic_3 ?_
      refine x_goesZ (x_runS (As := [.int a2, .int (0 : Int32), .int (3 : Int32)]) (rest := []) F hP hS (c_X11_within l D cT lo NB w ad a2 (0 : Int32) (3 : Int32)) cw_X11_within lk_X11_71 st_X11_within ⟨rfl, rfl, Nat.le_of_ble_eq_true rfl, Nat.le_of_ble_eq_true rfl⟩ hl.1 rfl (Nat.le_of_ble_eq_true rfl) dX11_wheel_26 ⟨Nat.zero_le _, Nat.zero_le _⟩) hS (fun H locs hz_26 hP hS _ => ?_)
      refine lv_if_eq (tgt := 41) hx hb dX11_wheel_29 (by decide) (fun hc => ?_) (fun hc => ?_)
      · have h := if_t _ hc h
        refine lv_ldc F.1 F.2.1 F.2.2.1 (F.2.2.2.1 _ ct_X11_150) dX11_wheel_41 ?_
        exact y_iretO h F hr hP hS hlk dX11_wheel_43
      · have h := if_f _ hc h
        refine lv_iload_n hx hb dX11_wheel_32 rfl (lv_at hl 4 rfl) ?_
        refine lv_iconst (v := 0) hx hb dX11_wheel_33 ic_0 ?_
        refine lv_iconst (v := 1) hx hb dX11_wheel_34 ic_1 ?_
        refine x_goesZ (x_runS (As := [.int a3, .int (0 : Int32), .int (1 : Int32)]) (rest := []) F hP hS (c_X11_within l D cT lo NB w ad a3 (0 : Int32) (1 : Int32)) cw_X11_within lk_X11_71 st_X11_within ⟨rfl, rfl, Nat.le_of_ble_eq_true rfl, Nat.le_of_ble_eq_true rfl⟩ hl.1 rfl (Nat.le_of_ble_eq_true rfl) dX11_wheel_35 ⟨Nat.zero_le _, Nat.zero_le _⟩) hS (fun H locs hz_35 hP hS _ => ?_)
        refine lv_if_ne (tgt := 44) hx hb dX11_wheel_38 (by decide) (fun hc => ?_) (fun hc => ?_)
        · have h := if_f _ hc h
          refine lv_iload_n hx hb dX11_wheel_44 rfl (lv_at hl 4 rfl) ?_
          refine lv_if_ne (tgt := 68) hx hb dX11_wheel_45 (by decide) (fun hc => ?_) (fun hc => ?_)
          · have h := if_f _ hc h
            refine lv_aload hx hb dX11_wheel_68 (lv_at hl 0 rfl) ?_
            refine y_geti h F hP hk_q_5 (n2 ha_q_5) fl_X11_164 rfl dX11_wheel_70 (fun v_70 h => ?_)
            refine lv_aload hx hb dX11_wheel_73 (lv_at hl 0 rfl) ?_
            refine lv_iload_n hx hb dX11_wheel_75 rfl (lv_at hl 3 rfl) ?_
            refine lv_aload hx hb dX11_wheel_76 (lv_at hl 0 rfl) ?_
            refine y_geti h F hP hk_q_5 (n2 ha_q_5) fl_X11_158 rfl dX11_wheel_78 (fun v_78 h => ?_)
            refine x_goes (x_runV (As := [.int a2, .int v_78]) (rest := [.int v_70]) F hP hS (c_X1_wheelY l D cT lo NB w ad q_5 hk_q_5 ha_q_5 a2 v_78) cw_X1_wheelY lk_X11_167 vi_X1_wheelY hk_q_5 (n2 ha_q_5) rfl ⟨rfl, rfl, Nat.le_of_ble_eq_true rfl, Nat.le_of_ble_eq_true rfl⟩ hl.1 rfl (Nat.le_of_ble_eq_true rfl) dX11_wheel_81 ⟨Nat.zero_le _, Nat.zero_le _⟩) hS (fun H locs hP hS _ => ?_)
            refine lv_iadd hx hb dX11_wheel_84 ?_
            exact y_iretO h F hr hP hS hlk dX11_wheel_85
          · have h := if_t _ hc h
            refine lv_aload hx hb dX11_wheel_48 (lv_at hl 0 rfl) ?_
            refine y_geti h F hP hk_q_5 (n2 ha_q_5) fl_X11_154 rfl dX11_wheel_50 (fun v_50 h => ?_)
            refine lv_aload hx hb dX11_wheel_53 (lv_at hl 0 rfl) ?_
            refine lv_iload_n hx hb dX11_wheel_55 rfl (lv_at hl 3 rfl) ?_
            refine lv_aload hx hb dX11_wheel_56 (lv_at hl 0 rfl) ?_
            refine y_geti h F hP hk_q_5 (n2 ha_q_5) fl_X11_158 rfl dX11_wheel_58 (fun v_58 h => ?_)
            refine x_goes (x_runV (As := [.int a2, .int v_58]) (rest := [.int v_50]) F hP hS (c_X1_wheelX l D cT lo NB w ad q_5 hk_q_5 ha_q_5 a2 v_58) cw_X1_wheelX lk_X11_161 vi_X1_wheelX hk_q_5 (n2 ha_q_5) rfl ⟨rfl, rfl, Nat.le_of_ble_eq_true rfl, Nat.le_of_ble_eq_true rfl⟩ hl.1 rfl (Nat.le_of_ble_eq_true rfl) dX11_wheel_61 ⟨Nat.zero_le _, Nat.zero_le _⟩) hS (fun H locs hP hS _ => ?_)
            refine lv_iadd hx hb dX11_wheel_64 ?_
            refine lv_goto (tgt := 85) hx hb dX11_wheel_65 (by decide) ?_
            exact y_iretO h F hr hP hS hlk dX11_wheel_85
        · have h := if_t _ hc h
          refine lv_ldc F.1 F.2.1 F.2.2.1 (F.2.2.2.1 _ ct_X11_150) dX11_wheel_41 ?_
          exact y_iretO h F hr hP hS hlk dX11_wheel_43
def f_X11_feet (w : Wd) (a1 : Int32) : Option (Int32 × Wd) :=
if (f_X11_within a1 (1 : Int32) (20 : Int32)) = 0 then
some ((-2 : Int32), w)
else
q_gt w 3 3 (fun v_17 =>
q_pt w 3 3 a1 (fun w_26 =>
some (v_17, w_26)))
set_option maxRecDepth 100000 in
set_option maxHeartbeats 4000000 in
theorem c_X11_feet (l : Launch) (D : va_G) (cT : Nat → ClassId) (lo : Nat) (w : Wd) (ad : Nat → Nat) (a1 : Int32) (r : Int32) (w9 : Wd) (h : f_X11_feet w a1 = some (r, w9)) : Met l yX11_feet (.code yX11_feet cX11_feet 3 (some .int) :: TW) { frames := 1, cells := 0, slots := 0, locals := 22 } (mPc D cT lo NB w ad [.ref (ad 1), .int a1]) (mQ D cT lo NB w w9 ad (some (.int r))) 0 0 (fun q => lo ≤ q) := by
  unfold f_X11_feet at h
  refine x_met (lv := [(0, .ref (ad 1)), (1, .int a1)]) (by decide +kernel) (Nat.le_of_ble_eq_true rfl) rfl ?_
  intro p e s m args below meth c ls F hr hlk hP hin hl
  have hx := F.1
  have hb := F.2.1
  have hS : va_S (fun q => lo ≤ q) s.heap s.heap [] := va_S.rf
  have hM_w : mono w w := mono.refl
  refine lv_iload_n hx hb dX11_feet_0 rfl (lv_at hl 1 rfl) ?_
  refine lv_iconst (v := 1) hx hb dX11_feet_1 ic_1 ?_
  refine lv_bipush (v := 20) hx hb dX11_feet_2 ib_20 ?_
  refine x_goesZ (x_runS (As := [.int a1, .int (1 : Int32), .int (20 : Int32)]) (rest := []) F hP hS (c_X11_within l D cT lo NB w ad a1 (1 : Int32) (20 : Int32)) cw_X11_within lk_X11_71 st_X11_within ⟨rfl, rfl, Nat.le_of_ble_eq_true rfl, Nat.le_of_ble_eq_true rfl⟩ hl.1 rfl (Nat.le_of_ble_eq_true rfl) dX11_feet_4 ⟨Nat.zero_le _, Nat.zero_le _⟩) hS (fun H locs hz_4 hP hS _ => ?_)
  refine lv_if_ne (tgt := 13) hx hb dX11_feet_7 (by decide) (fun hc => ?_) (fun hc => ?_)
  · have h := if_f _ hc h
    refine lv_aload_n hx hb dX11_feet_13 rfl (lv_at hl 0 rfl) ?_
    refine x_getr F hP k_1 (hP.al 1 rfl) fl_X11_21 rfl r_1_1 dX11_feet_14 ?_
    refine y_geti h F hP k_3 (n2 (hP.al 3 rfl)) fl_X11_170 rfl dX11_feet_17 (fun v_17 h => ?_)
    refine lv_istore_n (lv' := [(2, .int v_17), (0, .ref (ad 1)), (1, .int a1)]) hx hb dX11_feet_20 rfl hl (Nat.le_of_ble_eq_true rfl) rfl (fun ls hl => ?_)
    refine lv_aload_n hx hb dX11_feet_21 rfl (lv_at hl 1 rfl) ?_
    refine x_getr F hP k_1 (hP.al 1 rfl) fl_X11_21 rfl r_1_1 dX11_feet_22 ?_
    refine lv_iload_n hx hb dX11_feet_25 rfl (lv_at hl 2 rfl) ?_
    refine y_puti h F hP hS k_3 (n2 (hP.al 3 rfl)) fl_X11_170 rfl dX11_feet_26 (fun w_26 H locs hm h hP hS => ?_)
    have hM_w := hm
    refine lv_iload_n hx hb dX11_feet_29 rfl (lv_at hl 0 rfl) ?_
    exact y_iretM h F hr hP hS hM_w hlk dX11_feet_30
  · have h := if_t _ hc h
    refine lv_bipush (v := -2) hx hb dX11_feet_10 ib_m2 ?_
    exact y_iretM h F hr hP hS mono.refl hlk dX11_feet_12
def f_X11_meets (w : Wd) (a1 : Int32) (a2 : Int32) : Option (Int32 × Wd) :=
q_bo (f_X3_carAt w a1) (fun q_5 =>
if q_5 = 0 then
some ((-2 : Int32), w)
else
if (f_X11_within a2 (0 : Int32) (10 : Int32)) = 0 then
some ((-2 : Int32), w)
else
q_gt w q_5 12 (fun v_27 =>
if v_27 = 0 then
some ((-3 : Int32), w)
else
if a2 = (10 : Int32) then
q_gt w q_5 9 (fun v_48 =>
q_gt w q_5 10 (fun v_52 =>
q_gt w q_5 11 (fun v_56 =>
q_bi (f_X3_firstMet w q_5 v_48 v_52 v_56) (fun v_59 w_59 =>
some (v_59, w_59)))))
else
q_gt w q_5 9 (fun v_69 =>
q_gt w q_5 10 (fun v_73 =>
q_gt w q_5 11 (fun v_77 =>
q_bo (f_X3_aim w q_5 v_69 v_73 v_77 a2) (fun w_81 =>
q_gt w_81 3 8 (fun v_93 =>
q_gt w_81 3 9 (fun v_100 =>
q_gt w_81 3 10 (fun v_107 =>
q_bi (f_X3_firstMet w_81 q_5 v_93 v_100 v_107) (fun v_110 w_110 =>
some (v_110, w_110)))))))))))
set_option maxRecDepth 100000 in
set_option maxHeartbeats 4000000 in
theorem c_X11_meets (l : Launch) (D : va_G) (cT : Nat → ClassId) (lo : Nat) (w : Wd) (ad : Nat → Nat) (a1 : Int32) (a2 : Int32) (r : Int32) (w9 : Wd) (h : f_X11_meets w a1 a2 = some (r, w9)) : Met l yX11_meets (.code yX11_meets cX11_meets 4 (some .int) :: TW) { frames := 5, cells := 0, slots := 0, locals := 124 } (mPc D cT lo NB w ad [.ref (ad 1), .int a1, .int a2]) (mQ D cT lo NB w w9 ad (some (.int r))) 0 0 (fun q => lo ≤ q) := by
  unfold f_X11_meets at h
  refine x_met (lv := [(0, .ref (ad 1)), (1, .int a1), (2, .int a2)]) (by decide +kernel) (Nat.le_of_ble_eq_true rfl) rfl ?_
  intro p e s m args below meth c ls F hr hlk hP hin hl
  have hx := F.1
  have hb := F.2.1
  have hS : va_S (fun q => lo ≤ q) s.heap s.heap [] := va_S.rf
  have hM_w : mono w w := mono.refl
  refine lv_aload_n hx hb dX11_meets_0 rfl (lv_at hl 0 rfl) ?_
  refine x_getr F hP k_1 (hP.al 1 rfl) fl_X11_21 rfl r_1_1 dX11_meets_1 ?_
  refine lv_iload_n hx hb dX11_meets_4 rfl (lv_at hl 1 rfl) ?_
  obtain ⟨q_5, hc_5, h⟩ := bo_s h
  refine x_goesR (x_runV (As := [.int a1]) (rest := []) F hP hS (c_X3_carAt l D cT lo w ad a1 q_5 hc_5) cw_X3_carAt lk_X11_128 vi_X3_carAt k_3 (n2 (hP.al 3 rfl)) rfl ⟨rfl, rfl, Nat.le_of_ble_eq_true rfl, Nat.le_of_ble_eq_true rfl⟩ hl.1 rfl (Nat.le_of_ble_eq_true rfl) dX11_meets_5 ⟨Nat.zero_le _, Nat.zero_le _⟩) hS (fun H locs hq hP hS => ?_) (fun H locs hz_q_5 hk_q_5 ha_q_5 hP hS => ?_)
  · subst hq
    refine lv_astore_nN (lv' := [(3, .null), (0, .ref (ad 1)), (1, .int a1), (2, .int a2)]) hx hb dX11_meets_8 rfl hl (Nat.le_of_ble_eq_true rfl) rfl (fun ls hl => ?_)
    refine lv_aload_nN hx hb dX11_meets_9 rfl (lv_at hl 0 rfl) ?_
    have h := if_t _ rfl h
    refine lv_ifnullN (tgt := 23) hx hb dX11_meets_10 (by decide) ?_
    refine lv_bipush (v := -2) hx hb dX11_meets_23 ib_m2 ?_
    exact y_iretM h F hr hP hS mono.refl hlk dX11_meets_25
  · refine lv_astore_n (lv' := [(3, .ref (ad q_5)), (0, .ref (ad 1)), (1, .int a1), (2, .int a2)]) hx hb dX11_meets_8 rfl hl (Nat.le_of_ble_eq_true rfl) rfl (fun ls hl => ?_)
    refine lv_aload_n hx hb dX11_meets_9 rfl (lv_at hl 0 rfl) ?_
    have h := if_f _ hz_q_5 h
    refine lv_ifnull hx hb dX11_meets_10 ?_
    refine lv_iload_n hx hb dX11_meets_13 rfl (lv_at hl 3 rfl) ?_
    refine lv_iconst (v := 0) hx hb dX11_meets_14 ic_0 ?_
    refine lv_bipush (v := 10) hx hb dX11_meets_15 ib_10 ?_
    refine x_goesZ (x_runS (As := [.int a2, .int (0 : Int32), .int (10 : Int32)]) (rest := []) F hP hS (c_X11_within l D cT lo NB w ad a2 (0 : Int32) (10 : Int32)) cw_X11_within lk_X11_71 st_X11_within ⟨rfl, rfl, Nat.le_of_ble_eq_true rfl, Nat.le_of_ble_eq_true rfl⟩ hl.1 rfl (Nat.le_of_ble_eq_true rfl) dX11_meets_17 ⟨Nat.zero_le _, Nat.zero_le _⟩) hS (fun H locs hz_17 hP hS _ => ?_)
    refine lv_if_ne (tgt := 26) hx hb dX11_meets_20 (by decide) (fun hc => ?_) (fun hc => ?_)
    · have h := if_f _ hc h
      refine lv_aload_n hx hb dX11_meets_26 rfl (lv_at hl 0 rfl) ?_
      refine y_geti h F hP hk_q_5 (n2 ha_q_5) fl_X11_146 rfl dX11_meets_27 (fun v_27 h => ?_)
      refine lv_if_ne (tgt := 36) hx hb dX11_meets_30 (by decide) (fun hc => ?_) (fun hc => ?_)
      · have h := if_f _ hc h
        refine lv_iload_n hx hb dX11_meets_36 rfl (lv_at hl 3 rfl) ?_
        refine lv_bipush (v := 10) hx hb dX11_meets_37 ib_10 ?_
        refine lv_icmp_ne (tgt := 63) hx hb dX11_meets_39 (by decide) (fun hc => ?_) (fun hc => ?_)
        · have h := if_f _ hc h
          refine lv_aload_n hx hb dX11_meets_63 rfl (lv_at hl 1 rfl) ?_
          refine x_getr F hP k_1 (hP.al 1 rfl) fl_X11_21 rfl r_1_1 dX11_meets_64 ?_
          refine lv_aload_n hx hb dX11_meets_67 rfl (lv_at hl 0 rfl) ?_
          refine lv_aload_n hx hb dX11_meets_68 rfl (lv_at hl 0 rfl) ?_
          refine y_geti h F hP hk_q_5 (n2 ha_q_5) fl_X11_154 rfl dX11_meets_69 (fun v_69 h => ?_)
          refine lv_aload_n hx hb dX11_meets_72 rfl (lv_at hl 0 rfl) ?_
          refine y_geti h F hP hk_q_5 (n2 ha_q_5) fl_X11_164 rfl dX11_meets_73 (fun v_73 h => ?_)
          refine lv_aload_n hx hb dX11_meets_76 rfl (lv_at hl 0 rfl) ?_
          refine y_geti h F hP hk_q_5 (n2 ha_q_5) fl_X11_158 rfl dX11_meets_77 (fun v_77 h => ?_)
          refine lv_iload_n hx hb dX11_meets_80 rfl (lv_at hl 3 rfl) ?_
          obtain ⟨w_81, hc_81, h⟩ := bo_s h
          refine x_goes (x_runV (As := [.ref (ad q_5), .int v_69, .int v_73, .int v_77, .int a2]) (rest := []) F hP hS (c_X3_aim l D cT lo w ad q_5 hk_q_5 ha_q_5 v_69 v_73 v_77 a2 w_81 hc_81) cw_X3_aim lk_X11_173 vi_X3_aim k_3 (n2 (hP.al 3 rfl)) rfl ⟨rfl, rfl, Nat.le_of_ble_eq_true rfl, Nat.le_of_ble_eq_true rfl⟩ hl.1 rfl (Nat.le_of_ble_eq_true rfl) dX11_meets_81 ⟨Nat.zero_le _, Nat.zero_le _⟩) hS (fun H locs hP hS hm => ?_)
          have hM_w := hm
          have ha_q_5 := hm.2 _ ha_q_5
          refine lv_aload_n hx hb dX11_meets_84 rfl (lv_at hl 1 rfl) ?_
          refine x_getr F hP k_1 (hP.al 1 rfl) fl_X11_21 rfl r_1_1 dX11_meets_85 ?_
          refine lv_aload_n hx hb dX11_meets_88 rfl (lv_at hl 0 rfl) ?_
          refine lv_aload_n hx hb dX11_meets_89 rfl (lv_at hl 1 rfl) ?_
          refine x_getr F hP k_1 (hP.al 1 rfl) fl_X11_21 rfl r_1_1 dX11_meets_90 ?_
          refine y_geti h F hP k_3 (n2 (hP.al 3 rfl)) fl_X11_177 rfl dX11_meets_93 (fun v_93 h => ?_)
          refine lv_aload_n hx hb dX11_meets_96 rfl (lv_at hl 1 rfl) ?_
          refine x_getr F hP k_1 (hP.al 1 rfl) fl_X11_21 rfl r_1_1 dX11_meets_97 ?_
          refine y_geti h F hP k_3 (n2 (hP.al 3 rfl)) fl_X11_180 rfl dX11_meets_100 (fun v_100 h => ?_)
          refine lv_aload_n hx hb dX11_meets_103 rfl (lv_at hl 1 rfl) ?_
          refine x_getr F hP k_1 (hP.al 1 rfl) fl_X11_21 rfl r_1_1 dX11_meets_104 ?_
          refine y_geti h F hP k_3 (n2 (hP.al 3 rfl)) fl_X11_183 rfl dX11_meets_107 (fun v_107 h => ?_)
          obtain ⟨v_110, w_110, hc_110, h⟩ := bi_s h
          refine x_goes (x_runV (As := [.ref (ad q_5), .int v_93, .int v_100, .int v_107]) (rest := []) F hP hS (c_X3_firstMet l D cT lo w_81 ad q_5 hk_q_5 ha_q_5 v_93 v_100 v_107 v_110 w_110 hc_110) cw_X3_firstMet lk_X11_138 vi_X3_firstMet k_3 (n2 (hP.al 3 rfl)) rfl ⟨rfl, rfl, Nat.le_of_ble_eq_true rfl, Nat.le_of_ble_eq_true rfl⟩ hl.1 rfl (Nat.le_of_ble_eq_true rfl) dX11_meets_110 ⟨Nat.zero_le _, Nat.zero_le _⟩) hS (fun H locs hP hS hm => ?_)
          have hM_w := hM_w.trans hm
          have ha_q_5 := hm.2 _ ha_q_5
          exact y_iretM h F hr hP hS hM_w hlk dX11_meets_113
        · have h := if_t _ hc h
          refine lv_aload_n hx hb dX11_meets_42 rfl (lv_at hl 1 rfl) ?_
          refine x_getr F hP k_1 (hP.al 1 rfl) fl_X11_21 rfl r_1_1 dX11_meets_43 ?_
          refine lv_aload_n hx hb dX11_meets_46 rfl (lv_at hl 0 rfl) ?_
          refine lv_aload_n hx hb dX11_meets_47 rfl (lv_at hl 0 rfl) ?_
          refine y_geti h F hP hk_q_5 (n2 ha_q_5) fl_X11_154 rfl dX11_meets_48 (fun v_48 h => ?_)
          refine lv_aload_n hx hb dX11_meets_51 rfl (lv_at hl 0 rfl) ?_
          refine y_geti h F hP hk_q_5 (n2 ha_q_5) fl_X11_164 rfl dX11_meets_52 (fun v_52 h => ?_)
          refine lv_aload_n hx hb dX11_meets_55 rfl (lv_at hl 0 rfl) ?_
          refine y_geti h F hP hk_q_5 (n2 ha_q_5) fl_X11_158 rfl dX11_meets_56 (fun v_56 h => ?_)
          obtain ⟨v_59, w_59, hc_59, h⟩ := bi_s h
          refine x_goes (x_runV (As := [.ref (ad q_5), .int v_48, .int v_52, .int v_56]) (rest := []) F hP hS (c_X3_firstMet l D cT lo w ad q_5 hk_q_5 ha_q_5 v_48 v_52 v_56 v_59 w_59 hc_59) cw_X3_firstMet lk_X11_138 vi_X3_firstMet k_3 (n2 (hP.al 3 rfl)) rfl ⟨rfl, rfl, Nat.le_of_ble_eq_true rfl, Nat.le_of_ble_eq_true rfl⟩ hl.1 rfl (Nat.le_of_ble_eq_true rfl) dX11_meets_59 ⟨Nat.zero_le _, Nat.zero_le _⟩) hS (fun H locs hP hS hm => ?_)
          have hM_w := hm
          have ha_q_5 := hm.2 _ ha_q_5
          exact y_iretM h F hr hP hS hM_w hlk dX11_meets_62
      · have h := if_t _ hc h
        refine lv_bipush (v := -3) hx hb dX11_meets_33 ib_m3 ?_
        exact y_iretM h F hr hP hS mono.refl hlk dX11_meets_35
    · have h := if_t _ hc h
      refine lv_bipush (v := -2) hx hb dX11_meets_23 ib_m2 ?_
      exact y_iretM h F hr hP hS mono.refl hlk dX11_meets_25
def f_X11_move (w : Wd) (a1 : Int32) (a2 : Int32) : Option (Int32 × Wd) :=
q_bo (f_X3_carAt w a1) (fun q_5 =>
if q_5 = 0 then
some ((-2 : Int32), w)
else
if (f_X11_within a2 (0 : Int32) (9 : Int32)) = 0 then
some ((-2 : Int32), w)
else
q_bi (f_X3_drive w q_5 a2) (fun v_32 w_32 =>
if v_32 = 0 then
some ((-3 : Int32), w_32)
else
some ((1 : Int32), w_32)))
set_option maxRecDepth 100000 in
set_option maxHeartbeats 4000000 in
theorem c_X11_move (l : Launch) (D : va_G) (cT : Nat → ClassId) (lo : Nat) (w : Wd) (ad : Nat → Nat) (a1 : Int32) (a2 : Int32) (r : Int32) (w9 : Wd) (h : f_X11_move w a1 a2 = some (r, w9)) : Met l yX11_move (.code yX11_move cX11_move 4 (some .int) :: TW) { frames := 6, cells := 0, slots := 0, locals := 146 } (mPc D cT lo NB w ad [.ref (ad 1), .int a1, .int a2]) (mQ D cT lo NB w w9 ad (some (.int r))) 0 0 (fun q => lo ≤ q) := by
  unfold f_X11_move at h
  refine x_met (lv := [(0, .ref (ad 1)), (1, .int a1), (2, .int a2)]) (by decide +kernel) (Nat.le_of_ble_eq_true rfl) rfl ?_
  intro p e s m args below meth c ls F hr hlk hP hin hl
  have hx := F.1
  have hb := F.2.1
  have hS : va_S (fun q => lo ≤ q) s.heap s.heap [] := va_S.rf
  have hM_w : mono w w := mono.refl
  refine lv_aload_n hx hb dX11_move_0 rfl (lv_at hl 0 rfl) ?_
  refine x_getr F hP k_1 (hP.al 1 rfl) fl_X11_21 rfl r_1_1 dX11_move_1 ?_
  refine lv_iload_n hx hb dX11_move_4 rfl (lv_at hl 1 rfl) ?_
  obtain ⟨q_5, hc_5, h⟩ := bo_s h
  refine x_goesR (x_runV (As := [.int a1]) (rest := []) F hP hS (c_X3_carAt l D cT lo w ad a1 q_5 hc_5) cw_X3_carAt lk_X11_128 vi_X3_carAt k_3 (n2 (hP.al 3 rfl)) rfl ⟨rfl, rfl, Nat.le_of_ble_eq_true rfl, Nat.le_of_ble_eq_true rfl⟩ hl.1 rfl (Nat.le_of_ble_eq_true rfl) dX11_move_5 ⟨Nat.zero_le _, Nat.zero_le _⟩) hS (fun H locs hq hP hS => ?_) (fun H locs hz_q_5 hk_q_5 ha_q_5 hP hS => ?_)
  · subst hq
    refine lv_astore_nN (lv' := [(3, .null), (0, .ref (ad 1)), (1, .int a1), (2, .int a2)]) hx hb dX11_move_8 rfl hl (Nat.le_of_ble_eq_true rfl) rfl (fun ls hl => ?_)
    refine lv_aload_nN hx hb dX11_move_9 rfl (lv_at hl 0 rfl) ?_
    have h := if_t _ rfl h
    refine lv_ifnullN (tgt := 23) hx hb dX11_move_10 (by decide) ?_
    refine lv_bipush (v := -2) hx hb dX11_move_23 ib_m2 ?_
    exact y_iretM h F hr hP hS mono.refl hlk dX11_move_25
  · refine lv_astore_n (lv' := [(3, .ref (ad q_5)), (0, .ref (ad 1)), (1, .int a1), (2, .int a2)]) hx hb dX11_move_8 rfl hl (Nat.le_of_ble_eq_true rfl) rfl (fun ls hl => ?_)
    refine lv_aload_n hx hb dX11_move_9 rfl (lv_at hl 0 rfl) ?_
    have h := if_f _ hz_q_5 h
    refine lv_ifnull hx hb dX11_move_10 ?_
    refine lv_iload_n hx hb dX11_move_13 rfl (lv_at hl 3 rfl) ?_
    refine lv_iconst (v := 0) hx hb dX11_move_14 ic_0 ?_
    refine lv_bipush (v := 9) hx hb dX11_move_15 ib_9 ?_
    refine x_goesZ (x_runS (As := [.int a2, .int (0 : Int32), .int (9 : Int32)]) (rest := []) F hP hS (c_X11_within l D cT lo NB w ad a2 (0 : Int32) (9 : Int32)) cw_X11_within lk_X11_71 st_X11_within ⟨rfl, rfl, Nat.le_of_ble_eq_true rfl, Nat.le_of_ble_eq_true rfl⟩ hl.1 rfl (Nat.le_of_ble_eq_true rfl) dX11_move_17 ⟨Nat.zero_le _, Nat.zero_le _⟩) hS (fun H locs hz_17 hP hS _ => ?_)
    refine lv_if_ne (tgt := 26) hx hb dX11_move_20 (by decide) (fun hc => ?_) (fun hc => ?_)
    · have h := if_f _ hc h
      refine lv_aload_n hx hb dX11_move_26 rfl (lv_at hl 1 rfl) ?_
      refine x_getr F hP k_1 (hP.al 1 rfl) fl_X11_21 rfl r_1_1 dX11_move_27 ?_
      refine lv_aload_n hx hb dX11_move_30 rfl (lv_at hl 0 rfl) ?_
      refine lv_iload_n hx hb dX11_move_31 rfl (lv_at hl 3 rfl) ?_
      obtain ⟨v_32, w_32, hc_32, h⟩ := bi_s h
      refine x_goesZ (x_runV (As := [.ref (ad q_5), .int a2]) (rest := []) F hP hS (c_X3_drive l D cT lo w ad q_5 hk_q_5 ha_q_5 a2 v_32 w_32 hc_32) cw_X3_drive lk_X11_186 vi_X3_drive k_3 (n2 (hP.al 3 rfl)) rfl ⟨rfl, rfl, Nat.le_of_ble_eq_true rfl, Nat.le_of_ble_eq_true rfl⟩ hl.1 rfl (Nat.le_of_ble_eq_true rfl) dX11_move_32 ⟨Nat.zero_le _, Nat.zero_le _⟩) hS (fun H locs hz_32 hP hS hm => ?_)
      have hM_w := hm
      have ha_q_5 := hm.2 _ ha_q_5
      refine lv_if_eq (tgt := 42) hx hb dX11_move_35 (by decide) (fun hc => ?_) (fun hc => ?_)
      · have h := if_t _ hc h
        refine lv_bipush (v := -3) hx hb dX11_move_42 ib_m3 ?_
        exact y_iretM h F hr hP hS hM_w hlk dX11_move_44
      · have h := if_f _ hc h
        refine lv_iconst (v := 1) hx hb dX11_move_38 ic_1 ?_
        refine lv_goto (tgt := 44) hx hb dX11_move_39 (by decide) ?_
        exact y_iretM h F hr hP hS hM_w hlk dX11_move_44
    · have h := if_t _ hc h
      refine lv_bipush (v := -2) hx hb dX11_move_23 ib_m2 ?_
      exact y_iretM h F hr hP hS mono.refl hlk dX11_move_25
def f_X11_step (w : Wd) (a1 : Int32) : Option Int32 :=
q_bo (f_X10_stepAt w a1) (fun v_5 =>
some v_5)
set_option maxRecDepth 100000 in
set_option maxHeartbeats 4000000 in
theorem c_X11_step (l : Launch) (D : va_G) (cT : Nat → ClassId) (lo : Nat) (w : Wd) (ad : Nat → Nat) (a1 : Int32) (r : Int32) (h : f_X11_step w a1 = some r) : Met l yX11_step (.code yX11_step cX11_step 2 (some .int) :: TW) { frames := 2, cells := 0, slots := 0, locals := 43 } (mPc D cT lo NB w ad [.ref (ad 1), .int a1]) (mQ D cT lo NB w w ad (some (.int r))) 0 0 (fun q => lo ≤ q) := by
  unfold f_X11_step at h
  refine x_met (lv := [(0, .ref (ad 1)), (1, .int a1)]) (by decide +kernel) (Nat.le_of_ble_eq_true rfl) rfl ?_
  intro p e s m args below meth c ls F hr hlk hP hin hl
  have hx := F.1
  have hb := F.2.1
  have hS : va_S (fun q => lo ≤ q) s.heap s.heap [] := va_S.rf
  refine lv_aload_n hx hb dX11_step_0 rfl (lv_at hl 0 rfl) ?_
  refine x_getr F hP k_1 (hP.al 1 rfl) fl_X11_30 rfl r_1_2 dX11_step_1 ?_
  refine lv_iload_n hx hb dX11_step_4 rfl (lv_at hl 1 rfl) ?_
  obtain ⟨v_5, hc_5, h⟩ := bo_s h
  refine x_goes (x_runV (As := [.int a1]) (rest := []) F hP hS (c_X10_stepAt l D cT lo w ad a1 v_5 hc_5) cw_X10_stepAt lk_X11_203 vi_X10_stepAt k_4 (n2 (hP.al 4 rfl)) rfl ⟨rfl, rfl, Nat.le_of_ble_eq_true rfl, Nat.le_of_ble_eq_true rfl⟩ hl.1 rfl (Nat.le_of_ble_eq_true rfl) dX11_step_5 ⟨Nat.zero_le _, Nat.zero_le _⟩) hS (fun H locs hP hS _ => ?_)
  exact y_iretO h F hr hP hS hlk dX11_step_8
def f_X11_seen (w : Wd) : Int32 :=
wS w 4 5
set_option maxRecDepth 100000 in
set_option maxHeartbeats 4000000 in
theorem c_X11_seen (l : Launch) (D : va_G) (cT : Nat → ClassId) (lo : Nat) (w : Wd) (ad : Nat → Nat)  : Met l yX11_seen (.code yX11_seen cX11_seen 1 (some .int) :: TW) { frames := 0, cells := 0, slots := 0, locals := 0 } (mPc D cT lo NB w ad [.ref (ad 1)]) (mQ D cT lo NB w w ad (some (.int (f_X11_seen w)))) 0 0 (fun q => lo ≤ q) := by
  obtain ⟨r, h⟩ : ∃ r, f_X11_seen w = r := ⟨_, rfl⟩
  rw [h]
  unfold f_X11_seen at h
  refine x_met (lv := [(0, .ref (ad 1))]) (by decide +kernel) (Nat.le_of_ble_eq_true rfl) rfl ?_
  intro p e s m args below meth c ls F hr hlk hP hin hl
  have hx := F.1
  have hb := F.2.1
  have hS : va_S (fun q => lo ≤ q) s.heap s.heap [] := va_S.rf
  refine lv_aload_n hx hb dX11_seen_0 rfl (lv_at hl 0 rfl) ?_
  refine x_getr F hP k_1 (hP.al 1 rfl) fl_X11_30 rfl r_1_2 dX11_seen_1 ?_
  refine x_geti F hP k_4 (n2 (hP.al 4 rfl)) fl_X11_206 rfl dX11_seen_4 ?_
  exact y_iretP h F hr hP hS hlk dX11_seen_7
def f_X11_rope (w : Wd) (a1 : Int32) (a2 : Int32) (a3 : Int32) (a4 : Int32) (a5 : Int32) : Option (Int32 × Wd) :=
q_bo (f_X3_carAt w a1) (fun q_5 =>
if q_5 = 0 then
some ((-2 : Int32), w)
else
if (f_X11_within a2 (0 : Int32) (3 : Int32)) = 0 then
some ((-2 : Int32), w)
else
if (f_X11_within a3 (0 : Int32) (300 : Int32)) = 0 then
some ((-2 : Int32), w)
else
if (f_X11_within a4 (1 : Int32) (60 : Int32)) = 0 then
some ((-2 : Int32), w)
else
if (f_X11_within a5 (-9 : Int32) (9 : Int32)) = 0 then
some ((-2 : Int32), w)
else
q_st w (q_5 + 10) 4 a2 a3 (fun w_71 =>
q_st w_71 (q_5 + 11) 4 a2 a4 (fun w_80 =>
q_st w_80 (q_5 + 12) 4 a2 a5 (fun w_89 =>
some ((1 : Int32), w_89)))))
set_option maxRecDepth 100000 in
set_option maxHeartbeats 4000000 in
theorem c_X11_rope (l : Launch) (D : va_G) (cT : Nat → ClassId) (lo : Nat) (w : Wd) (ad : Nat → Nat) (a1 : Int32) (a2 : Int32) (a3 : Int32) (a4 : Int32) (a5 : Int32) (r : Int32) (w9 : Wd) (h : f_X11_rope w a1 a2 a3 a4 a5 = some (r, w9)) : Met l yX11_rope (.code yX11_rope cX11_rope 7 (some .int) :: TW) { frames := 2, cells := 0, slots := 0, locals := 43 } (mPc D cT lo NB w ad [.ref (ad 1), .int a1, .int a2, .int a3, .int a4, .int a5]) (mQ D cT lo NB w w9 ad (some (.int r))) 0 0 (fun q => lo ≤ q) := by
  unfold f_X11_rope at h
  refine x_met (lv := [(0, .ref (ad 1)), (1, .int a1), (2, .int a2), (3, .int a3), (4, .int a4), (5, .int a5)]) (by decide +kernel) (Nat.le_of_ble_eq_true rfl) rfl ?_
  intro p e s m args below meth c ls F hr hlk hP hin hl
  have hx := F.1
  have hb := F.2.1
  have hS : va_S (fun q => lo ≤ q) s.heap s.heap [] := va_S.rf
  have hM_w : mono w w := mono.refl
  refine lv_aload_n hx hb dX11_rope_0 rfl (lv_at hl 0 rfl) ?_
  refine x_getr F hP k_1 (hP.al 1 rfl) fl_X11_21 rfl r_1_1 dX11_rope_1 ?_
  refine lv_iload_n hx hb dX11_rope_4 rfl (lv_at hl 1 rfl) ?_
  obtain ⟨q_5, hc_5, h⟩ := bo_s h
  refine x_goesR (x_runV (As := [.int a1]) (rest := []) F hP hS (c_X3_carAt l D cT lo w ad a1 q_5 hc_5) cw_X3_carAt lk_X11_128 vi_X3_carAt k_3 (n2 (hP.al 3 rfl)) rfl ⟨rfl, rfl, Nat.le_of_ble_eq_true rfl, Nat.le_of_ble_eq_true rfl⟩ hl.1 rfl (Nat.le_of_ble_eq_true rfl) dX11_rope_5 ⟨Nat.zero_le _, Nat.zero_le _⟩) hS (fun H locs hq hP hS => ?_) (fun H locs hz_q_5 hk_q_5 ha_q_5 hP hS => ?_)
  · subst hq
    refine lv_astoreN (lv' := [(6, .null), (0, .ref (ad 1)), (1, .int a1), (2, .int a2), (3, .int a3), (4, .int a4), (5, .int a5)]) hx hb dX11_rope_8 hl (Nat.le_of_ble_eq_true rfl) rfl (fun ls hl => ?_)
    refine lv_aloadN hx hb dX11_rope_10 (lv_at hl 0 rfl) ?_
    have h := if_t _ rfl h
    refine lv_ifnullN (tgt := 24) hx hb dX11_rope_12 (by decide) ?_
    refine lv_bipush (v := -2) hx hb dX11_rope_24 ib_m2 ?_
    exact y_iretM h F hr hP hS mono.refl hlk dX11_rope_26
  · refine lv_astore (lv' := [(6, .ref (ad q_5)), (0, .ref (ad 1)), (1, .int a1), (2, .int a2), (3, .int a3), (4, .int a4), (5, .int a5)]) hx hb dX11_rope_8 hl (Nat.le_of_ble_eq_true rfl) rfl (fun ls hl => ?_)
    refine lv_aload hx hb dX11_rope_10 (lv_at hl 0 rfl) ?_
    have h := if_f _ hz_q_5 h
    refine lv_ifnull hx hb dX11_rope_12 ?_
    refine lv_iload_n hx hb dX11_rope_15 rfl (lv_at hl 3 rfl) ?_
    refine lv_iconst (v := 0) hx hb dX11_rope_16 ic_0 ?_
    refine lv_iconst (v := 3) hx hb dX11_rope_17 ic_3 ?_
    refine x_goesZ (x_runS (As := [.int a2, .int (0 : Int32), .int (3 : Int32)]) (rest := []) F hP hS (c_X11_within l D cT lo NB w ad a2 (0 : Int32) (3 : Int32)) cw_X11_within lk_X11_71 st_X11_within ⟨rfl, rfl, Nat.le_of_ble_eq_true rfl, Nat.le_of_ble_eq_true rfl⟩ hl.1 rfl (Nat.le_of_ble_eq_true rfl) dX11_rope_18 ⟨Nat.zero_le _, Nat.zero_le _⟩) hS (fun H locs hz_18 hP hS _ => ?_)
    refine lv_if_ne (tgt := 27) hx hb dX11_rope_21 (by decide) (fun hc => ?_) (fun hc => ?_)
    · have h := if_f _ hc h
      refine lv_iload_n hx hb dX11_rope_27 rfl (lv_at hl 4 rfl) ?_
      refine lv_iconst (v := 0) hx hb dX11_rope_28 ic_0 ?_
      refine lv_sipush (v := 300) hx hb dX11_rope_29 is_300 ?_
      refine x_goesZ (x_runS (As := [.int a3, .int (0 : Int32), .int (300 : Int32)]) (rest := []) F hP hS (c_X11_within l D cT lo NB w ad a3 (0 : Int32) (300 : Int32)) cw_X11_within lk_X11_71 st_X11_within ⟨rfl, rfl, Nat.le_of_ble_eq_true rfl, Nat.le_of_ble_eq_true rfl⟩ hl.1 rfl (Nat.le_of_ble_eq_true rfl) dX11_rope_32 ⟨Nat.zero_le _, Nat.zero_le _⟩) hS (fun H locs hz_32 hP hS _ => ?_)
      refine lv_if_eq (tgt := 61) hx hb dX11_rope_35 (by decide) (fun hc => ?_) (fun hc => ?_)
      · have h := if_t _ hc h
        refine lv_bipush (v := -2) hx hb dX11_rope_61 ib_m2 ?_
        exact y_iretM h F hr hP hS mono.refl hlk dX11_rope_63
      · have h := if_f _ hc h
        refine lv_iload hx hb dX11_rope_38 (lv_at hl 5 rfl) ?_
        refine lv_iconst (v := 1) hx hb dX11_rope_40 ic_1 ?_
        refine lv_bipush (v := 60) hx hb dX11_rope_41 ib_60 ?_
        refine x_goesZ (x_runS (As := [.int a4, .int (1 : Int32), .int (60 : Int32)]) (rest := []) F hP hS (c_X11_within l D cT lo NB w ad a4 (1 : Int32) (60 : Int32)) cw_X11_within lk_X11_71 st_X11_within ⟨rfl, rfl, Nat.le_of_ble_eq_true rfl, Nat.le_of_ble_eq_true rfl⟩ hl.1 rfl (Nat.le_of_ble_eq_true rfl) dX11_rope_43 ⟨Nat.zero_le _, Nat.zero_le _⟩) hS (fun H locs hz_43 hP hS _ => ?_)
        refine lv_if_eq (tgt := 61) hx hb dX11_rope_46 (by decide) (fun hc => ?_) (fun hc => ?_)
        · have h := if_t _ hc h
          refine lv_bipush (v := -2) hx hb dX11_rope_61 ib_m2 ?_
          exact y_iretM h F hr hP hS mono.refl hlk dX11_rope_63
        · have h := if_f _ hc h
          refine lv_iload hx hb dX11_rope_49 (lv_at hl 6 rfl) ?_
          refine lv_bipush (v := -9) hx hb dX11_rope_51 ib_m9 ?_
          refine lv_bipush (v := 9) hx hb dX11_rope_53 ib_9 ?_
          refine x_goesZ (x_runS (As := [.int a5, .int (-9 : Int32), .int (9 : Int32)]) (rest := []) F hP hS (c_X11_within l D cT lo NB w ad a5 (-9 : Int32) (9 : Int32)) cw_X11_within lk_X11_71 st_X11_within ⟨rfl, rfl, Nat.le_of_ble_eq_true rfl, Nat.le_of_ble_eq_true rfl⟩ hl.1 rfl (Nat.le_of_ble_eq_true rfl) dX11_rope_55 ⟨Nat.zero_le _, Nat.zero_le _⟩) hS (fun H locs hz_55 hP hS _ => ?_)
          refine lv_if_ne (tgt := 64) hx hb dX11_rope_58 (by decide) (fun hc => ?_) (fun hc => ?_)
          · have h := if_f _ hc h
            refine lv_aload hx hb dX11_rope_64 (lv_at hl 0 rfl) ?_
            refine x_getr F hP hk_q_5 ha_q_5 fl_X11_209 rfl (carR_14 hk_q_5) dX11_rope_66 ?_
            have ha_q_5_10 := x_al hP hk_q_5 ha_q_5 (show ft 1 14 = 1 from rfl) (carR_14 hk_q_5)
            refine lv_iload_n hx hb dX11_rope_69 rfl (lv_at hl 3 rfl) ?_
            refine lv_iload_n hx hb dX11_rope_70 rfl (lv_at hl 4 rfl) ?_
            refine y_iast h F hP hS (carK_14 hk_q_5) (n2 ha_q_5_10) dX11_rope_71 (fun w_71 H locs hm h hP hS => ?_)
            have hM_w := hm
            have ha_q_5 := hm.2 _ ha_q_5
            have ha_q_5_10 := hm.2 _ ha_q_5_10
            refine lv_aload hx hb dX11_rope_72 (lv_at hl 0 rfl) ?_
            refine x_getr F hP hk_q_5 ha_q_5 fl_X11_213 rfl (carR_15 hk_q_5) dX11_rope_74 ?_
            have ha_q_5_11 := x_al hP hk_q_5 ha_q_5 (show ft 1 15 = 1 from rfl) (carR_15 hk_q_5)
            refine lv_iload_n hx hb dX11_rope_77 rfl (lv_at hl 3 rfl) ?_
            refine lv_iload hx hb dX11_rope_78 (lv_at hl 5 rfl) ?_
            refine y_iast h F hP hS (carK_15 hk_q_5) (n2 ha_q_5_11) dX11_rope_80 (fun w_80 H locs hm h hP hS => ?_)
            have hM_w := hM_w.trans hm
            have ha_q_5 := hm.2 _ ha_q_5
            have ha_q_5_10 := hm.2 _ ha_q_5_10
            have ha_q_5_11 := hm.2 _ ha_q_5_11
            refine lv_aload hx hb dX11_rope_81 (lv_at hl 0 rfl) ?_
            refine x_getr F hP hk_q_5 ha_q_5 fl_X11_216 rfl (carR_16 hk_q_5) dX11_rope_83 ?_
            have ha_q_5_12 := x_al hP hk_q_5 ha_q_5 (show ft 1 16 = 1 from rfl) (carR_16 hk_q_5)
            refine lv_iload_n hx hb dX11_rope_86 rfl (lv_at hl 3 rfl) ?_
            refine lv_iload hx hb dX11_rope_87 (lv_at hl 6 rfl) ?_
            refine y_iast h F hP hS (carK_16 hk_q_5) (n2 ha_q_5_12) dX11_rope_89 (fun w_89 H locs hm h hP hS => ?_)
            have hM_w := hM_w.trans hm
            have ha_q_5 := hm.2 _ ha_q_5
            have ha_q_5_10 := hm.2 _ ha_q_5_10
            have ha_q_5_11 := hm.2 _ ha_q_5_11
            have ha_q_5_12 := hm.2 _ ha_q_5_12
            refine lv_iconst (v := 1) hx hb dX11_rope_90 ic_1 ?_
            exact y_iretM h F hr hP hS hM_w hlk dX11_rope_91
          · have h := if_t _ hc h
            refine lv_bipush (v := -2) hx hb dX11_rope_61 ib_m2 ?_
            exact y_iretM h F hr hP hS mono.refl hlk dX11_rope_63
    · have h := if_t _ hc h
      refine lv_bipush (v := -2) hx hb dX11_rope_24 ib_m2 ?_
      exact y_iretM h F hr hP hS mono.refl hlk dX11_rope_26
def f_X11_set (w : Wd) (a1 : Int32) (a2 : Int32) : Option (Int32 × Wd) :=
q_bi (f_X3_tellNumber w a1 a2) (fun v_6 w_6 =>
some (v_6, w_6))
set_option maxRecDepth 100000 in
set_option maxHeartbeats 4000000 in
theorem c_X11_set (l : Launch) (D : va_G) (cT : Nat → ClassId) (lo : Nat) (w : Wd) (ad : Nat → Nat) (a1 : Int32) (a2 : Int32) (r : Int32) (w9 : Wd) (h : f_X11_set w a1 a2 = some (r, w9)) : Met l yX11_set (.code yX11_set cX11_set 3 (some .int) :: TW) { frames := 2, cells := 0, slots := 0, locals := 45 } (mPc D cT lo NB w ad [.ref (ad 1), .int a1, .int a2]) (mQ D cT lo NB w w9 ad (some (.int r))) 0 0 (fun q => lo ≤ q) := by
  unfold f_X11_set at h
  refine x_met (lv := [(0, .ref (ad 1)), (1, .int a1), (2, .int a2)]) (by decide +kernel) (Nat.le_of_ble_eq_true rfl) rfl ?_
  intro p e s m args below meth c ls F hr hlk hP hin hl
  have hx := F.1
  have hb := F.2.1
  have hS : va_S (fun q => lo ≤ q) s.heap s.heap [] := va_S.rf
  have hM_w : mono w w := mono.refl
  refine lv_aload_n hx hb dX11_set_0 rfl (lv_at hl 0 rfl) ?_
  refine x_getr F hP k_1 (hP.al 1 rfl) fl_X11_21 rfl r_1_1 dX11_set_1 ?_
  refine lv_iload_n hx hb dX11_set_4 rfl (lv_at hl 1 rfl) ?_
  refine lv_iload_n hx hb dX11_set_5 rfl (lv_at hl 2 rfl) ?_
  obtain ⟨v_6, w_6, hc_6, h⟩ := bi_s h
  refine x_goes (x_runV (As := [.int a1, .int a2]) (rest := []) F hP hS (c_X3_tellNumber l D cT lo w ad a1 a2 v_6 w_6 hc_6) cw_X3_tellNumber lk_X11_219 vi_X3_tellNumber k_3 (n2 (hP.al 3 rfl)) rfl ⟨rfl, rfl, Nat.le_of_ble_eq_true rfl, Nat.le_of_ble_eq_true rfl⟩ hl.1 rfl (Nat.le_of_ble_eq_true rfl) dX11_set_6 ⟨Nat.zero_le _, Nat.zero_le _⟩) hS (fun H locs hP hS hm => ?_)
  have hM_w := hm
  exact y_iretM h F hr hP hS hM_w hlk dX11_set_9
def f_X11_tight (w : Wd) (a1 : Int32) (a2 : Int32) : Option (Int32 × Wd) :=
q_bo (f_X3_carAt w a1) (fun q_5 =>
if q_5 = 0 then
some ((-2 : Int32), w)
else
if (f_X11_within a2 (0 : Int32) (3 : Int32)) = 0 then
some ((-2 : Int32), w)
else
q_gt w q_5 12 (fun v_26 =>
if v_26 = 0 then
some ((-3 : Int32), w)
else
q_bi (f_X3_houseBitten w q_5 a2) (fun v_41 w_41 =>
if v_41 = (-1 : Int32) then
q_bo (f_X1_isSlack w_41 q_5 a2) (fun v_60 =>
if v_60 = 0 then
some ((0 : Int32), w_41)
else
some ((1 : Int32), w_41))
else
some ((100 : Int32) + v_41, w_41))))
set_option maxRecDepth 100000 in
set_option maxHeartbeats 4000000 in
theorem c_X11_tight (l : Launch) (D : va_G) (cT : Nat → ClassId) (lo : Nat) (w : Wd) (ad : Nat → Nat) (a1 : Int32) (a2 : Int32) (r : Int32) (w9 : Wd) (h : f_X11_tight w a1 a2 = some (r, w9)) : Met l yX11_tight (.code yX11_tight cX11_tight 5 (some .int) :: TW) { frames := 5, cells := 0, slots := 0, locals := 114 } (mPc D cT lo NB w ad [.ref (ad 1), .int a1, .int a2]) (mQ D cT lo NB w w9 ad (some (.int r))) 0 0 (fun q => lo ≤ q) := by
  unfold f_X11_tight at h
  refine x_met (lv := [(0, .ref (ad 1)), (1, .int a1), (2, .int a2)]) (by decide +kernel) (Nat.le_of_ble_eq_true rfl) rfl ?_
  intro p e s m args below meth c ls F hr hlk hP hin hl
  have hx := F.1
  have hb := F.2.1
  have hS : va_S (fun q => lo ≤ q) s.heap s.heap [] := va_S.rf
  have hM_w : mono w w := mono.refl
  refine lv_aload_n hx hb dX11_tight_0 rfl (lv_at hl 0 rfl) ?_
  refine x_getr F hP k_1 (hP.al 1 rfl) fl_X11_21 rfl r_1_1 dX11_tight_1 ?_
  refine lv_iload_n hx hb dX11_tight_4 rfl (lv_at hl 1 rfl) ?_
  obtain ⟨q_5, hc_5, h⟩ := bo_s h
  refine x_goesR (x_runV (As := [.int a1]) (rest := []) F hP hS (c_X3_carAt l D cT lo w ad a1 q_5 hc_5) cw_X3_carAt lk_X11_128 vi_X3_carAt k_3 (n2 (hP.al 3 rfl)) rfl ⟨rfl, rfl, Nat.le_of_ble_eq_true rfl, Nat.le_of_ble_eq_true rfl⟩ hl.1 rfl (Nat.le_of_ble_eq_true rfl) dX11_tight_5 ⟨Nat.zero_le _, Nat.zero_le _⟩) hS (fun H locs hq hP hS => ?_) (fun H locs hz_q_5 hk_q_5 ha_q_5 hP hS => ?_)
  · subst hq
    refine lv_astore_nN (lv' := [(3, .null), (0, .ref (ad 1)), (1, .int a1), (2, .int a2)]) hx hb dX11_tight_8 rfl hl (Nat.le_of_ble_eq_true rfl) rfl (fun ls hl => ?_)
    refine lv_aload_nN hx hb dX11_tight_9 rfl (lv_at hl 0 rfl) ?_
    have h := if_t _ rfl h
    refine lv_ifnullN (tgt := 22) hx hb dX11_tight_10 (by decide) ?_
    refine lv_bipush (v := -2) hx hb dX11_tight_22 ib_m2 ?_
    exact y_iretM h F hr hP hS mono.refl hlk dX11_tight_24
  · refine lv_astore_n (lv' := [(3, .ref (ad q_5)), (0, .ref (ad 1)), (1, .int a1), (2, .int a2)]) hx hb dX11_tight_8 rfl hl (Nat.le_of_ble_eq_true rfl) rfl (fun ls hl => ?_)
    refine lv_aload_n hx hb dX11_tight_9 rfl (lv_at hl 0 rfl) ?_
    have h := if_f _ hz_q_5 h
    refine lv_ifnull hx hb dX11_tight_10 ?_
    refine lv_iload_n hx hb dX11_tight_13 rfl (lv_at hl 3 rfl) ?_
    refine lv_iconst (v := 0) hx hb dX11_tight_14 ic_0 ?_
    refine lv_iconst (v := 3) hx hb dX11_tight_15 ic_3 ?_
    refine x_goesZ (x_runS (As := [.int a2, .int (0 : Int32), .int (3 : Int32)]) (rest := []) F hP hS (c_X11_within l D cT lo NB w ad a2 (0 : Int32) (3 : Int32)) cw_X11_within lk_X11_71 st_X11_within ⟨rfl, rfl, Nat.le_of_ble_eq_true rfl, Nat.le_of_ble_eq_true rfl⟩ hl.1 rfl (Nat.le_of_ble_eq_true rfl) dX11_tight_16 ⟨Nat.zero_le _, Nat.zero_le _⟩) hS (fun H locs hz_16 hP hS _ => ?_)
    refine lv_if_ne (tgt := 25) hx hb dX11_tight_19 (by decide) (fun hc => ?_) (fun hc => ?_)
    · have h := if_f _ hc h
      refine lv_aload_n hx hb dX11_tight_25 rfl (lv_at hl 0 rfl) ?_
      refine y_geti h F hP hk_q_5 (n2 ha_q_5) fl_X11_146 rfl dX11_tight_26 (fun v_26 h => ?_)
      refine lv_if_ne (tgt := 35) hx hb dX11_tight_29 (by decide) (fun hc => ?_) (fun hc => ?_)
      · have h := if_f _ hc h
        refine lv_aload_n hx hb dX11_tight_35 rfl (lv_at hl 1 rfl) ?_
        refine x_getr F hP k_1 (hP.al 1 rfl) fl_X11_21 rfl r_1_1 dX11_tight_36 ?_
        refine lv_aload_n hx hb dX11_tight_39 rfl (lv_at hl 0 rfl) ?_
        refine lv_iload_n hx hb dX11_tight_40 rfl (lv_at hl 3 rfl) ?_
        obtain ⟨v_41, w_41, hc_41, h⟩ := bi_s h
        refine x_goes (x_runV (As := [.ref (ad q_5), .int a2]) (rest := []) F hP hS (c_X3_houseBitten l D cT lo w ad q_5 hk_q_5 ha_q_5 a2 v_41 w_41 hc_41) cw_X3_houseBitten lk_X11_222 vi_X3_houseBitten k_3 (n2 (hP.al 3 rfl)) rfl ⟨rfl, rfl, Nat.le_of_ble_eq_true rfl, Nat.le_of_ble_eq_true rfl⟩ hl.1 rfl (Nat.le_of_ble_eq_true rfl) dX11_tight_41 ⟨Nat.zero_le _, Nat.zero_le _⟩) hS (fun H locs hP hS hm => ?_)
        have hM_w := hm
        have ha_q_5 := hm.2 _ ha_q_5
        refine lv_istore (lv' := [(4, .int v_41), (3, .ref (ad q_5)), (0, .ref (ad 1)), (1, .int a1), (2, .int a2)]) hx hb dX11_tight_44 hl (Nat.le_of_ble_eq_true rfl) rfl (fun ls hl => ?_)
        refine lv_iload hx hb dX11_tight_46 (lv_at hl 0 rfl) ?_
        refine lv_iconst (v := -1) hx hb dX11_tight_48 ic_m1 ?_
        refine lv_icmp_eq (tgt := 58) hx hb dX11_tight_49 (by decide) (fun hc => ?_) (fun hc => ?_)
        · have h := if_t _ hc h
          refine lv_aload_n hx hb dX11_tight_58 rfl (lv_at hl 1 rfl) ?_
          refine lv_iload_n hx hb dX11_tight_59 rfl (lv_at hl 4 rfl) ?_
          obtain ⟨v_60, hc_60, h⟩ := bo_s h
          refine x_goesZ (x_runV (As := [.int a2]) (rest := []) F hP hS (c_X1_isSlack l D cT lo NB w_41 ad q_5 hk_q_5 ha_q_5 a2 v_60 hc_60) cw_X1_isSlack lk_X11_226 vi_X1_isSlack hk_q_5 (n2 ha_q_5) rfl ⟨rfl, rfl, Nat.le_of_ble_eq_true rfl, Nat.le_of_ble_eq_true rfl⟩ hl.1 rfl (Nat.le_of_ble_eq_true rfl) dX11_tight_60 ⟨Nat.zero_le _, Nat.zero_le _⟩) hS (fun H locs hz_60 hP hS _ => ?_)
          refine lv_if_eq (tgt := 70) hx hb dX11_tight_63 (by decide) (fun hc => ?_) (fun hc => ?_)
          · have h := if_t _ hc h
            refine lv_iconst (v := 0) hx hb dX11_tight_70 ic_0 ?_
            exact y_iretM h F hr hP hS hM_w hlk dX11_tight_71
          · have h := if_f _ hc h
            refine lv_iconst (v := 1) hx hb dX11_tight_66 ic_1 ?_
            refine lv_goto (tgt := 71) hx hb dX11_tight_67 (by decide) ?_
            exact y_iretM h F hr hP hS hM_w hlk dX11_tight_71
        · have h := if_f _ hc h
          refine lv_bipush (v := 100) hx hb dX11_tight_52 ib_100 ?_
          refine lv_iload hx hb dX11_tight_54 (lv_at hl 0 rfl) ?_
          refine lv_iadd hx hb dX11_tight_56 ?_
          exact y_iretM h F hr hP hS hM_w hlk dX11_tight_57
      · have h := if_t _ hc h
        refine lv_bipush (v := -3) hx hb dX11_tight_32 ib_m3 ?_
        exact y_iretM h F hr hP hS mono.refl hlk dX11_tight_34
    · have h := if_t _ hc h
      refine lv_bipush (v := -2) hx hb dX11_tight_22 ib_m2 ?_
      exact y_iretM h F hr hP hS mono.refl hlk dX11_tight_24
def f_X11_pull (w : Wd) (a1 : Int32) : Option (Int32 × Wd) :=
q_bo (f_X3_carAt w a1) (fun q_5 =>
if q_5 = 0 then
some ((-2147483648 : Int32), w)
else
q_gt w q_5 12 (fun v_14 =>
if v_14 = 0 then
some ((-2147483648 : Int32), w)
else
q_bi (f_X3_pullOf w q_5) (fun v_28 w_28 =>
some (v_28, w_28))))
set_option maxRecDepth 100000 in
set_option maxHeartbeats 4000000 in
theorem c_X11_pull (l : Launch) (D : va_G) (cT : Nat → ClassId) (lo : Nat) (w : Wd) (ad : Nat → Nat) (a1 : Int32) (r : Int32) (w9 : Wd) (h : f_X11_pull w a1 = some (r, w9)) : Met l yX11_pull (.code yX11_pull cX11_pull 3 (some .int) :: TW) { frames := 6, cells := 0, slots := 0, locals := 139 } (mPc D cT lo NB w ad [.ref (ad 1), .int a1]) (mQ D cT lo NB w w9 ad (some (.int r))) 0 0 (fun q => lo ≤ q) := by
  unfold f_X11_pull at h
  refine x_met (lv := [(0, .ref (ad 1)), (1, .int a1)]) (by decide +kernel) (Nat.le_of_ble_eq_true rfl) rfl ?_
  intro p e s m args below meth c ls F hr hlk hP hin hl
  have hx := F.1
  have hb := F.2.1
  have hS : va_S (fun q => lo ≤ q) s.heap s.heap [] := va_S.rf
  have hM_w : mono w w := mono.refl
  refine lv_aload_n hx hb dX11_pull_0 rfl (lv_at hl 0 rfl) ?_
  refine x_getr F hP k_1 (hP.al 1 rfl) fl_X11_21 rfl r_1_1 dX11_pull_1 ?_
  refine lv_iload_n hx hb dX11_pull_4 rfl (lv_at hl 1 rfl) ?_
  obtain ⟨q_5, hc_5, h⟩ := bo_s h
  refine x_goesR (x_runV (As := [.int a1]) (rest := []) F hP hS (c_X3_carAt l D cT lo w ad a1 q_5 hc_5) cw_X3_carAt lk_X11_128 vi_X3_carAt k_3 (n2 (hP.al 3 rfl)) rfl ⟨rfl, rfl, Nat.le_of_ble_eq_true rfl, Nat.le_of_ble_eq_true rfl⟩ hl.1 rfl (Nat.le_of_ble_eq_true rfl) dX11_pull_5 ⟨Nat.zero_le _, Nat.zero_le _⟩) hS (fun H locs hq hP hS => ?_) (fun H locs hz_q_5 hk_q_5 ha_q_5 hP hS => ?_)
  · subst hq
    refine lv_astore_nN (lv' := [(2, .null), (0, .ref (ad 1)), (1, .int a1)]) hx hb dX11_pull_8 rfl hl (Nat.le_of_ble_eq_true rfl) rfl (fun ls hl => ?_)
    refine lv_aload_nN hx hb dX11_pull_9 rfl (lv_at hl 0 rfl) ?_
    have h := if_t _ rfl h
    refine lv_ifnullN (tgt := 20) hx hb dX11_pull_10 (by decide) ?_
    refine lv_ldc F.1 F.2.1 F.2.2.1 (F.2.2.2.1 _ ct_X11_150) dX11_pull_20 ?_
    exact y_iretM h F hr hP hS mono.refl hlk dX11_pull_22
  · refine lv_astore_n (lv' := [(2, .ref (ad q_5)), (0, .ref (ad 1)), (1, .int a1)]) hx hb dX11_pull_8 rfl hl (Nat.le_of_ble_eq_true rfl) rfl (fun ls hl => ?_)
    refine lv_aload_n hx hb dX11_pull_9 rfl (lv_at hl 0 rfl) ?_
    have h := if_f _ hz_q_5 h
    refine lv_ifnull hx hb dX11_pull_10 ?_
    refine lv_aload_n hx hb dX11_pull_13 rfl (lv_at hl 0 rfl) ?_
    refine y_geti h F hP hk_q_5 (n2 ha_q_5) fl_X11_146 rfl dX11_pull_14 (fun v_14 h => ?_)
    refine lv_if_ne (tgt := 23) hx hb dX11_pull_17 (by decide) (fun hc => ?_) (fun hc => ?_)
    · have h := if_f _ hc h
      refine lv_aload_n hx hb dX11_pull_23 rfl (lv_at hl 1 rfl) ?_
      refine x_getr F hP k_1 (hP.al 1 rfl) fl_X11_21 rfl r_1_1 dX11_pull_24 ?_
      refine lv_aload_n hx hb dX11_pull_27 rfl (lv_at hl 0 rfl) ?_
      obtain ⟨v_28, w_28, hc_28, h⟩ := bi_s h
      refine x_goes (x_runV (As := [.ref (ad q_5)]) (rest := []) F hP hS (c_X3_pullOf l D cT lo w ad q_5 hk_q_5 ha_q_5 v_28 w_28 hc_28) cw_X3_pullOf lk_X11_229 vi_X3_pullOf k_3 (n2 (hP.al 3 rfl)) rfl ⟨rfl, rfl, Nat.le_of_ble_eq_true rfl, Nat.le_of_ble_eq_true rfl⟩ hl.1 rfl (Nat.le_of_ble_eq_true rfl) dX11_pull_28 ⟨Nat.zero_le _, Nat.zero_le _⟩) hS (fun H locs hP hS hm => ?_)
      have hM_w := hm
      have ha_q_5 := hm.2 _ ha_q_5
      exact y_iretM h F hr hP hS hM_w hlk dX11_pull_31
    · have h := if_t _ hc h
      refine lv_ldc F.1 F.2.1 F.2.2.1 (F.2.2.2.1 _ ct_X11_150) dX11_pull_20 ?_
      exact y_iretM h F hr hP hS mono.refl hlk dX11_pull_22
def f_X11_need (w : Wd) (a1 : Int32) : Option Int32 :=
q_bo (f_X3_carAt w a1) (fun q_5 =>
if q_5 = 0 then
some (-2147483648 : Int32)
else
q_gt w q_5 12 (fun v_14 =>
if v_14 = 0 then
some (-2147483648 : Int32)
else
q_bo (f_X3_needOf w q_5) (fun v_28 =>
some v_28)))
set_option maxRecDepth 100000 in
set_option maxHeartbeats 4000000 in
theorem c_X11_need (l : Launch) (D : va_G) (cT : Nat → ClassId) (lo : Nat) (w : Wd) (ad : Nat → Nat) (a1 : Int32) (r : Int32) (h : f_X11_need w a1 = some r) : Met l yX11_need (.code yX11_need cX11_need 3 (some .int) :: TW) { frames := 4, cells := 0, slots := 0, locals := 91 } (mPc D cT lo NB w ad [.ref (ad 1), .int a1]) (mQ D cT lo NB w w ad (some (.int r))) 0 0 (fun q => lo ≤ q) := by
  unfold f_X11_need at h
  refine x_met (lv := [(0, .ref (ad 1)), (1, .int a1)]) (by decide +kernel) (Nat.le_of_ble_eq_true rfl) rfl ?_
  intro p e s m args below meth c ls F hr hlk hP hin hl
  have hx := F.1
  have hb := F.2.1
  have hS : va_S (fun q => lo ≤ q) s.heap s.heap [] := va_S.rf
  refine lv_aload_n hx hb dX11_need_0 rfl (lv_at hl 0 rfl) ?_
  refine x_getr F hP k_1 (hP.al 1 rfl) fl_X11_21 rfl r_1_1 dX11_need_1 ?_
  refine lv_iload_n hx hb dX11_need_4 rfl (lv_at hl 1 rfl) ?_
  obtain ⟨q_5, hc_5, h⟩ := bo_s h
  refine x_goesR (x_runV (As := [.int a1]) (rest := []) F hP hS (c_X3_carAt l D cT lo w ad a1 q_5 hc_5) cw_X3_carAt lk_X11_128 vi_X3_carAt k_3 (n2 (hP.al 3 rfl)) rfl ⟨rfl, rfl, Nat.le_of_ble_eq_true rfl, Nat.le_of_ble_eq_true rfl⟩ hl.1 rfl (Nat.le_of_ble_eq_true rfl) dX11_need_5 ⟨Nat.zero_le _, Nat.zero_le _⟩) hS (fun H locs hq hP hS => ?_) (fun H locs hz_q_5 hk_q_5 ha_q_5 hP hS => ?_)
  · subst hq
    refine lv_astore_nN (lv' := [(2, .null), (0, .ref (ad 1)), (1, .int a1)]) hx hb dX11_need_8 rfl hl (Nat.le_of_ble_eq_true rfl) rfl (fun ls hl => ?_)
    refine lv_aload_nN hx hb dX11_need_9 rfl (lv_at hl 0 rfl) ?_
    have h := if_t _ rfl h
    refine lv_ifnullN (tgt := 20) hx hb dX11_need_10 (by decide) ?_
    refine lv_ldc F.1 F.2.1 F.2.2.1 (F.2.2.2.1 _ ct_X11_150) dX11_need_20 ?_
    exact y_iretO h F hr hP hS hlk dX11_need_22
  · refine lv_astore_n (lv' := [(2, .ref (ad q_5)), (0, .ref (ad 1)), (1, .int a1)]) hx hb dX11_need_8 rfl hl (Nat.le_of_ble_eq_true rfl) rfl (fun ls hl => ?_)
    refine lv_aload_n hx hb dX11_need_9 rfl (lv_at hl 0 rfl) ?_
    have h := if_f _ hz_q_5 h
    refine lv_ifnull hx hb dX11_need_10 ?_
    refine lv_aload_n hx hb dX11_need_13 rfl (lv_at hl 0 rfl) ?_
    refine y_geti h F hP hk_q_5 (n2 ha_q_5) fl_X11_146 rfl dX11_need_14 (fun v_14 h => ?_)
    refine lv_if_ne (tgt := 23) hx hb dX11_need_17 (by decide) (fun hc => ?_) (fun hc => ?_)
    · have h := if_f _ hc h
      refine lv_aload_n hx hb dX11_need_23 rfl (lv_at hl 1 rfl) ?_
      refine x_getr F hP k_1 (hP.al 1 rfl) fl_X11_21 rfl r_1_1 dX11_need_24 ?_
      refine lv_aload_n hx hb dX11_need_27 rfl (lv_at hl 0 rfl) ?_
      obtain ⟨v_28, hc_28, h⟩ := bo_s h
      refine x_goes (x_runV (As := [.ref (ad q_5)]) (rest := []) F hP hS (c_X3_needOf l D cT lo w ad q_5 hk_q_5 ha_q_5 v_28 hc_28) cw_X3_needOf lk_X11_233 vi_X3_needOf k_3 (n2 (hP.al 3 rfl)) rfl ⟨rfl, rfl, Nat.le_of_ble_eq_true rfl, Nat.le_of_ble_eq_true rfl⟩ hl.1 rfl (Nat.le_of_ble_eq_true rfl) dX11_need_28 ⟨Nat.zero_le _, Nat.zero_le _⟩) hS (fun H locs hP hS _ => ?_)
      exact y_iretO h F hr hP hS hlk dX11_need_31
    · have h := if_t _ hc h
      refine lv_ldc F.1 F.2.1 F.2.2.1 (F.2.2.2.1 _ ct_X11_150) dX11_need_20 ?_
      exact y_iretO h F hr hP hS hlk dX11_need_22
def f_X11_may (w : Wd) (a1 : Int32) : Option (Int32 × Wd) :=
q_bo (f_X3_carAt w a1) (fun q_5 =>
if q_5 = 0 then
some ((-2 : Int32), w)
else
q_gt w q_5 12 (fun v_17 =>
if v_17 = 0 then
some ((-3 : Int32), w)
else
q_bi (f_X3_pullOf w q_5) (fun v_31 w_31 =>
if v_31 ≤ 0 then
some ((0 : Int32), w_31)
else
q_bo (f_X3_needOf w_31 q_5) (fun v_45 =>
if v_31 < v_45 then
some ((0 : Int32), w_31)
else
some ((1 : Int32), w_31)))))
set_option maxRecDepth 100000 in
set_option maxHeartbeats 4000000 in
theorem c_X11_may (l : Launch) (D : va_G) (cT : Nat → ClassId) (lo : Nat) (w : Wd) (ad : Nat → Nat) (a1 : Int32) (r : Int32) (w9 : Wd) (h : f_X11_may w a1 = some (r, w9)) : Met l yX11_may (.code yX11_may cX11_may 4 (some .int) :: TW) { frames := 6, cells := 0, slots := 0, locals := 139 } (mPc D cT lo NB w ad [.ref (ad 1), .int a1]) (mQ D cT lo NB w w9 ad (some (.int r))) 0 0 (fun q => lo ≤ q) := by
  unfold f_X11_may at h
  refine x_met (lv := [(0, .ref (ad 1)), (1, .int a1)]) (by decide +kernel) (Nat.le_of_ble_eq_true rfl) rfl ?_
  intro p e s m args below meth c ls F hr hlk hP hin hl
  have hx := F.1
  have hb := F.2.1
  have hS : va_S (fun q => lo ≤ q) s.heap s.heap [] := va_S.rf
  have hM_w : mono w w := mono.refl
  refine lv_aload_n hx hb dX11_may_0 rfl (lv_at hl 0 rfl) ?_
  refine x_getr F hP k_1 (hP.al 1 rfl) fl_X11_21 rfl r_1_1 dX11_may_1 ?_
  refine lv_iload_n hx hb dX11_may_4 rfl (lv_at hl 1 rfl) ?_
  obtain ⟨q_5, hc_5, h⟩ := bo_s h
  refine x_goesR (x_runV (As := [.int a1]) (rest := []) F hP hS (c_X3_carAt l D cT lo w ad a1 q_5 hc_5) cw_X3_carAt lk_X11_128 vi_X3_carAt k_3 (n2 (hP.al 3 rfl)) rfl ⟨rfl, rfl, Nat.le_of_ble_eq_true rfl, Nat.le_of_ble_eq_true rfl⟩ hl.1 rfl (Nat.le_of_ble_eq_true rfl) dX11_may_5 ⟨Nat.zero_le _, Nat.zero_le _⟩) hS (fun H locs hq hP hS => ?_) (fun H locs hz_q_5 hk_q_5 ha_q_5 hP hS => ?_)
  · subst hq
    refine lv_astore_nN (lv' := [(2, .null), (0, .ref (ad 1)), (1, .int a1)]) hx hb dX11_may_8 rfl hl (Nat.le_of_ble_eq_true rfl) rfl (fun ls hl => ?_)
    refine lv_aload_nN hx hb dX11_may_9 rfl (lv_at hl 0 rfl) ?_
    have h := if_t _ rfl h
    refine lv_ifnonnullN hx hb dX11_may_10 ?_
    refine lv_bipush (v := -2) hx hb dX11_may_13 ib_m2 ?_
    exact y_iretM h F hr hP hS mono.refl hlk dX11_may_15
  · refine lv_astore_n (lv' := [(2, .ref (ad q_5)), (0, .ref (ad 1)), (1, .int a1)]) hx hb dX11_may_8 rfl hl (Nat.le_of_ble_eq_true rfl) rfl (fun ls hl => ?_)
    refine lv_aload_n hx hb dX11_may_9 rfl (lv_at hl 0 rfl) ?_
    have h := if_f _ hz_q_5 h
    refine lv_ifnonnull (tgt := 16) hx hb dX11_may_10 (by decide) ?_
    refine lv_aload_n hx hb dX11_may_16 rfl (lv_at hl 0 rfl) ?_
    refine y_geti h F hP hk_q_5 (n2 ha_q_5) fl_X11_146 rfl dX11_may_17 (fun v_17 h => ?_)
    refine lv_if_ne (tgt := 26) hx hb dX11_may_20 (by decide) (fun hc => ?_) (fun hc => ?_)
    · have h := if_f _ hc h
      refine lv_aload_n hx hb dX11_may_26 rfl (lv_at hl 1 rfl) ?_
      refine x_getr F hP k_1 (hP.al 1 rfl) fl_X11_21 rfl r_1_1 dX11_may_27 ?_
      refine lv_aload_n hx hb dX11_may_30 rfl (lv_at hl 0 rfl) ?_
      obtain ⟨v_31, w_31, hc_31, h⟩ := bi_s h
      refine x_goes (x_runV (As := [.ref (ad q_5)]) (rest := []) F hP hS (c_X3_pullOf l D cT lo w ad q_5 hk_q_5 ha_q_5 v_31 w_31 hc_31) cw_X3_pullOf lk_X11_229 vi_X3_pullOf k_3 (n2 (hP.al 3 rfl)) rfl ⟨rfl, rfl, Nat.le_of_ble_eq_true rfl, Nat.le_of_ble_eq_true rfl⟩ hl.1 rfl (Nat.le_of_ble_eq_true rfl) dX11_may_31 ⟨Nat.zero_le _, Nat.zero_le _⟩) hS (fun H locs hP hS hm => ?_)
      have hM_w := hm
      have ha_q_5 := hm.2 _ ha_q_5
      refine lv_istore_n (lv' := [(3, .int v_31), (2, .ref (ad q_5)), (0, .ref (ad 1)), (1, .int a1)]) hx hb dX11_may_34 rfl hl (Nat.le_of_ble_eq_true rfl) rfl (fun ls hl => ?_)
      refine lv_iload_n hx hb dX11_may_35 rfl (lv_at hl 0 rfl) ?_
      refine lv_if_le (tgt := 55) hx hb dX11_may_36 (by decide) (fun hc => ?_) (fun hc => ?_)
      · have h := if_t _ hc h
        refine lv_iconst (v := 0) hx hb dX11_may_55 ic_0 ?_
        exact y_iretM h F hr hP hS hM_w hlk dX11_may_56
      · have h := if_f _ hc h
        refine lv_iload_n hx hb dX11_may_39 rfl (lv_at hl 0 rfl) ?_
        refine lv_aload_n hx hb dX11_may_40 rfl (lv_at hl 2 rfl) ?_
        refine x_getr F hP k_1 (hP.al 1 rfl) fl_X11_21 rfl r_1_1 dX11_may_41 ?_
        refine lv_aload_n hx hb dX11_may_44 rfl (lv_at hl 1 rfl) ?_
        obtain ⟨v_45, hc_45, h⟩ := bo_s h
        refine x_goes (x_runV (As := [.ref (ad q_5)]) (rest := [.int v_31]) F hP hS (c_X3_needOf l D cT lo w_31 ad q_5 hk_q_5 ha_q_5 v_45 hc_45) cw_X3_needOf lk_X11_233 vi_X3_needOf k_3 (n2 (hP.al 3 rfl)) rfl ⟨rfl, rfl, Nat.le_of_ble_eq_true rfl, Nat.le_of_ble_eq_true rfl⟩ hl.1 rfl (Nat.le_of_ble_eq_true rfl) dX11_may_45 ⟨Nat.zero_le _, Nat.zero_le _⟩) hS (fun H locs hP hS _ => ?_)
        refine lv_icmp_lt (tgt := 55) hx hb dX11_may_48 (by decide) (fun hc => ?_) (fun hc => ?_)
        · have h := if_t _ hc h
          refine lv_iconst (v := 0) hx hb dX11_may_55 ic_0 ?_
          exact y_iretM h F hr hP hS hM_w hlk dX11_may_56
        · have h := if_f _ hc h
          refine lv_iconst (v := 1) hx hb dX11_may_51 ic_1 ?_
          refine lv_goto (tgt := 56) hx hb dX11_may_52 (by decide) ?_
          exact y_iretM h F hr hP hS hM_w hlk dX11_may_56
    · have h := if_t _ hc h
      refine lv_bipush (v := -3) hx hb dX11_may_23 ib_m3 ?_
      exact y_iretM h F hr hP hS mono.refl hlk dX11_may_25
def f_X11_woods (w : Wd) (a1 : Int32) : Option (Int32 × Wd) :=
q_bo (f_X3_carAt w a1) (fun q_5 =>
if q_5 = 0 then
some ((-2 : Int32), w)
else
q_gt w q_5 12 (fun v_17 =>
if v_17 = 0 then
some ((-3 : Int32), w)
else
q_bi (f_X3_fewestWoods w q_5) (fun v_31 w_31 =>
some (v_31, w_31))))
set_option maxRecDepth 100000 in
set_option maxHeartbeats 4000000 in
theorem c_X11_woods (l : Launch) (D : va_G) (cT : Nat → ClassId) (lo : Nat) (w : Wd) (ad : Nat → Nat) (a1 : Int32) (r : Int32) (w9 : Wd) (h : f_X11_woods w a1 = some (r, w9)) : Met l yX11_woods (.code yX11_woods cX11_woods 3 (some .int) :: TW) { frames := 7, cells := 0, slots := 0, locals := 165 } (mPc D cT lo NB w ad [.ref (ad 1), .int a1]) (mQ D cT lo NB w w9 ad (some (.int r))) 0 0 (fun q => lo ≤ q) := by
  unfold f_X11_woods at h
  refine x_met (lv := [(0, .ref (ad 1)), (1, .int a1)]) (by decide +kernel) (Nat.le_of_ble_eq_true rfl) rfl ?_
  intro p e s m args below meth c ls F hr hlk hP hin hl
  have hx := F.1
  have hb := F.2.1
  have hS : va_S (fun q => lo ≤ q) s.heap s.heap [] := va_S.rf
  have hM_w : mono w w := mono.refl
  refine lv_aload_n hx hb dX11_woods_0 rfl (lv_at hl 0 rfl) ?_
  refine x_getr F hP k_1 (hP.al 1 rfl) fl_X11_21 rfl r_1_1 dX11_woods_1 ?_
  refine lv_iload_n hx hb dX11_woods_4 rfl (lv_at hl 1 rfl) ?_
  obtain ⟨q_5, hc_5, h⟩ := bo_s h
  refine x_goesR (x_runV (As := [.int a1]) (rest := []) F hP hS (c_X3_carAt l D cT lo w ad a1 q_5 hc_5) cw_X3_carAt lk_X11_128 vi_X3_carAt k_3 (n2 (hP.al 3 rfl)) rfl ⟨rfl, rfl, Nat.le_of_ble_eq_true rfl, Nat.le_of_ble_eq_true rfl⟩ hl.1 rfl (Nat.le_of_ble_eq_true rfl) dX11_woods_5 ⟨Nat.zero_le _, Nat.zero_le _⟩) hS (fun H locs hq hP hS => ?_) (fun H locs hz_q_5 hk_q_5 ha_q_5 hP hS => ?_)
  · subst hq
    refine lv_astore_nN (lv' := [(2, .null), (0, .ref (ad 1)), (1, .int a1)]) hx hb dX11_woods_8 rfl hl (Nat.le_of_ble_eq_true rfl) rfl (fun ls hl => ?_)
    refine lv_aload_nN hx hb dX11_woods_9 rfl (lv_at hl 0 rfl) ?_
    have h := if_t _ rfl h
    refine lv_ifnonnullN hx hb dX11_woods_10 ?_
    refine lv_bipush (v := -2) hx hb dX11_woods_13 ib_m2 ?_
    exact y_iretM h F hr hP hS mono.refl hlk dX11_woods_15
  · refine lv_astore_n (lv' := [(2, .ref (ad q_5)), (0, .ref (ad 1)), (1, .int a1)]) hx hb dX11_woods_8 rfl hl (Nat.le_of_ble_eq_true rfl) rfl (fun ls hl => ?_)
    refine lv_aload_n hx hb dX11_woods_9 rfl (lv_at hl 0 rfl) ?_
    have h := if_f _ hz_q_5 h
    refine lv_ifnonnull (tgt := 16) hx hb dX11_woods_10 (by decide) ?_
    refine lv_aload_n hx hb dX11_woods_16 rfl (lv_at hl 0 rfl) ?_
    refine y_geti h F hP hk_q_5 (n2 ha_q_5) fl_X11_146 rfl dX11_woods_17 (fun v_17 h => ?_)
    refine lv_if_ne (tgt := 26) hx hb dX11_woods_20 (by decide) (fun hc => ?_) (fun hc => ?_)
    · have h := if_f _ hc h
      refine lv_aload_n hx hb dX11_woods_26 rfl (lv_at hl 1 rfl) ?_
      refine x_getr F hP k_1 (hP.al 1 rfl) fl_X11_21 rfl r_1_1 dX11_woods_27 ?_
      refine lv_aload_n hx hb dX11_woods_30 rfl (lv_at hl 0 rfl) ?_
      obtain ⟨v_31, w_31, hc_31, h⟩ := bi_s h
      refine x_goes (x_runV (As := [.ref (ad q_5)]) (rest := []) F hP hS (c_X3_fewestWoods l D cT lo w ad q_5 hk_q_5 ha_q_5 v_31 w_31 hc_31) cw_X3_fewestWoods lk_X11_236 vi_X3_fewestWoods k_3 (n2 (hP.al 3 rfl)) rfl ⟨rfl, rfl, Nat.le_of_ble_eq_true rfl, Nat.le_of_ble_eq_true rfl⟩ hl.1 rfl (Nat.le_of_ble_eq_true rfl) dX11_woods_31 ⟨Nat.zero_le _, Nat.zero_le _⟩) hS (fun H locs hP hS hm => ?_)
      have hM_w := hm
      have ha_q_5 := hm.2 _ ha_q_5
      exact y_iretM h F hr hP hS hM_w hlk dX11_woods_34
    · have h := if_t _ hc h
      refine lv_bipush (v := -3) hx hb dX11_woods_23 ib_m3 ?_
      exact y_iretM h F hr hP hS mono.refl hlk dX11_woods_25
def f_X11_team (w : Wd) (a1 : Int32) : Option (Int32 × Wd) :=
q_bi (f_X7_addTeam w a1) (fun v_5 w_5 =>
some (v_5, w_5))
set_option maxRecDepth 100000 in
set_option maxHeartbeats 4000000 in
theorem c_X11_team (l : Launch) (D : va_G) (cT : Nat → ClassId) (lo : Nat) (w : Wd) (ad : Nat → Nat) (a1 : Int32) (r : Int32) (w9 : Wd) (h : f_X11_team w a1 = some (r, w9)) : Met l yX11_team (.code yX11_team cX11_team 2 (some .int) :: TW) { frames := 2, cells := 0, slots := 0, locals := 43 } (mPc D cT lo NB w ad [.ref (ad 1), .int a1]) (mQ D cT lo NB w w9 ad (some (.int r))) 0 0 (fun q => lo ≤ q) := by
  unfold f_X11_team at h
  refine x_met (lv := [(0, .ref (ad 1)), (1, .int a1)]) (by decide +kernel) (Nat.le_of_ble_eq_true rfl) rfl ?_
  intro p e s m args below meth c ls F hr hlk hP hin hl
  have hx := F.1
  have hb := F.2.1
  have hS : va_S (fun q => lo ≤ q) s.heap s.heap [] := va_S.rf
  have hM_w : mono w w := mono.refl
  refine lv_aload_n hx hb dX11_team_0 rfl (lv_at hl 0 rfl) ?_
  refine x_getr F hP k_1 (hP.al 1 rfl) fl_X11_37 rfl r_1_3 dX11_team_1 ?_
  refine lv_iload_n hx hb dX11_team_4 rfl (lv_at hl 1 rfl) ?_
  obtain ⟨v_5, w_5, hc_5, h⟩ := bi_s h
  refine x_goes (x_runV (As := [.int a1]) (rest := []) F hP hS (c_X7_addTeam l D cT lo w ad a1 v_5 w_5 hc_5) cw_X7_addTeam lk_X11_239 vi_X7_addTeam k_5 (n2 (hP.al 5 rfl)) rfl ⟨rfl, rfl, Nat.le_of_ble_eq_true rfl, Nat.le_of_ble_eq_true rfl⟩ hl.1 rfl (Nat.le_of_ble_eq_true rfl) dX11_team_5 ⟨Nat.zero_le _, Nat.zero_le _⟩) hS (fun H locs hP hS hm => ?_)
  have hM_w := hm
  exact y_iretM h F hr hP hS hM_w hlk dX11_team_8
def f_X11_stage (w : Wd) (a1 : Int32) : Option (Int32 × Wd) :=
q_bi (f_X7_addStage w a1) (fun v_5 w_5 =>
some (v_5, w_5))
set_option maxRecDepth 100000 in
set_option maxHeartbeats 4000000 in
theorem c_X11_stage (l : Launch) (D : va_G) (cT : Nat → ClassId) (lo : Nat) (w : Wd) (ad : Nat → Nat) (a1 : Int32) (r : Int32) (w9 : Wd) (h : f_X11_stage w a1 = some (r, w9)) : Met l yX11_stage (.code yX11_stage cX11_stage 2 (some .int) :: TW) { frames := 2, cells := 0, slots := 0, locals := 43 } (mPc D cT lo NB w ad [.ref (ad 1), .int a1]) (mQ D cT lo NB w w9 ad (some (.int r))) 0 0 (fun q => lo ≤ q) := by
  unfold f_X11_stage at h
  refine x_met (lv := [(0, .ref (ad 1)), (1, .int a1)]) (by decide +kernel) (Nat.le_of_ble_eq_true rfl) rfl ?_
  intro p e s m args below meth c ls F hr hlk hP hin hl
  have hx := F.1
  have hb := F.2.1
  have hS : va_S (fun q => lo ≤ q) s.heap s.heap [] := va_S.rf
  have hM_w : mono w w := mono.refl
  refine lv_aload_n hx hb dX11_stage_0 rfl (lv_at hl 0 rfl) ?_
  refine x_getr F hP k_1 (hP.al 1 rfl) fl_X11_37 rfl r_1_3 dX11_stage_1 ?_
  refine lv_iload_n hx hb dX11_stage_4 rfl (lv_at hl 1 rfl) ?_
  obtain ⟨v_5, w_5, hc_5, h⟩ := bi_s h
  refine x_goes (x_runV (As := [.int a1]) (rest := []) F hP hS (c_X7_addStage l D cT lo w ad a1 v_5 w_5 hc_5) cw_X7_addStage lk_X11_242 vi_X7_addStage k_5 (n2 (hP.al 5 rfl)) rfl ⟨rfl, rfl, Nat.le_of_ble_eq_true rfl, Nat.le_of_ble_eq_true rfl⟩ hl.1 rfl (Nat.le_of_ble_eq_true rfl) dX11_stage_5 ⟨Nat.zero_le _, Nat.zero_le _⟩) hS (fun H locs hP hS hm => ?_)
  have hM_w := hm
  exact y_iretM h F hr hP hS hM_w hlk dX11_stage_8
def f_X11_run (w : Wd) (a1 : Int32) : Option (Int32 × Wd) :=
q_bi (f_X7_tellRun w a1) (fun v_5 w_5 =>
some (v_5, w_5))
set_option maxRecDepth 100000 in
set_option maxHeartbeats 4000000 in
theorem c_X11_run (l : Launch) (D : va_G) (cT : Nat → ClassId) (lo : Nat) (w : Wd) (ad : Nat → Nat) (a1 : Int32) (r : Int32) (w9 : Wd) (h : f_X11_run w a1 = some (r, w9)) : Met l yX11_run (.code yX11_run cX11_run 2 (some .int) :: TW) { frames := 2, cells := 0, slots := 0, locals := 44 } (mPc D cT lo NB w ad [.ref (ad 1), .int a1]) (mQ D cT lo NB w w9 ad (some (.int r))) 0 0 (fun q => lo ≤ q) := by
  unfold f_X11_run at h
  refine x_met (lv := [(0, .ref (ad 1)), (1, .int a1)]) (by decide +kernel) (Nat.le_of_ble_eq_true rfl) rfl ?_
  intro p e s m args below meth c ls F hr hlk hP hin hl
  have hx := F.1
  have hb := F.2.1
  have hS : va_S (fun q => lo ≤ q) s.heap s.heap [] := va_S.rf
  have hM_w : mono w w := mono.refl
  refine lv_aload_n hx hb dX11_run_0 rfl (lv_at hl 0 rfl) ?_
  refine x_getr F hP k_1 (hP.al 1 rfl) fl_X11_37 rfl r_1_3 dX11_run_1 ?_
  refine lv_iload_n hx hb dX11_run_4 rfl (lv_at hl 1 rfl) ?_
  obtain ⟨v_5, w_5, hc_5, h⟩ := bi_s h
  refine x_goes (x_runV (As := [.int a1]) (rest := []) F hP hS (c_X7_tellRun l D cT lo w ad a1 v_5 w_5 hc_5) cw_X7_tellRun lk_X11_245 vi_X7_tellRun k_5 (n2 (hP.al 5 rfl)) rfl ⟨rfl, rfl, Nat.le_of_ble_eq_true rfl, Nat.le_of_ble_eq_true rfl⟩ hl.1 rfl (Nat.le_of_ble_eq_true rfl) dX11_run_5 ⟨Nat.zero_le _, Nat.zero_le _⟩) hS (fun H locs hP hS hm => ?_)
  have hM_w := hm
  exact y_iretM h F hr hP hS hM_w hlk dX11_run_8
def f_X11_roster (w : Wd) : Option (Int32 × Wd) :=
q_bi (f_X7_fewest w) (fun v_4 w_4 =>
some (v_4, w_4))
set_option maxRecDepth 100000 in
set_option maxHeartbeats 4000000 in
theorem c_X11_roster (l : Launch) (D : va_G) (cT : Nat → ClassId) (lo : Nat) (w : Wd) (ad : Nat → Nat)  (r : Int32) (w9 : Wd) (h : f_X11_roster w = some (r, w9)) : Met l yX11_roster (.code yX11_roster cX11_roster 1 (some .int) :: TW) { frames := 5, cells := 0, slots := 0, locals := 115 } (mPc D cT lo NB w ad [.ref (ad 1)]) (mQ D cT lo NB w w9 ad (some (.int r))) 0 0 (fun q => lo ≤ q) := by
  unfold f_X11_roster at h
  refine x_met (lv := [(0, .ref (ad 1))]) (by decide +kernel) (Nat.le_of_ble_eq_true rfl) rfl ?_
  intro p e s m args below meth c ls F hr hlk hP hin hl
  have hx := F.1
  have hb := F.2.1
  have hS : va_S (fun q => lo ≤ q) s.heap s.heap [] := va_S.rf
  have hM_w : mono w w := mono.refl
  refine lv_aload_n hx hb dX11_roster_0 rfl (lv_at hl 0 rfl) ?_
  refine x_getr F hP k_1 (hP.al 1 rfl) fl_X11_37 rfl r_1_3 dX11_roster_1 ?_
  obtain ⟨v_4, w_4, hc_4, h⟩ := bi_s h
  refine x_goes (x_runV (As := []) (rest := []) F hP hS (c_X7_fewest l D cT lo w ad  v_4 w_4 hc_4) cw_X7_fewest lk_X11_248 vi_X7_fewest k_5 (n2 (hP.al 5 rfl)) rfl ⟨rfl, rfl, Nat.le_of_ble_eq_true rfl, Nat.le_of_ble_eq_true rfl⟩ hl.1 rfl (Nat.le_of_ble_eq_true rfl) dX11_roster_4 ⟨Nat.zero_le _, Nat.zero_le _⟩) hS (fun H locs hP hS hm => ?_)
  have hM_w := hm
  exact y_iretM h F hr hP hS hM_w hlk dX11_roster_7
def f_X11_pulls (w : Wd) (a1 : Int32) : Option (Int32 × Wd) :=
q_bi (f_X7_teamsOf w a1) (fun v_5 w_5 =>
some (v_5, w_5))
set_option maxRecDepth 100000 in
set_option maxHeartbeats 4000000 in
theorem c_X11_pulls (l : Launch) (D : va_G) (cT : Nat → ClassId) (lo : Nat) (w : Wd) (ad : Nat → Nat) (a1 : Int32) (r : Int32) (w9 : Wd) (h : f_X11_pulls w a1 = some (r, w9)) : Met l yX11_pulls (.code yX11_pulls cX11_pulls 2 (some .int) :: TW) { frames := 6, cells := 0, slots := 0, locals := 136 } (mPc D cT lo NB w ad [.ref (ad 1), .int a1]) (mQ D cT lo NB w w9 ad (some (.int r))) 0 0 (fun q => lo ≤ q) := by
  unfold f_X11_pulls at h
  refine x_met (lv := [(0, .ref (ad 1)), (1, .int a1)]) (by decide +kernel) (Nat.le_of_ble_eq_true rfl) rfl ?_
  intro p e s m args below meth c ls F hr hlk hP hin hl
  have hx := F.1
  have hb := F.2.1
  have hS : va_S (fun q => lo ≤ q) s.heap s.heap [] := va_S.rf
  have hM_w : mono w w := mono.refl
  refine lv_aload_n hx hb dX11_pulls_0 rfl (lv_at hl 0 rfl) ?_
  refine x_getr F hP k_1 (hP.al 1 rfl) fl_X11_37 rfl r_1_3 dX11_pulls_1 ?_
  refine lv_iload_n hx hb dX11_pulls_4 rfl (lv_at hl 1 rfl) ?_
  obtain ⟨v_5, w_5, hc_5, h⟩ := bi_s h
  refine x_goes (x_runV (As := [.int a1]) (rest := []) F hP hS (c_X7_teamsOf l D cT lo w ad a1 v_5 w_5 hc_5) cw_X7_teamsOf lk_X11_252 vi_X7_teamsOf k_5 (n2 (hP.al 5 rfl)) rfl ⟨rfl, rfl, Nat.le_of_ble_eq_true rfl, Nat.le_of_ble_eq_true rfl⟩ hl.1 rfl (Nat.le_of_ble_eq_true rfl) dX11_pulls_5 ⟨Nat.zero_le _, Nat.zero_le _⟩) hS (fun H locs hP hS hm => ?_)
  have hM_w := hm
  exact y_iretM h F hr hP hS hM_w hlk dX11_pulls_8
def f_X11_block (w : Wd) (a1 : Int32) (a2 : Int32) (a3 : Int32) : Option (Int32 × Wd) :=
q_bi (f_X2_tellBlock w a1 a2 a3) (fun v_7 w_7 =>
some (v_7, w_7))
set_option maxRecDepth 100000 in
set_option maxHeartbeats 4000000 in
theorem c_X11_block (l : Launch) (D : va_G) (cT : Nat → ClassId) (lo : Nat) (w : Wd) (ad : Nat → Nat) (a1 : Int32) (a2 : Int32) (a3 : Int32) (r : Int32) (w9 : Wd) (h : f_X11_block w a1 a2 a3 = some (r, w9)) : Met l yX11_block (.code yX11_block cX11_block 4 (some .int) :: TW) { frames := 2, cells := 0, slots := 0, locals := 45 } (mPc D cT lo NB w ad [.ref (ad 1), .int a1, .int a2, .int a3]) (mQ D cT lo NB w w9 ad (some (.int r))) 0 0 (fun q => lo ≤ q) := by
  unfold f_X11_block at h
  refine x_met (lv := [(0, .ref (ad 1)), (1, .int a1), (2, .int a2), (3, .int a3)]) (by decide +kernel) (Nat.le_of_ble_eq_true rfl) rfl ?_
  intro p e s m args below meth c ls F hr hlk hP hin hl
  have hx := F.1
  have hb := F.2.1
  have hS : va_S (fun q => lo ≤ q) s.heap s.heap [] := va_S.rf
  have hM_w : mono w w := mono.refl
  refine lv_aload_n hx hb dX11_block_0 rfl (lv_at hl 0 rfl) ?_
  refine x_getr F hP k_1 (hP.al 1 rfl) fl_X11_44 rfl r_1_4 dX11_block_1 ?_
  refine lv_iload_n hx hb dX11_block_4 rfl (lv_at hl 1 rfl) ?_
  refine lv_iload_n hx hb dX11_block_5 rfl (lv_at hl 2 rfl) ?_
  refine lv_iload_n hx hb dX11_block_6 rfl (lv_at hl 3 rfl) ?_
  obtain ⟨v_7, w_7, hc_7, h⟩ := bi_s h
  refine x_goes (x_runV (As := [.int a1, .int a2, .int a3]) (rest := []) F hP hS (c_X2_tellBlock l D cT lo w ad a1 a2 a3 v_7 w_7 hc_7) cw_X2_tellBlock lk_X11_255 vi_X2_tellBlock k_6 (n2 (hP.al 6 rfl)) rfl ⟨rfl, rfl, Nat.le_of_ble_eq_true rfl, Nat.le_of_ble_eq_true rfl⟩ hl.1 rfl (Nat.le_of_ble_eq_true rfl) dX11_block_7 ⟨Nat.zero_le _, Nat.zero_le _⟩) hS (fun H locs hP hS hm => ?_)
  have hM_w := hm
  exact y_iretM h F hr hP hS hM_w hlk dX11_block_10
def f_X11_enter (w : Wd) (a1 : Int32) (a2 : Int32) (a3 : Int32) : Option (Int32 × Wd) :=
q_bi (f_X2_addCar w a1 a2 a3) (fun v_7 w_7 =>
some (v_7, w_7))
set_option maxRecDepth 100000 in
set_option maxHeartbeats 4000000 in
theorem c_X11_enter (l : Launch) (D : va_G) (cT : Nat → ClassId) (lo : Nat) (w : Wd) (ad : Nat → Nat) (a1 : Int32) (a2 : Int32) (a3 : Int32) (r : Int32) (w9 : Wd) (h : f_X11_enter w a1 a2 a3 = some (r, w9)) : Met l yX11_enter (.code yX11_enter cX11_enter 4 (some .int) :: TW) { frames := 2, cells := 0, slots := 0, locals := 45 } (mPc D cT lo NB w ad [.ref (ad 1), .int a1, .int a2, .int a3]) (mQ D cT lo NB w w9 ad (some (.int r))) 0 0 (fun q => lo ≤ q) := by
  unfold f_X11_enter at h
  refine x_met (lv := [(0, .ref (ad 1)), (1, .int a1), (2, .int a2), (3, .int a3)]) (by decide +kernel) (Nat.le_of_ble_eq_true rfl) rfl ?_
  intro p e s m args below meth c ls F hr hlk hP hin hl
  have hx := F.1
  have hb := F.2.1
  have hS : va_S (fun q => lo ≤ q) s.heap s.heap [] := va_S.rf
  have hM_w : mono w w := mono.refl
  refine lv_aload_n hx hb dX11_enter_0 rfl (lv_at hl 0 rfl) ?_
  refine x_getr F hP k_1 (hP.al 1 rfl) fl_X11_44 rfl r_1_4 dX11_enter_1 ?_
  refine lv_iload_n hx hb dX11_enter_4 rfl (lv_at hl 1 rfl) ?_
  refine lv_iload_n hx hb dX11_enter_5 rfl (lv_at hl 2 rfl) ?_
  refine lv_iload_n hx hb dX11_enter_6 rfl (lv_at hl 3 rfl) ?_
  obtain ⟨v_7, w_7, hc_7, h⟩ := bi_s h
  refine x_goes (x_runV (As := [.int a1, .int a2, .int a3]) (rest := []) F hP hS (c_X2_addCar l D cT lo w ad a1 a2 a3 v_7 w_7 hc_7) cw_X2_addCar lk_X11_259 vi_X2_addCar k_6 (n2 (hP.al 6 rfl)) rfl ⟨rfl, rfl, Nat.le_of_ble_eq_true rfl, Nat.le_of_ble_eq_true rfl⟩ hl.1 rfl (Nat.le_of_ble_eq_true rfl) dX11_enter_7 ⟨Nat.zero_le _, Nat.zero_le _⟩) hS (fun H locs hP hS hm => ?_)
  have hM_w := hm
  exact y_iretM h F hr hP hS hM_w hlk dX11_enter_10
def f_X11_stuck (w : Wd) (a1 : Int32) (a2 : Int32) (a3 : Int32) : Option (Int32 × Wd) :=
q_bi (f_X2_stick w a1 a2 a3) (fun v_7 w_7 =>
some (v_7, w_7))
set_option maxRecDepth 100000 in
set_option maxHeartbeats 4000000 in
theorem c_X11_stuck (l : Launch) (D : va_G) (cT : Nat → ClassId) (lo : Nat) (w : Wd) (ad : Nat → Nat) (a1 : Int32) (a2 : Int32) (a3 : Int32) (r : Int32) (w9 : Wd) (h : f_X11_stuck w a1 a2 a3 = some (r, w9)) : Met l yX11_stuck (.code yX11_stuck cX11_stuck 4 (some .int) :: TW) { frames := 2, cells := 0, slots := 0, locals := 45 } (mPc D cT lo NB w ad [.ref (ad 1), .int a1, .int a2, .int a3]) (mQ D cT lo NB w w9 ad (some (.int r))) 0 0 (fun q => lo ≤ q) := by
  unfold f_X11_stuck at h
  refine x_met (lv := [(0, .ref (ad 1)), (1, .int a1), (2, .int a2), (3, .int a3)]) (by decide +kernel) (Nat.le_of_ble_eq_true rfl) rfl ?_
  intro p e s m args below meth c ls F hr hlk hP hin hl
  have hx := F.1
  have hb := F.2.1
  have hS : va_S (fun q => lo ≤ q) s.heap s.heap [] := va_S.rf
  have hM_w : mono w w := mono.refl
  refine lv_aload_n hx hb dX11_stuck_0 rfl (lv_at hl 0 rfl) ?_
  refine x_getr F hP k_1 (hP.al 1 rfl) fl_X11_44 rfl r_1_4 dX11_stuck_1 ?_
  refine lv_iload_n hx hb dX11_stuck_4 rfl (lv_at hl 1 rfl) ?_
  refine lv_iload_n hx hb dX11_stuck_5 rfl (lv_at hl 2 rfl) ?_
  refine lv_iload_n hx hb dX11_stuck_6 rfl (lv_at hl 3 rfl) ?_
  obtain ⟨v_7, w_7, hc_7, h⟩ := bi_s h
  refine x_goes (x_runV (As := [.int a1, .int a2, .int a3]) (rest := []) F hP hS (c_X2_stick l D cT lo w ad a1 a2 a3 v_7 w_7 hc_7) cw_X2_stick lk_X11_261 vi_X2_stick k_6 (n2 (hP.al 6 rfl)) rfl ⟨rfl, rfl, Nat.le_of_ble_eq_true rfl, Nat.le_of_ble_eq_true rfl⟩ hl.1 rfl (Nat.le_of_ble_eq_true rfl) dX11_stuck_7 ⟨Nat.zero_le _, Nat.zero_le _⟩) hS (fun H locs hP hS hm => ?_)
  have hM_w := hm
  exact y_iretM h F hr hP hS hM_w hlk dX11_stuck_10
def f_X11_home (w : Wd) : Option (Int32 × Wd) :=
q_bi (f_X2_clearCars w) (fun v_4 w_4 =>
some (v_4, w_4))
set_option maxRecDepth 100000 in
set_option maxHeartbeats 4000000 in
theorem c_X11_home (l : Launch) (D : va_G) (cT : Nat → ClassId) (lo : Nat) (w : Wd) (ad : Nat → Nat)  (r : Int32) (w9 : Wd) (h : f_X11_home w = some (r, w9)) : Met l yX11_home (.code yX11_home cX11_home 1 (some .int) :: TW) { frames := 1, cells := 0, slots := 0, locals := 21 } (mPc D cT lo NB w ad [.ref (ad 1)]) (mQ D cT lo NB w w9 ad (some (.int r))) 0 0 (fun q => lo ≤ q) := by
  unfold f_X11_home at h
  refine x_met (lv := [(0, .ref (ad 1))]) (by decide +kernel) (Nat.le_of_ble_eq_true rfl) rfl ?_
  intro p e s m args below meth c ls F hr hlk hP hin hl
  have hx := F.1
  have hb := F.2.1
  have hS : va_S (fun q => lo ≤ q) s.heap s.heap [] := va_S.rf
  have hM_w : mono w w := mono.refl
  refine lv_aload_n hx hb dX11_home_0 rfl (lv_at hl 0 rfl) ?_
  refine x_getr F hP k_1 (hP.al 1 rfl) fl_X11_44 rfl r_1_4 dX11_home_1 ?_
  obtain ⟨v_4, w_4, hc_4, h⟩ := bi_s h
  refine x_goes (x_runV (As := []) (rest := []) F hP hS (c_X2_clearCars l D cT lo w ad  v_4 w_4 hc_4) cw_X2_clearCars lk_X11_264 vi_X2_clearCars k_6 (n2 (hP.al 6 rfl)) rfl ⟨rfl, rfl, Nat.le_of_ble_eq_true rfl, Nat.le_of_ble_eq_true rfl⟩ hl.1 rfl (Nat.le_of_ble_eq_true rfl) dX11_home_4 ⟨Nat.zero_le _, Nat.zero_le _⟩) hS (fun H locs hP hS hm => ?_)
  have hM_w := hm
  exact y_iretM h F hr hP hS hM_w hlk dX11_home_7
def f_X11_gone (w : Wd) (a1 : Int32) : Option (Int32 × Wd) :=
q_bi (f_X2_goneOf w a1) (fun v_5 w_5 =>
some (v_5, w_5))
set_option maxRecDepth 100000 in
set_option maxHeartbeats 4000000 in
theorem c_X11_gone (l : Launch) (D : va_G) (cT : Nat → ClassId) (lo : Nat) (w : Wd) (ad : Nat → Nat) (a1 : Int32) (r : Int32) (w9 : Wd) (h : f_X11_gone w a1 = some (r, w9)) : Met l yX11_gone (.code yX11_gone cX11_gone 2 (some .int) :: TW) { frames := 5, cells := 0, slots := 0, locals := 113 } (mPc D cT lo NB w ad [.ref (ad 1), .int a1]) (mQ D cT lo NB w w9 ad (some (.int r))) 0 0 (fun q => lo ≤ q) := by
  unfold f_X11_gone at h
  refine x_met (lv := [(0, .ref (ad 1)), (1, .int a1)]) (by decide +kernel) (Nat.le_of_ble_eq_true rfl) rfl ?_
  intro p e s m args below meth c ls F hr hlk hP hin hl
  have hx := F.1
  have hb := F.2.1
  have hS : va_S (fun q => lo ≤ q) s.heap s.heap [] := va_S.rf
  have hM_w : mono w w := mono.refl
  refine lv_aload_n hx hb dX11_gone_0 rfl (lv_at hl 0 rfl) ?_
  refine x_getr F hP k_1 (hP.al 1 rfl) fl_X11_44 rfl r_1_4 dX11_gone_1 ?_
  refine lv_iload_n hx hb dX11_gone_4 rfl (lv_at hl 1 rfl) ?_
  obtain ⟨v_5, w_5, hc_5, h⟩ := bi_s h
  refine x_goes (x_runV (As := [.int a1]) (rest := []) F hP hS (c_X2_goneOf l D cT lo w ad a1 v_5 w_5 hc_5) cw_X2_goneOf lk_X11_267 vi_X2_goneOf k_6 (n2 (hP.al 6 rfl)) rfl ⟨rfl, rfl, Nat.le_of_ble_eq_true rfl, Nat.le_of_ble_eq_true rfl⟩ hl.1 rfl (Nat.le_of_ble_eq_true rfl) dX11_gone_5 ⟨Nat.zero_le _, Nat.zero_le _⟩) hS (fun H locs hP hS hm => ?_)
  have hM_w := hm
  exact y_iretM h F hr hP hS hM_w hlk dX11_gone_8
def f_X11_where (w : Wd) (a1 : Int32) (a2 : Int32) : Option (Int32 × Wd) :=
q_bi (f_X2_placeOf w a1 a2) (fun v_6 w_6 =>
some (v_6, w_6))
set_option maxRecDepth 100000 in
set_option maxHeartbeats 4000000 in
theorem c_X11_where (l : Launch) (D : va_G) (cT : Nat → ClassId) (lo : Nat) (w : Wd) (ad : Nat → Nat) (a1 : Int32) (a2 : Int32) (r : Int32) (w9 : Wd) (h : f_X11_where w a1 a2 = some (r, w9)) : Met l yX11_where (.code yX11_where cX11_where 3 (some .int) :: TW) { frames := 5, cells := 0, slots := 0, locals := 114 } (mPc D cT lo NB w ad [.ref (ad 1), .int a1, .int a2]) (mQ D cT lo NB w w9 ad (some (.int r))) 0 0 (fun q => lo ≤ q) := by
  unfold f_X11_where at h
  refine x_met (lv := [(0, .ref (ad 1)), (1, .int a1), (2, .int a2)]) (by decide +kernel) (Nat.le_of_ble_eq_true rfl) rfl ?_
  intro p e s m args below meth c ls F hr hlk hP hin hl
  have hx := F.1
  have hb := F.2.1
  have hS : va_S (fun q => lo ≤ q) s.heap s.heap [] := va_S.rf
  have hM_w : mono w w := mono.refl
  refine lv_aload_n hx hb dX11_where_0 rfl (lv_at hl 0 rfl) ?_
  refine x_getr F hP k_1 (hP.al 1 rfl) fl_X11_44 rfl r_1_4 dX11_where_1 ?_
  refine lv_iload_n hx hb dX11_where_4 rfl (lv_at hl 1 rfl) ?_
  refine lv_iload_n hx hb dX11_where_5 rfl (lv_at hl 2 rfl) ?_
  obtain ⟨v_6, w_6, hc_6, h⟩ := bi_s h
  refine x_goes (x_runV (As := [.int a1, .int a2]) (rest := []) F hP hS (c_X2_placeOf l D cT lo w ad a1 a2 v_6 w_6 hc_6) cw_X2_placeOf lk_X11_270 vi_X2_placeOf k_6 (n2 (hP.al 6 rfl)) rfl ⟨rfl, rfl, Nat.le_of_ble_eq_true rfl, Nat.le_of_ble_eq_true rfl⟩ hl.1 rfl (Nat.le_of_ble_eq_true rfl) dX11_where_6 ⟨Nat.zero_le _, Nat.zero_le _⟩) hS (fun H locs hP hS hm => ?_)
  have hM_w := hm
  exact y_iretM h F hr hP hS hM_w hlk dX11_where_9
def f_X11_task (w : Wd) (a1 : Int32) (a2 : Int32) : Option (Int32 × Wd) :=
q_bi (f_X9_addTask w a1 a2) (fun v_6 w_6 =>
some (v_6, w_6))
set_option maxRecDepth 100000 in
set_option maxHeartbeats 4000000 in
theorem c_X11_task (l : Launch) (D : va_G) (cT : Nat → ClassId) (lo : Nat) (w : Wd) (ad : Nat → Nat) (a1 : Int32) (a2 : Int32) (r : Int32) (w9 : Wd) (h : f_X11_task w a1 a2 = some (r, w9)) : Met l yX11_task (.code yX11_task cX11_task 3 (some .int) :: TW) { frames := 2, cells := 0, slots := 0, locals := 44 } (mPc D cT lo NB w ad [.ref (ad 1), .int a1, .int a2]) (mQ D cT lo NB w w9 ad (some (.int r))) 0 0 (fun q => lo ≤ q) := by
  unfold f_X11_task at h
  refine x_met (lv := [(0, .ref (ad 1)), (1, .int a1), (2, .int a2)]) (by decide +kernel) (Nat.le_of_ble_eq_true rfl) rfl ?_
  intro p e s m args below meth c ls F hr hlk hP hin hl
  have hx := F.1
  have hb := F.2.1
  have hS : va_S (fun q => lo ≤ q) s.heap s.heap [] := va_S.rf
  have hM_w : mono w w := mono.refl
  refine lv_aload_n hx hb dX11_task_0 rfl (lv_at hl 0 rfl) ?_
  refine x_getr F hP k_1 (hP.al 1 rfl) fl_X11_51 rfl r_1_5 dX11_task_1 ?_
  refine lv_iload_n hx hb dX11_task_4 rfl (lv_at hl 1 rfl) ?_
  refine lv_iload_n hx hb dX11_task_5 rfl (lv_at hl 2 rfl) ?_
  obtain ⟨v_6, w_6, hc_6, h⟩ := bi_s h
  refine x_goes (x_runV (As := [.int a1, .int a2]) (rest := []) F hP hS (c_X9_addTask l D cT lo w ad a1 a2 v_6 w_6 hc_6) cw_X9_addTask lk_X11_273 vi_X9_addTask k_7 (n2 (hP.al 7 rfl)) rfl ⟨rfl, rfl, Nat.le_of_ble_eq_true rfl, Nat.le_of_ble_eq_true rfl⟩ hl.1 rfl (Nat.le_of_ble_eq_true rfl) dX11_task_6 ⟨Nat.zero_le _, Nat.zero_le _⟩) hS (fun H locs hP hS hm => ?_)
  have hM_w := hm
  exact y_iretM h F hr hP hS hM_w hlk dX11_task_9
def f_X11_crews (w : Wd) (a1 : Int32) : Option (Int32 × Wd) :=
q_bi (f_X9_tellCrews w a1) (fun v_5 w_5 =>
some (v_5, w_5))
set_option maxRecDepth 100000 in
set_option maxHeartbeats 4000000 in
theorem c_X11_crews (l : Launch) (D : va_G) (cT : Nat → ClassId) (lo : Nat) (w : Wd) (ad : Nat → Nat) (a1 : Int32) (r : Int32) (w9 : Wd) (h : f_X11_crews w a1 = some (r, w9)) : Met l yX11_crews (.code yX11_crews cX11_crews 2 (some .int) :: TW) { frames := 2, cells := 0, slots := 0, locals := 44 } (mPc D cT lo NB w ad [.ref (ad 1), .int a1]) (mQ D cT lo NB w w9 ad (some (.int r))) 0 0 (fun q => lo ≤ q) := by
  unfold f_X11_crews at h
  refine x_met (lv := [(0, .ref (ad 1)), (1, .int a1)]) (by decide +kernel) (Nat.le_of_ble_eq_true rfl) rfl ?_
  intro p e s m args below meth c ls F hr hlk hP hin hl
  have hx := F.1
  have hb := F.2.1
  have hS : va_S (fun q => lo ≤ q) s.heap s.heap [] := va_S.rf
  have hM_w : mono w w := mono.refl
  refine lv_aload_n hx hb dX11_crews_0 rfl (lv_at hl 0 rfl) ?_
  refine x_getr F hP k_1 (hP.al 1 rfl) fl_X11_51 rfl r_1_5 dX11_crews_1 ?_
  refine lv_iload_n hx hb dX11_crews_4 rfl (lv_at hl 1 rfl) ?_
  obtain ⟨v_5, w_5, hc_5, h⟩ := bi_s h
  refine x_goes (x_runV (As := [.int a1]) (rest := []) F hP hS (c_X9_tellCrews l D cT lo w ad a1 v_5 w_5 hc_5) cw_X9_tellCrews lk_X11_276 vi_X9_tellCrews k_7 (n2 (hP.al 7 rfl)) rfl ⟨rfl, rfl, Nat.le_of_ble_eq_true rfl, Nat.le_of_ble_eq_true rfl⟩ hl.1 rfl (Nat.le_of_ble_eq_true rfl) dX11_crews_5 ⟨Nat.zero_le _, Nat.zero_le _⟩) hS (fun H locs hP hS hm => ?_)
  have hM_w := hm
  exact y_iretM h F hr hP hS hM_w hlk dX11_crews_8
def f_X11_late (w : Wd) (a1 : Int32) : Option (Int32 × Wd) :=
q_bi (f_X9_lateOf w a1) (fun v_5 w_5 =>
some (v_5, w_5))
set_option maxRecDepth 100000 in
set_option maxHeartbeats 4000000 in
theorem c_X11_late (l : Launch) (D : va_G) (cT : Nat → ClassId) (lo : Nat) (w : Wd) (ad : Nat → Nat) (a1 : Int32) (r : Int32) (w9 : Wd) (h : f_X11_late w a1 = some (r, w9)) : Met l yX11_late (.code yX11_late cX11_late 2 (some .int) :: TW) { frames := 3, cells := 0, slots := 0, locals := 67 } (mPc D cT lo NB w ad [.ref (ad 1), .int a1]) (mQ D cT lo NB w w9 ad (some (.int r))) 0 0 (fun q => lo ≤ q) := by
  unfold f_X11_late at h
  refine x_met (lv := [(0, .ref (ad 1)), (1, .int a1)]) (by decide +kernel) (Nat.le_of_ble_eq_true rfl) rfl ?_
  intro p e s m args below meth c ls F hr hlk hP hin hl
  have hx := F.1
  have hb := F.2.1
  have hS : va_S (fun q => lo ≤ q) s.heap s.heap [] := va_S.rf
  have hM_w : mono w w := mono.refl
  refine lv_aload_n hx hb dX11_late_0 rfl (lv_at hl 0 rfl) ?_
  refine x_getr F hP k_1 (hP.al 1 rfl) fl_X11_51 rfl r_1_5 dX11_late_1 ?_
  refine lv_iload_n hx hb dX11_late_4 rfl (lv_at hl 1 rfl) ?_
  obtain ⟨v_5, w_5, hc_5, h⟩ := bi_s h
  refine x_goes (x_runV (As := [.int a1]) (rest := []) F hP hS (c_X9_lateOf l D cT lo w ad a1 v_5 w_5 hc_5) cw_X9_lateOf lk_X11_279 vi_X9_lateOf k_7 (n2 (hP.al 7 rfl)) rfl ⟨rfl, rfl, Nat.le_of_ble_eq_true rfl, Nat.le_of_ble_eq_true rfl⟩ hl.1 rfl (Nat.le_of_ble_eq_true rfl) dX11_late_5 ⟨Nat.zero_le _, Nat.zero_le _⟩) hS (fun H locs hP hS hm => ?_)
  have hM_w := hm
  exact y_iretM h F hr hP hS hM_w hlk dX11_late_8
def f_X11_latest (w : Wd) (a1 : Int32) : Option (Int32 × Wd) :=
if (f_X11_within a1 (0 : Int32) (1 : Int32)) = 0 then
some ((-2 : Int32), w)
else
if a1 = 0 then
q_bi (f_X9_greatestLate w) (fun v_20 w_20 =>
some (v_20, w_20))
else
q_bi (f_X9_howManyLate w) (fun v_30 w_30 =>
some (v_30, w_30))
set_option maxRecDepth 100000 in
set_option maxHeartbeats 4000000 in
theorem c_X11_latest (l : Launch) (D : va_G) (cT : Nat → ClassId) (lo : Nat) (w : Wd) (ad : Nat → Nat) (a1 : Int32) (r : Int32) (w9 : Wd) (h : f_X11_latest w a1 = some (r, w9)) : Met l yX11_latest (.code yX11_latest cX11_latest 2 (some .int) :: TW) { frames := 3, cells := 0, slots := 0, locals := 68 } (mPc D cT lo NB w ad [.ref (ad 1), .int a1]) (mQ D cT lo NB w w9 ad (some (.int r))) 0 0 (fun q => lo ≤ q) := by
  unfold f_X11_latest at h
  refine x_met (lv := [(0, .ref (ad 1)), (1, .int a1)]) (by decide +kernel) (Nat.le_of_ble_eq_true rfl) rfl ?_
  intro p e s m args below meth c ls F hr hlk hP hin hl
  have hx := F.1
  have hb := F.2.1
  have hS : va_S (fun q => lo ≤ q) s.heap s.heap [] := va_S.rf
  have hM_w : mono w w := mono.refl
  refine lv_iload_n hx hb dX11_latest_0 rfl (lv_at hl 1 rfl) ?_
  refine lv_iconst (v := 0) hx hb dX11_latest_1 ic_0 ?_
  refine lv_iconst (v := 1) hx hb dX11_latest_2 ic_1 ?_
  refine x_goesZ (x_runS (As := [.int a1, .int (0 : Int32), .int (1 : Int32)]) (rest := []) F hP hS (c_X11_within l D cT lo NB w ad a1 (0 : Int32) (1 : Int32)) cw_X11_within lk_X11_71 st_X11_within ⟨rfl, rfl, Nat.le_of_ble_eq_true rfl, Nat.le_of_ble_eq_true rfl⟩ hl.1 rfl (Nat.le_of_ble_eq_true rfl) dX11_latest_3 ⟨Nat.zero_le _, Nat.zero_le _⟩) hS (fun H locs hz_3 hP hS _ => ?_)
  refine lv_if_ne (tgt := 12) hx hb dX11_latest_6 (by decide) (fun hc => ?_) (fun hc => ?_)
  · have h := if_f _ hc h
    refine lv_iload_n hx hb dX11_latest_12 rfl (lv_at hl 1 rfl) ?_
    refine lv_if_ne (tgt := 26) hx hb dX11_latest_13 (by decide) (fun hc => ?_) (fun hc => ?_)
    · have h := if_f _ hc h
      refine lv_aload_n hx hb dX11_latest_26 rfl (lv_at hl 0 rfl) ?_
      refine x_getr F hP k_1 (hP.al 1 rfl) fl_X11_51 rfl r_1_5 dX11_latest_27 ?_
      obtain ⟨v_30, w_30, hc_30, h⟩ := bi_s h
      refine x_goes (x_runV (As := []) (rest := []) F hP hS (c_X9_howManyLate l D cT lo w ad  v_30 w_30 hc_30) cw_X9_howManyLate lk_X11_285 vi_X9_howManyLate k_7 (n2 (hP.al 7 rfl)) rfl ⟨rfl, rfl, Nat.le_of_ble_eq_true rfl, Nat.le_of_ble_eq_true rfl⟩ hl.1 rfl (Nat.le_of_ble_eq_true rfl) dX11_latest_30 ⟨Nat.zero_le _, Nat.zero_le _⟩) hS (fun H locs hP hS hm => ?_)
      have hM_w := hm
      exact y_iretM h F hr hP hS hM_w hlk dX11_latest_33
    · have h := if_t _ hc h
      refine lv_aload_n hx hb dX11_latest_16 rfl (lv_at hl 0 rfl) ?_
      refine x_getr F hP k_1 (hP.al 1 rfl) fl_X11_51 rfl r_1_5 dX11_latest_17 ?_
      obtain ⟨v_20, w_20, hc_20, h⟩ := bi_s h
      refine x_goes (x_runV (As := []) (rest := []) F hP hS (c_X9_greatestLate l D cT lo w ad  v_20 w_20 hc_20) cw_X9_greatestLate lk_X11_282 vi_X9_greatestLate k_7 (n2 (hP.al 7 rfl)) rfl ⟨rfl, rfl, Nat.le_of_ble_eq_true rfl, Nat.le_of_ble_eq_true rfl⟩ hl.1 rfl (Nat.le_of_ble_eq_true rfl) dX11_latest_20 ⟨Nat.zero_le _, Nat.zero_le _⟩) hS (fun H locs hP hS hm => ?_)
      have hM_w := hm
      refine lv_goto (tgt := 33) hx hb dX11_latest_23 (by decide) ?_
      exact y_iretM h F hr hP hS hM_w hlk dX11_latest_33
  · have h := if_t _ hc h
    refine lv_bipush (v := -2) hx hb dX11_latest_9 ib_m2 ?_
    exact y_iretM h F hr hP hS mono.refl hlk dX11_latest_11
def f_X11_type (w : Wd) (a1 : Int32) : Option (Int32 × Wd) :=
q_bi (f_X4_append w a1) (fun v_5 w_5 =>
some (v_5, w_5))
set_option maxRecDepth 100000 in
set_option maxHeartbeats 4000000 in
theorem c_X11_type (l : Launch) (D : va_G) (cT : Nat → ClassId) (lo : Nat) (w : Wd) (ad : Nat → Nat) (a1 : Int32) (r : Int32) (w9 : Wd) (h : f_X11_type w a1 = some (r, w9)) : Met l yX11_type (.code yX11_type cX11_type 2 (some .int) :: TW) { frames := 2, cells := 0, slots := 0, locals := 43 } (mPc D cT lo NB w ad [.ref (ad 1), .int a1]) (mQ D cT lo NB w w9 ad (some (.int r))) 0 0 (fun q => lo ≤ q) := by
  unfold f_X11_type at h
  refine x_met (lv := [(0, .ref (ad 1)), (1, .int a1)]) (by decide +kernel) (Nat.le_of_ble_eq_true rfl) rfl ?_
  intro p e s m args below meth c ls F hr hlk hP hin hl
  have hx := F.1
  have hb := F.2.1
  have hS : va_S (fun q => lo ≤ q) s.heap s.heap [] := va_S.rf
  have hM_w : mono w w := mono.refl
  refine lv_aload_n hx hb dX11_type_0 rfl (lv_at hl 0 rfl) ?_
  refine x_getr F hP k_1 (hP.al 1 rfl) fl_X11_60 rfl r_1_6 dX11_type_1 ?_
  refine lv_iload_n hx hb dX11_type_4 rfl (lv_at hl 1 rfl) ?_
  obtain ⟨v_5, w_5, hc_5, h⟩ := bi_s h
  refine x_goes (x_runV (As := [.int a1]) (rest := []) F hP hS (c_X4_append l D cT lo w ad a1 v_5 w_5 hc_5) cw_X4_append lk_X11_288 vi_X4_append k_8 (n2 (hP.al 8 rfl)) rfl ⟨rfl, rfl, Nat.le_of_ble_eq_true rfl, Nat.le_of_ble_eq_true rfl⟩ hl.1 rfl (Nat.le_of_ble_eq_true rfl) dX11_type_5 ⟨Nat.zero_le _, Nat.zero_le _⟩) hS (fun H locs hP hS hm => ?_)
  have hM_w := hm
  exact y_iretM h F hr hP hS hM_w hlk dX11_type_8
def f_X11_tear (w : Wd) : Option (Int32 × Wd) :=
q_bi (f_X4_clear w) (fun v_4 w_4 =>
some (v_4, w_4))
set_option maxRecDepth 100000 in
set_option maxHeartbeats 4000000 in
theorem c_X11_tear (l : Launch) (D : va_G) (cT : Nat → ClassId) (lo : Nat) (w : Wd) (ad : Nat → Nat)  (r : Int32) (w9 : Wd) (h : f_X11_tear w = some (r, w9)) : Met l yX11_tear (.code yX11_tear cX11_tear 1 (some .int) :: TW) { frames := 1, cells := 0, slots := 0, locals := 21 } (mPc D cT lo NB w ad [.ref (ad 1)]) (mQ D cT lo NB w w9 ad (some (.int r))) 0 0 (fun q => lo ≤ q) := by
  unfold f_X11_tear at h
  refine x_met (lv := [(0, .ref (ad 1))]) (by decide +kernel) (Nat.le_of_ble_eq_true rfl) rfl ?_
  intro p e s m args below meth c ls F hr hlk hP hin hl
  have hx := F.1
  have hb := F.2.1
  have hS : va_S (fun q => lo ≤ q) s.heap s.heap [] := va_S.rf
  have hM_w : mono w w := mono.refl
  refine lv_aload_n hx hb dX11_tear_0 rfl (lv_at hl 0 rfl) ?_
  refine x_getr F hP k_1 (hP.al 1 rfl) fl_X11_60 rfl r_1_6 dX11_tear_1 ?_
  obtain ⟨v_4, w_4, hc_4, h⟩ := bi_s h
  refine x_goes (x_runV (As := []) (rest := []) F hP hS (c_X4_clear l D cT lo w ad  v_4 w_4 hc_4) cw_X4_clear lk_X11_291 vi_X4_clear k_8 (n2 (hP.al 8 rfl)) rfl ⟨rfl, rfl, Nat.le_of_ble_eq_true rfl, Nat.le_of_ble_eq_true rfl⟩ hl.1 rfl (Nat.le_of_ble_eq_true rfl) dX11_tear_4 ⟨Nat.zero_le _, Nat.zero_le _⟩) hS (fun H locs hP hS hm => ?_)
  have hM_w := hm
  exact y_iretM h F hr hP hS hM_w hlk dX11_tear_7
def f_X11_fault (w : Wd) : Option Int32 :=
q_bo (f_X4_faultPlace w) (fun v_4 =>
some v_4)
set_option maxRecDepth 100000 in
set_option maxHeartbeats 4000000 in
theorem c_X11_fault (l : Launch) (D : va_G) (cT : Nat → ClassId) (lo : Nat) (w : Wd) (ad : Nat → Nat)  (r : Int32) (h : f_X11_fault w = some r) : Met l yX11_fault (.code yX11_fault cX11_fault 1 (some .int) :: TW) { frames := 6, cells := 0, slots := 0, locals := 130 } (mPc D cT lo NB w ad [.ref (ad 1)]) (mQ D cT lo NB w w ad (some (.int r))) 0 0 (fun q => lo ≤ q) := by
  unfold f_X11_fault at h
  refine x_met (lv := [(0, .ref (ad 1))]) (by decide +kernel) (Nat.le_of_ble_eq_true rfl) rfl ?_
  intro p e s m args below meth c ls F hr hlk hP hin hl
  have hx := F.1
  have hb := F.2.1
  have hS : va_S (fun q => lo ≤ q) s.heap s.heap [] := va_S.rf
  refine lv_aload_n hx hb dX11_fault_0 rfl (lv_at hl 0 rfl) ?_
  refine x_getr F hP k_1 (hP.al 1 rfl) fl_X11_60 rfl r_1_6 dX11_fault_1 ?_
  obtain ⟨v_4, hc_4, h⟩ := bo_s h
  refine x_goes (x_runV (As := []) (rest := []) F hP hS (c_X4_faultPlace l D cT lo w ad  v_4 hc_4) cw_X4_faultPlace lk_X11_294 vi_X4_faultPlace k_8 (n2 (hP.al 8 rfl)) rfl ⟨rfl, rfl, Nat.le_of_ble_eq_true rfl, Nat.le_of_ble_eq_true rfl⟩ hl.1 rfl (Nat.le_of_ble_eq_true rfl) dX11_fault_4 ⟨Nat.zero_le _, Nat.zero_le _⟩) hS (fun H locs hP hS _ => ?_)
  exact y_iretO h F hr hP hS hlk dX11_fault_7
def f_X11_perform (w : Wd) (a1 : Int32) : Option (Int32 × Wd) :=
q_bo (f_X3_carAt w a1) (fun q_5 =>
if q_5 = 0 then
some ((-2 : Int32), w)
else
q_gt w q_5 12 (fun v_17 =>
if v_17 = 0 then
some ((-3 : Int32), w)
else
q_bo (f_X4_faultPlace w) (fun v_27 =>
if v_27 = (-1 : Int32) then
q_bi (f_X4_carryOut w q_5) (fun v_42 w_42 =>
some (v_42, w_42))
else
some ((-3 : Int32), w))))
set_option maxRecDepth 100000 in
set_option maxHeartbeats 4000000 in
theorem c_X11_perform (l : Launch) (D : va_G) (cT : Nat → ClassId) (lo : Nat) (w : Wd) (ad : Nat → Nat) (a1 : Int32) (r : Int32) (w9 : Wd) (h : f_X11_perform w a1 = some (r, w9)) : Met l yX11_perform (.code yX11_perform cX11_perform 3 (some .int) :: TW) { frames := 7, cells := 0, slots := 0, locals := 173 } (mPc D cT lo NB w ad [.ref (ad 1), .int a1]) (mQ D cT lo NB w w9 ad (some (.int r))) 0 0 (fun q => lo ≤ q) := by
  unfold f_X11_perform at h
  refine x_met (lv := [(0, .ref (ad 1)), (1, .int a1)]) (by decide +kernel) (Nat.le_of_ble_eq_true rfl) rfl ?_
  intro p e s m args below meth c ls F hr hlk hP hin hl
  have hx := F.1
  have hb := F.2.1
  have hS : va_S (fun q => lo ≤ q) s.heap s.heap [] := va_S.rf
  have hM_w : mono w w := mono.refl
  refine lv_aload_n hx hb dX11_perform_0 rfl (lv_at hl 0 rfl) ?_
  refine x_getr F hP k_1 (hP.al 1 rfl) fl_X11_21 rfl r_1_1 dX11_perform_1 ?_
  refine lv_iload_n hx hb dX11_perform_4 rfl (lv_at hl 1 rfl) ?_
  obtain ⟨q_5, hc_5, h⟩ := bo_s h
  refine x_goesR (x_runV (As := [.int a1]) (rest := []) F hP hS (c_X3_carAt l D cT lo w ad a1 q_5 hc_5) cw_X3_carAt lk_X11_128 vi_X3_carAt k_3 (n2 (hP.al 3 rfl)) rfl ⟨rfl, rfl, Nat.le_of_ble_eq_true rfl, Nat.le_of_ble_eq_true rfl⟩ hl.1 rfl (Nat.le_of_ble_eq_true rfl) dX11_perform_5 ⟨Nat.zero_le _, Nat.zero_le _⟩) hS (fun H locs hq hP hS => ?_) (fun H locs hz_q_5 hk_q_5 ha_q_5 hP hS => ?_)
  · subst hq
    refine lv_astore_nN (lv' := [(2, .null), (0, .ref (ad 1)), (1, .int a1)]) hx hb dX11_perform_8 rfl hl (Nat.le_of_ble_eq_true rfl) rfl (fun ls hl => ?_)
    refine lv_aload_nN hx hb dX11_perform_9 rfl (lv_at hl 0 rfl) ?_
    have h := if_t _ rfl h
    refine lv_ifnonnullN hx hb dX11_perform_10 ?_
    refine lv_bipush (v := -2) hx hb dX11_perform_13 ib_m2 ?_
    exact y_iretM h F hr hP hS mono.refl hlk dX11_perform_15
  · refine lv_astore_n (lv' := [(2, .ref (ad q_5)), (0, .ref (ad 1)), (1, .int a1)]) hx hb dX11_perform_8 rfl hl (Nat.le_of_ble_eq_true rfl) rfl (fun ls hl => ?_)
    refine lv_aload_n hx hb dX11_perform_9 rfl (lv_at hl 0 rfl) ?_
    have h := if_f _ hz_q_5 h
    refine lv_ifnonnull (tgt := 16) hx hb dX11_perform_10 (by decide) ?_
    refine lv_aload_n hx hb dX11_perform_16 rfl (lv_at hl 0 rfl) ?_
    refine y_geti h F hP hk_q_5 (n2 ha_q_5) fl_X11_146 rfl dX11_perform_17 (fun v_17 h => ?_)
    refine lv_if_eq (tgt := 34) hx hb dX11_perform_20 (by decide) (fun hc => ?_) (fun hc => ?_)
    · have h := if_t _ hc h
      refine lv_bipush (v := -3) hx hb dX11_perform_34 ib_m3 ?_
      exact y_iretM h F hr hP hS mono.refl hlk dX11_perform_36
    · have h := if_f _ hc h
      refine lv_aload_n hx hb dX11_perform_23 rfl (lv_at hl 1 rfl) ?_
      refine x_getr F hP k_1 (hP.al 1 rfl) fl_X11_60 rfl r_1_6 dX11_perform_24 ?_
      obtain ⟨v_27, hc_27, h⟩ := bo_s h
      refine x_goes (x_runV (As := []) (rest := []) F hP hS (c_X4_faultPlace l D cT lo w ad  v_27 hc_27) cw_X4_faultPlace lk_X11_294 vi_X4_faultPlace k_8 (n2 (hP.al 8 rfl)) rfl ⟨rfl, rfl, Nat.le_of_ble_eq_true rfl, Nat.le_of_ble_eq_true rfl⟩ hl.1 rfl (Nat.le_of_ble_eq_true rfl) dX11_perform_27 ⟨Nat.zero_le _, Nat.zero_le _⟩) hS (fun H locs hP hS _ => ?_)
      refine lv_iconst (v := -1) hx hb dX11_perform_30 ic_m1 ?_
      refine lv_icmp_eq (tgt := 37) hx hb dX11_perform_31 (by decide) (fun hc => ?_) (fun hc => ?_)
      · have h := if_t _ hc h
        refine lv_aload_n hx hb dX11_perform_37 rfl (lv_at hl 1 rfl) ?_
        refine x_getr F hP k_1 (hP.al 1 rfl) fl_X11_60 rfl r_1_6 dX11_perform_38 ?_
        refine lv_aload_n hx hb dX11_perform_41 rfl (lv_at hl 0 rfl) ?_
        obtain ⟨v_42, w_42, hc_42, h⟩ := bi_s h
        refine x_goes (x_runV (As := [.ref (ad q_5)]) (rest := []) F hP hS (c_X4_carryOut l D cT lo w ad q_5 hk_q_5 ha_q_5 v_42 w_42 hc_42) cw_X4_carryOut lk_X11_297 vi_X4_carryOut k_8 (n2 (hP.al 8 rfl)) rfl ⟨rfl, rfl, Nat.le_of_ble_eq_true rfl, Nat.le_of_ble_eq_true rfl⟩ hl.1 rfl (Nat.le_of_ble_eq_true rfl) dX11_perform_42 ⟨Nat.zero_le _, Nat.zero_le _⟩) hS (fun H locs hP hS hm => ?_)
        have hM_w := hm
        have ha_q_5 := hm.2 _ ha_q_5
        exact y_iretM h F hr hP hS hM_w hlk dX11_perform_45
      · have h := if_f _ hc h
        refine lv_bipush (v := -3) hx hb dX11_perform_34 ib_m3 ?_
        exact y_iretM h F hr hP hS mono.refl hlk dX11_perform_36
def f_X11_sheet (w : Wd) (a1 : Int32) (a2 : Int32) (a3 : Int32) : Option (Int32 × Wd) :=
q_bi (f_X6_renew w a1 a2 a3) (fun v_7 w_7 =>
some (v_7, w_7))
set_option maxRecDepth 100000 in
set_option maxHeartbeats 4000000 in
theorem c_X11_sheet (l : Launch) (D : va_G) (cT : Nat → ClassId) (lo : Nat) (w : Wd) (ad : Nat → Nat) (a1 : Int32) (a2 : Int32) (a3 : Int32) (r : Int32) (w9 : Wd) (h : f_X11_sheet w a1 a2 a3 = some (r, w9)) : Met l yX11_sheet (.code yX11_sheet cX11_sheet 4 (some .int) :: TW) { frames := 3, cells := 0, slots := 0, locals := 65 } (mPc D cT lo NB w ad [.ref (ad 1), .int a1, .int a2, .int a3]) (mQ D cT lo NB w w9 ad (some (.int r))) 0 0 (fun q => lo ≤ q) := by
  unfold f_X11_sheet at h
  refine x_met (lv := [(0, .ref (ad 1)), (1, .int a1), (2, .int a2), (3, .int a3)]) (by decide +kernel) (Nat.le_of_ble_eq_true rfl) rfl ?_
  intro p e s m args below meth c ls F hr hlk hP hin hl
  have hx := F.1
  have hb := F.2.1
  have hS : va_S (fun q => lo ≤ q) s.heap s.heap [] := va_S.rf
  have hM_w : mono w w := mono.refl
  refine lv_aload_n hx hb dX11_sheet_0 rfl (lv_at hl 0 rfl) ?_
  refine x_getr F hP k_1 (hP.al 1 rfl) fl_X11_67 rfl r_1_7 dX11_sheet_1 ?_
  refine lv_iload_n hx hb dX11_sheet_4 rfl (lv_at hl 1 rfl) ?_
  refine lv_iload_n hx hb dX11_sheet_5 rfl (lv_at hl 2 rfl) ?_
  refine lv_iload_n hx hb dX11_sheet_6 rfl (lv_at hl 3 rfl) ?_
  obtain ⟨v_7, w_7, hc_7, h⟩ := bi_s h
  refine x_goes (x_runV (As := [.int a1, .int a2, .int a3]) (rest := []) F hP hS (c_X6_renew l D cT lo w ad a1 a2 a3 v_7 w_7 hc_7) cw_X6_renew lk_X11_300 vi_X6_renew k_9 (n2 (hP.al 9 rfl)) rfl ⟨rfl, rfl, Nat.le_of_ble_eq_true rfl, Nat.le_of_ble_eq_true rfl⟩ hl.1 rfl (Nat.le_of_ble_eq_true rfl) dX11_sheet_7 ⟨Nat.zero_le _, Nat.zero_le _⟩) hS (fun H locs hP hS hm => ?_)
  have hM_w := hm
  exact y_iretM h F hr hP hS hM_w hlk dX11_sheet_10
def f_X11_lose (w : Wd) (a1 : Int32) : Option (Int32 × Wd) :=
q_bi (f_X6_drop w a1) (fun v_5 w_5 =>
some (v_5, w_5))
set_option maxRecDepth 100000 in
set_option maxHeartbeats 4000000 in
theorem c_X11_lose (l : Launch) (D : va_G) (cT : Nat → ClassId) (lo : Nat) (w : Wd) (ad : Nat → Nat) (a1 : Int32) (r : Int32) (w9 : Wd) (h : f_X11_lose w a1 = some (r, w9)) : Met l yX11_lose (.code yX11_lose cX11_lose 2 (some .int) :: TW) { frames := 4, cells := 0, slots := 0, locals := 85 } (mPc D cT lo NB w ad [.ref (ad 1), .int a1]) (mQ D cT lo NB w w9 ad (some (.int r))) 0 0 (fun q => lo ≤ q) := by
  unfold f_X11_lose at h
  refine x_met (lv := [(0, .ref (ad 1)), (1, .int a1)]) (by decide +kernel) (Nat.le_of_ble_eq_true rfl) rfl ?_
  intro p e s m args below meth c ls F hr hlk hP hin hl
  have hx := F.1
  have hb := F.2.1
  have hS : va_S (fun q => lo ≤ q) s.heap s.heap [] := va_S.rf
  have hM_w : mono w w := mono.refl
  refine lv_aload_n hx hb dX11_lose_0 rfl (lv_at hl 0 rfl) ?_
  refine x_getr F hP k_1 (hP.al 1 rfl) fl_X11_67 rfl r_1_7 dX11_lose_1 ?_
  refine lv_iload_n hx hb dX11_lose_4 rfl (lv_at hl 1 rfl) ?_
  obtain ⟨v_5, w_5, hc_5, h⟩ := bi_s h
  refine x_goes (x_runV (As := [.int a1]) (rest := []) F hP hS (c_X6_drop l D cT lo w ad a1 v_5 w_5 hc_5) cw_X6_drop lk_X11_303 vi_X6_drop k_9 (n2 (hP.al 9 rfl)) rfl ⟨rfl, rfl, Nat.le_of_ble_eq_true rfl, Nat.le_of_ble_eq_true rfl⟩ hl.1 rfl (Nat.le_of_ble_eq_true rfl) dX11_lose_5 ⟨Nat.zero_le _, Nat.zero_le _⟩) hS (fun H locs hP hS hm => ?_)
  have hM_w := hm
  exact y_iretM h F hr hP hS hM_w hlk dX11_lose_8
def f_X11_put (w : Wd) (a1 : Int32) (a2 : Int32) (a3 : Int32) (a4 : Int32) : Option (Int32 × Wd) :=
q_bi (f_X6_write w a1 a2 a3 a4) (fun v_9 w_9 =>
some (v_9, w_9))
set_option maxRecDepth 100000 in
set_option maxHeartbeats 4000000 in
theorem c_X11_put (l : Launch) (D : va_G) (cT : Nat → ClassId) (lo : Nat) (w : Wd) (ad : Nat → Nat) (a1 : Int32) (a2 : Int32) (a3 : Int32) (a4 : Int32) (r : Int32) (w9 : Wd) (h : f_X11_put w a1 a2 a3 a4 = some (r, w9)) : Met l yX11_put (.code yX11_put cX11_put 5 (some .int) :: TW) { frames := 4, cells := 0, slots := 0, locals := 90 } (mPc D cT lo NB w ad [.ref (ad 1), .int a1, .int a2, .int a3, .int a4]) (mQ D cT lo NB w w9 ad (some (.int r))) 0 0 (fun q => lo ≤ q) := by
  unfold f_X11_put at h
  refine x_met (lv := [(0, .ref (ad 1)), (1, .int a1), (2, .int a2), (3, .int a3), (4, .int a4)]) (by decide +kernel) (Nat.le_of_ble_eq_true rfl) rfl ?_
  intro p e s m args below meth c ls F hr hlk hP hin hl
  have hx := F.1
  have hb := F.2.1
  have hS : va_S (fun q => lo ≤ q) s.heap s.heap [] := va_S.rf
  have hM_w : mono w w := mono.refl
  refine lv_aload_n hx hb dX11_put_0 rfl (lv_at hl 0 rfl) ?_
  refine x_getr F hP k_1 (hP.al 1 rfl) fl_X11_67 rfl r_1_7 dX11_put_1 ?_
  refine lv_iload_n hx hb dX11_put_4 rfl (lv_at hl 1 rfl) ?_
  refine lv_iload_n hx hb dX11_put_5 rfl (lv_at hl 2 rfl) ?_
  refine lv_iload_n hx hb dX11_put_6 rfl (lv_at hl 3 rfl) ?_
  refine lv_iload hx hb dX11_put_7 (lv_at hl 4 rfl) ?_
  obtain ⟨v_9, w_9, hc_9, h⟩ := bi_s h
  refine x_goes (x_runV (As := [.int a1, .int a2, .int a3, .int a4]) (rest := []) F hP hS (c_X6_write l D cT lo w ad a1 a2 a3 a4 v_9 w_9 hc_9) cw_X6_write lk_X11_306 vi_X6_write k_9 (n2 (hP.al 9 rfl)) rfl ⟨rfl, rfl, Nat.le_of_ble_eq_true rfl, Nat.le_of_ble_eq_true rfl⟩ hl.1 rfl (Nat.le_of_ble_eq_true rfl) dX11_put_9 ⟨Nat.zero_le _, Nat.zero_le _⟩) hS (fun H locs hP hS hm => ?_)
  have hM_w := hm
  exact y_iretM h F hr hP hS hM_w hlk dX11_put_12
def f_X11_get (w : Wd) (a1 : Int32) (a2 : Int32) (a3 : Int32) : Option (Int32 × Wd) :=
q_bi (f_X6_read w a1 a2 a3) (fun v_7 w_7 =>
some (v_7, w_7))
set_option maxRecDepth 100000 in
set_option maxHeartbeats 4000000 in
theorem c_X11_get (l : Launch) (D : va_G) (cT : Nat → ClassId) (lo : Nat) (w : Wd) (ad : Nat → Nat) (a1 : Int32) (a2 : Int32) (a3 : Int32) (r : Int32) (w9 : Wd) (h : f_X11_get w a1 a2 a3 = some (r, w9)) : Met l yX11_get (.code yX11_get cX11_get 4 (some .int) :: TW) { frames := 4, cells := 0, slots := 0, locals := 88 } (mPc D cT lo NB w ad [.ref (ad 1), .int a1, .int a2, .int a3]) (mQ D cT lo NB w w9 ad (some (.int r))) 0 0 (fun q => lo ≤ q) := by
  unfold f_X11_get at h
  refine x_met (lv := [(0, .ref (ad 1)), (1, .int a1), (2, .int a2), (3, .int a3)]) (by decide +kernel) (Nat.le_of_ble_eq_true rfl) rfl ?_
  intro p e s m args below meth c ls F hr hlk hP hin hl
  have hx := F.1
  have hb := F.2.1
  have hS : va_S (fun q => lo ≤ q) s.heap s.heap [] := va_S.rf
  have hM_w : mono w w := mono.refl
  refine lv_aload_n hx hb dX11_get_0 rfl (lv_at hl 0 rfl) ?_
  refine x_getr F hP k_1 (hP.al 1 rfl) fl_X11_67 rfl r_1_7 dX11_get_1 ?_
  refine lv_iload_n hx hb dX11_get_4 rfl (lv_at hl 1 rfl) ?_
  refine lv_iload_n hx hb dX11_get_5 rfl (lv_at hl 2 rfl) ?_
  refine lv_iload_n hx hb dX11_get_6 rfl (lv_at hl 3 rfl) ?_
  obtain ⟨v_7, w_7, hc_7, h⟩ := bi_s h
  refine x_goes (x_runV (As := [.int a1, .int a2, .int a3]) (rest := []) F hP hS (c_X6_read l D cT lo w ad a1 a2 a3 v_7 w_7 hc_7) cw_X6_read lk_X11_309 vi_X6_read k_9 (n2 (hP.al 9 rfl)) rfl ⟨rfl, rfl, Nat.le_of_ble_eq_true rfl, Nat.le_of_ble_eq_true rfl⟩ hl.1 rfl (Nat.le_of_ble_eq_true rfl) dX11_get_7 ⟨Nat.zero_le _, Nat.zero_le _⟩) hS (fun H locs hP hS hm => ?_)
  have hM_w := hm
  exact y_iretM h F hr hP hS hM_w hlk dX11_get_10
def f_X11_copy (w : Wd) (a1 : Int32) (a2 : Int32) (a3 : Int32) (a4 : Int32) (a5 : Int32) : Option (Int32 × Wd) :=
q_bi (f_X6_carryOver w a1 a2 a3 a4 a5) (fun v_11 w_11 =>
some (v_11, w_11))
set_option maxRecDepth 100000 in
set_option maxHeartbeats 4000000 in
theorem c_X11_copy (l : Launch) (D : va_G) (cT : Nat → ClassId) (lo : Nat) (w : Wd) (ad : Nat → Nat) (a1 : Int32) (a2 : Int32) (a3 : Int32) (a4 : Int32) (a5 : Int32) (r : Int32) (w9 : Wd) (h : f_X11_copy w a1 a2 a3 a4 a5 = some (r, w9)) : Met l yX11_copy (.code yX11_copy cX11_copy 6 (some .int) :: TW) { frames := 3, cells := 0, slots := 0, locals := 67 } (mPc D cT lo NB w ad [.ref (ad 1), .int a1, .int a2, .int a3, .int a4, .int a5]) (mQ D cT lo NB w w9 ad (some (.int r))) 0 0 (fun q => lo ≤ q) := by
  unfold f_X11_copy at h
  refine x_met (lv := [(0, .ref (ad 1)), (1, .int a1), (2, .int a2), (3, .int a3), (4, .int a4), (5, .int a5)]) (by decide +kernel) (Nat.le_of_ble_eq_true rfl) rfl ?_
  intro p e s m args below meth c ls F hr hlk hP hin hl
  have hx := F.1
  have hb := F.2.1
  have hS : va_S (fun q => lo ≤ q) s.heap s.heap [] := va_S.rf
  have hM_w : mono w w := mono.refl
  refine lv_aload_n hx hb dX11_copy_0 rfl (lv_at hl 0 rfl) ?_
  refine x_getr F hP k_1 (hP.al 1 rfl) fl_X11_67 rfl r_1_7 dX11_copy_1 ?_
  refine lv_iload_n hx hb dX11_copy_4 rfl (lv_at hl 1 rfl) ?_
  refine lv_iload_n hx hb dX11_copy_5 rfl (lv_at hl 2 rfl) ?_
  refine lv_iload_n hx hb dX11_copy_6 rfl (lv_at hl 3 rfl) ?_
  refine lv_iload hx hb dX11_copy_7 (lv_at hl 4 rfl) ?_
  refine lv_iload hx hb dX11_copy_9 (lv_at hl 5 rfl) ?_
  obtain ⟨v_11, w_11, hc_11, h⟩ := bi_s h
  refine x_goes (x_runV (As := [.int a1, .int a2, .int a3, .int a4, .int a5]) (rest := []) F hP hS (c_X6_carryOver l D cT lo w ad a1 a2 a3 a4 a5 v_11 w_11 hc_11) cw_X6_carryOver lk_X11_312 vi_X6_carryOver k_9 (n2 (hP.al 9 rfl)) rfl ⟨rfl, rfl, Nat.le_of_ble_eq_true rfl, Nat.le_of_ble_eq_true rfl⟩ hl.1 rfl (Nat.le_of_ble_eq_true rfl) dX11_copy_11 ⟨Nat.zero_le _, Nat.zero_le _⟩) hS (fun H locs hP hS hm => ?_)
  have hM_w := hm
  exact y_iretM h F hr hP hS hM_w hlk dX11_copy_14
def f_X11_count (w : Wd) (a1 : Int32) : Option Int32 :=
if a1 = 0 then
q_gt w 2 4 (fun v_72 =>
some v_72)
else if a1 = 1 then
q_gt w 2 6 (fun v_80 =>
some v_80)
else if a1 = 2 then
q_bo (f_X8_wiresThatHang w) (fun v_88 =>
some v_88)
else if a1 = 3 then
q_gt w 2 15 (fun v_96 =>
some v_96)
else if a1 = 4 then
q_gt w 3 2 (fun v_104 =>
some v_104)
else if a1 = 5 then
q_bo (f_X3_carsThatStand w) (fun v_112 =>
some v_112)
else if a1 = 6 then
q_gt w 6 7 (fun v_120 =>
some v_120)
else if a1 = 7 then
q_gt w 7 2 (fun v_128 =>
some v_128)
else if a1 = 8 then
q_gt w 8 3 (fun v_136 =>
some v_136)
else if a1 = 9 then
q_gt w 9 3 (fun v_144 =>
some v_144)
else if a1 = 10 then
q_gt w 5 1 (fun v_152 =>
some v_152)
else if a1 = 11 then
q_gt w 5 3 (fun v_160 =>
some v_160)
else if a1 = 12 then
q_gt w 3 3 (fun v_168 =>
some v_168)
else 
some (-2 : Int32)
set_option maxRecDepth 100000 in
set_option maxHeartbeats 4000000 in
theorem c_X11_count (l : Launch) (D : va_G) (cT : Nat → ClassId) (lo : Nat) (w : Wd) (ad : Nat → Nat) (a1 : Int32) (r : Int32) (h : f_X11_count w a1 = some r) : Met l yX11_count (.code yX11_count cX11_count 2 (some .int) :: TW) { frames := 1, cells := 0, slots := 0, locals := 22 } (mPc D cT lo NB w ad [.ref (ad 1), .int a1]) (mQ D cT lo NB w w ad (some (.int r))) 0 0 (fun q => lo ≤ q) := by
  unfold f_X11_count at h
  refine x_met (lv := [(0, .ref (ad 1)), (1, .int a1)]) (by decide +kernel) (Nat.le_of_ble_eq_true rfl) rfl ?_
  intro p e s m args below meth c ls F hr hlk hP hin hl
  have hx := F.1
  have hb := F.2.1
  have hS : va_S (fun q => lo ≤ q) s.heap s.heap [] := va_S.rf
  refine lv_iload_n hx hb dX11_count_0 rfl (lv_at hl 1 rfl) ?_
  by_cases hc0 : a1 = 0
  · have h := if_t _ hc0 h
    refine lv_tableIn (off := 67) (tgt := 68) hx hb dX11_count_1 (by rw [hc0]; decide) (by rw [hc0]; decide) (by rw [hc0]; rfl) (by decide) ?_
    refine lv_aload_n hx hb dX11_count_68 rfl (lv_at hl 0 rfl) ?_
    refine x_getr F hP k_1 (hP.al 1 rfl) fl_X11_10 rfl r_1_0 dX11_count_69 ?_
    refine y_geti h F hP k_2 (n2 (hP.al 2 rfl)) fl_X11_322 rfl dX11_count_72 (fun v_72 h => ?_)
    exact y_iretO h F hr hP hS hlk dX11_count_75
  have h := if_f _ hc0 h
  by_cases hc1 : a1 = 1
  · have h := if_t _ hc1 h
    refine lv_tableIn (off := 75) (tgt := 76) hx hb dX11_count_1 (by rw [hc1]; decide) (by rw [hc1]; decide) (by rw [hc1]; rfl) (by decide) ?_
    refine lv_aload_n hx hb dX11_count_76 rfl (lv_at hl 0 rfl) ?_
    refine x_getr F hP k_1 (hP.al 1 rfl) fl_X11_10 rfl r_1_0 dX11_count_77 ?_
    refine y_geti h F hP k_2 (n2 (hP.al 2 rfl)) fl_X11_325 rfl dX11_count_80 (fun v_80 h => ?_)
    exact y_iretO h F hr hP hS hlk dX11_count_83
  have h := if_f _ hc1 h
  by_cases hc2 : a1 = 2
  · have h := if_t _ hc2 h
    refine lv_tableIn (off := 83) (tgt := 84) hx hb dX11_count_1 (by rw [hc2]; decide) (by rw [hc2]; decide) (by rw [hc2]; rfl) (by decide) ?_
    refine lv_aload_n hx hb dX11_count_84 rfl (lv_at hl 0 rfl) ?_
    refine x_getr F hP k_1 (hP.al 1 rfl) fl_X11_10 rfl r_1_0 dX11_count_85 ?_
    obtain ⟨v_88, hc_88, h⟩ := bo_s h
    refine x_goes (x_runV (As := []) (rest := []) F hP hS (c_X8_wiresThatHang l D cT lo w ad  v_88 hc_88) cw_X8_wiresThatHang lk_X11_328 vi_X8_wiresThatHang k_2 (n2 (hP.al 2 rfl)) rfl ⟨rfl, rfl, Nat.le_of_ble_eq_true rfl, Nat.le_of_ble_eq_true rfl⟩ hl.1 rfl (Nat.le_of_ble_eq_true rfl) dX11_count_88 ⟨Nat.zero_le _, Nat.zero_le _⟩) hS (fun H locs hP hS _ => ?_)
    exact y_iretO h F hr hP hS hlk dX11_count_91
  have h := if_f _ hc2 h
  by_cases hc3 : a1 = 3
  · have h := if_t _ hc3 h
    refine lv_tableIn (off := 91) (tgt := 92) hx hb dX11_count_1 (by rw [hc3]; decide) (by rw [hc3]; decide) (by rw [hc3]; rfl) (by decide) ?_
    refine lv_aload_n hx hb dX11_count_92 rfl (lv_at hl 0 rfl) ?_
    refine x_getr F hP k_1 (hP.al 1 rfl) fl_X11_10 rfl r_1_0 dX11_count_93 ?_
    refine y_geti h F hP k_2 (n2 (hP.al 2 rfl)) fl_X11_331 rfl dX11_count_96 (fun v_96 h => ?_)
    exact y_iretO h F hr hP hS hlk dX11_count_99
  have h := if_f _ hc3 h
  by_cases hc4 : a1 = 4
  · have h := if_t _ hc4 h
    refine lv_tableIn (off := 99) (tgt := 100) hx hb dX11_count_1 (by rw [hc4]; decide) (by rw [hc4]; decide) (by rw [hc4]; rfl) (by decide) ?_
    refine lv_aload_n hx hb dX11_count_100 rfl (lv_at hl 0 rfl) ?_
    refine x_getr F hP k_1 (hP.al 1 rfl) fl_X11_21 rfl r_1_1 dX11_count_101 ?_
    refine y_geti h F hP k_3 (n2 (hP.al 3 rfl)) fl_X11_334 rfl dX11_count_104 (fun v_104 h => ?_)
    exact y_iretO h F hr hP hS hlk dX11_count_107
  have h := if_f _ hc4 h
  by_cases hc5 : a1 = 5
  · have h := if_t _ hc5 h
    refine lv_tableIn (off := 107) (tgt := 108) hx hb dX11_count_1 (by rw [hc5]; decide) (by rw [hc5]; decide) (by rw [hc5]; rfl) (by decide) ?_
    refine lv_aload_n hx hb dX11_count_108 rfl (lv_at hl 0 rfl) ?_
    refine x_getr F hP k_1 (hP.al 1 rfl) fl_X11_21 rfl r_1_1 dX11_count_109 ?_
    obtain ⟨v_112, hc_112, h⟩ := bo_s h
    refine x_goes (x_runV (As := []) (rest := []) F hP hS (c_X3_carsThatStand l D cT lo w ad  v_112 hc_112) cw_X3_carsThatStand lk_X11_337 vi_X3_carsThatStand k_3 (n2 (hP.al 3 rfl)) rfl ⟨rfl, rfl, Nat.le_of_ble_eq_true rfl, Nat.le_of_ble_eq_true rfl⟩ hl.1 rfl (Nat.le_of_ble_eq_true rfl) dX11_count_112 ⟨Nat.zero_le _, Nat.zero_le _⟩) hS (fun H locs hP hS _ => ?_)
    exact y_iretO h F hr hP hS hlk dX11_count_115
  have h := if_f _ hc5 h
  by_cases hc6 : a1 = 6
  · have h := if_t _ hc6 h
    refine lv_tableIn (off := 115) (tgt := 116) hx hb dX11_count_1 (by rw [hc6]; decide) (by rw [hc6]; decide) (by rw [hc6]; rfl) (by decide) ?_
    refine lv_aload_n hx hb dX11_count_116 rfl (lv_at hl 0 rfl) ?_
    refine x_getr F hP k_1 (hP.al 1 rfl) fl_X11_44 rfl r_1_4 dX11_count_117 ?_
    refine y_geti h F hP k_6 (n2 (hP.al 6 rfl)) fl_X11_340 rfl dX11_count_120 (fun v_120 h => ?_)
    exact y_iretO h F hr hP hS hlk dX11_count_123
  have h := if_f _ hc6 h
  by_cases hc7 : a1 = 7
  · have h := if_t _ hc7 h
    refine lv_tableIn (off := 123) (tgt := 124) hx hb dX11_count_1 (by rw [hc7]; decide) (by rw [hc7]; decide) (by rw [hc7]; rfl) (by decide) ?_
    refine lv_aload_n hx hb dX11_count_124 rfl (lv_at hl 0 rfl) ?_
    refine x_getr F hP k_1 (hP.al 1 rfl) fl_X11_51 rfl r_1_5 dX11_count_125 ?_
    refine y_geti h F hP k_7 (n2 (hP.al 7 rfl)) fl_X11_341 rfl dX11_count_128 (fun v_128 h => ?_)
    exact y_iretO h F hr hP hS hlk dX11_count_131
  have h := if_f _ hc7 h
  by_cases hc8 : a1 = 8
  · have h := if_t _ hc8 h
    refine lv_tableIn (off := 131) (tgt := 132) hx hb dX11_count_1 (by rw [hc8]; decide) (by rw [hc8]; decide) (by rw [hc8]; rfl) (by decide) ?_
    refine lv_aload_n hx hb dX11_count_132 rfl (lv_at hl 0 rfl) ?_
    refine x_getr F hP k_1 (hP.al 1 rfl) fl_X11_60 rfl r_1_6 dX11_count_133 ?_
    refine y_geti h F hP k_8 (n2 (hP.al 8 rfl)) fl_X11_344 rfl dX11_count_136 (fun v_136 h => ?_)
    exact y_iretO h F hr hP hS hlk dX11_count_139
  have h := if_f _ hc8 h
  by_cases hc9 : a1 = 9
  · have h := if_t _ hc9 h
    refine lv_tableIn (off := 139) (tgt := 140) hx hb dX11_count_1 (by rw [hc9]; decide) (by rw [hc9]; decide) (by rw [hc9]; rfl) (by decide) ?_
    refine lv_aload_n hx hb dX11_count_140 rfl (lv_at hl 0 rfl) ?_
    refine x_getr F hP k_1 (hP.al 1 rfl) fl_X11_67 rfl r_1_7 dX11_count_141 ?_
    refine y_geti h F hP k_9 (n2 (hP.al 9 rfl)) fl_X11_347 rfl dX11_count_144 (fun v_144 h => ?_)
    exact y_iretO h F hr hP hS hlk dX11_count_147
  have h := if_f _ hc9 h
  by_cases hc10 : a1 = 10
  · have h := if_t _ hc10 h
    refine lv_tableIn (off := 147) (tgt := 148) hx hb dX11_count_1 (by rw [hc10]; decide) (by rw [hc10]; decide) (by rw [hc10]; rfl) (by decide) ?_
    refine lv_aload_n hx hb dX11_count_148 rfl (lv_at hl 0 rfl) ?_
    refine x_getr F hP k_1 (hP.al 1 rfl) fl_X11_37 rfl r_1_3 dX11_count_149 ?_
    refine y_geti h F hP k_5 (n2 (hP.al 5 rfl)) fl_X11_350 rfl dX11_count_152 (fun v_152 h => ?_)
    exact y_iretO h F hr hP hS hlk dX11_count_155
  have h := if_f _ hc10 h
  by_cases hc11 : a1 = 11
  · have h := if_t _ hc11 h
    refine lv_tableIn (off := 155) (tgt := 156) hx hb dX11_count_1 (by rw [hc11]; decide) (by rw [hc11]; decide) (by rw [hc11]; rfl) (by decide) ?_
    refine lv_aload_n hx hb dX11_count_156 rfl (lv_at hl 0 rfl) ?_
    refine x_getr F hP k_1 (hP.al 1 rfl) fl_X11_37 rfl r_1_3 dX11_count_157 ?_
    refine y_geti h F hP k_5 (n2 (hP.al 5 rfl)) fl_X11_353 rfl dX11_count_160 (fun v_160 h => ?_)
    exact y_iretO h F hr hP hS hlk dX11_count_163
  have h := if_f _ hc11 h
  by_cases hc12 : a1 = 12
  · have h := if_t _ hc12 h
    refine lv_tableIn (off := 163) (tgt := 164) hx hb dX11_count_1 (by rw [hc12]; decide) (by rw [hc12]; decide) (by rw [hc12]; rfl) (by decide) ?_
    refine lv_aload_n hx hb dX11_count_164 rfl (lv_at hl 0 rfl) ?_
    refine x_getr F hP k_1 (hP.al 1 rfl) fl_X11_21 rfl r_1_1 dX11_count_165 ?_
    refine y_geti h F hP k_3 (n2 (hP.al 3 rfl)) fl_X11_170 rfl dX11_count_168 (fun v_168 h => ?_)
    exact y_iretO h F hr hP hS hlk dX11_count_171
  have h := if_f _ hc12 h
  refine lv_tableOut (tgt := 172) hx hb dX11_count_1 (tab_out [(0 : Int32), (1 : Int32), (2 : Int32), (3 : Int32), (4 : Int32), (5 : Int32), (6 : Int32), (7 : Int32), (8 : Int32), (9 : Int32), (10 : Int32), (11 : Int32), (12 : Int32)] (by decide) (by simp [hc0, hc1, hc2, hc3, hc4, hc5, hc6, hc7, hc8, hc9, hc10, hc11, hc12])) (by decide) ?_
  refine lv_bipush (v := -2) hx hb dX11_count_172 ib_m2 ?_
  exact y_iretO h F hr hP hS hlk dX11_count_174
def l_X11_digestCars_58  : Nat → Wd → Int32 → Int64 → Option (Int64 × Wd)
  | 0, _, _, _ => none
  | n_58 + 1, w_58l, x5_58l, x3_58l =>
    q_gt w_58l 3 2 (fun v_64 =>
    if v_64 ≤ x5_58l then
    some (x3_58l, w_58l)
    else
    q_bo (f_X3_carAt w_58l x5_58l) (fun q_76 =>
    q_jn (fun (w_128j : Wd) (x3_128 : Int64) =>
    q_lt (x5_58l + (1 : Int32)) (fun v_128 =>
    l_X11_digestCars_58 n_58 w_128j v_128 x3_128)) (fun j_128 =>
    if q_76 = 0 then
    j_128 w_58l x3_58l
    else
    q_gt w_58l q_76 12 (fun v_88 =>
    if v_88 = 0 then
    j_128 w_58l x3_58l
    else
    q_bi (f_X3_pullOf w_58l q_76) (fun v_105 w_105 =>
    q_lt (((31 : Int64) * x3_58l) + v_105.toInt64) (fun v_110 =>
    q_bo (f_X3_needOf w_105 q_76) (fun v_122 =>
    q_lt (((31 : Int64) * v_110) + v_122.toInt64) (fun v_127 =>
    j_128 w_105 v_127))))))))
def l_X11_digestCars_20 (w : Wd) (x5_5l : Int32) (j_49 : Int64 → Option (Int64 × Wd)) : Nat → Int32 → Int64 → Option (Int64 × Wd)
  | 0, _, _ => none
  | n_20 + 1, x6_20l, x3_20l =>
    if (9 : Int32) < x6_20l then
    j_49 x3_20l
    else
    q_bo (f_X11_about w x5_5l x6_20l) (fun v_37 =>
    q_lt (((31 : Int64) * x3_20l) + v_37.toInt64) (fun v_42 =>
    q_lt (x6_20l + (1 : Int32)) (fun v_43 =>
    l_X11_digestCars_20 w x5_5l j_49 n_20 v_43 v_42)))
def l_X11_digestCars_5 (w : Wd) (j_55 : Int64 → Option (Int64 × Wd)) : Nat → Int32 → Int64 → Option (Int64 × Wd)
  | 0, _, _ => none
  | n_5 + 1, x5_5l, x3_5l =>
    q_gt w 3 2 (fun v_11 =>
    if v_11 ≤ x5_5l then
    j_55 x3_5l
    else
    q_jn (fun (x3_49 : Int64) =>
    q_lt (x5_5l + (1 : Int32)) (fun v_49 =>
    l_X11_digestCars_5 w j_55 n_5 v_49 x3_49)) (fun j_49 =>
    l_X11_digestCars_20 w x5_5l j_49 FU (0 : Int32) x3_5l))
def f_X11_digestCars (w : Wd) (a1 : Int64) : Option (Int64 × Wd) :=
q_jn (fun (x3_55 : Int64) =>
l_X11_digestCars_58 FU w (0 : Int32) x3_55) (fun j_55 =>
l_X11_digestCars_5 w j_55 FU (0 : Int32) a1)
set_option maxRecDepth 100000 in
set_option maxHeartbeats 4000000 in
theorem c_X11_digestCars (l : Launch) (D : va_G) (cT : Nat → ClassId) (lo : Nat) (w : Wd) (ad : Nat → Nat) (a1 : Int64) (r : Int64) (w9 : Wd) (h : f_X11_digestCars w a1 = some (r, w9)) : Met l yX11_digestCars (.code yX11_digestCars cX11_digestCars 7 (some .long) :: TW) { frames := 6, cells := 0, slots := 0, locals := 139 } (mPc D cT lo NB w ad [.ref (ad 1), .long a1]) (mQ D cT lo NB w w9 ad (some (.long r))) 0 0 (fun q => lo ≤ q) := by
  unfold f_X11_digestCars at h
  refine x_met (lv := [(0, .ref (ad 1)), (1, .long a1)]) (by decide +kernel) (Nat.le_of_ble_eq_true rfl) rfl ?_
  intro p e s m args below meth c ls F hr hlk hP hin hl
  have hx := F.1
  have hb := F.2.1
  have hS : va_S (fun q => lo ≤ q) s.heap s.heap [] := va_S.rf
  have hM_w : mono w w := mono.refl
  refine lv_lload_n hx hb dX11_digestCars_0 rfl (lv_at hl 1 rfl) ?_
  refine lv_lstore_n (lv' := [(3, .long a1), (0, .ref (ad 1)), (1, .long a1)]) hx hb dX11_digestCars_1 rfl hl (Nat.le_of_ble_eq_true rfl) rfl (fun ls hl => ?_)
  refine lv_iconst (v := 0) hx hb dX11_digestCars_2 ic_0 ?_
  refine lv_istore (lv' := [(5, .int (0 : Int32)), (3, .long a1), (0, .ref (ad 1)), (1, .long a1)]) hx hb dX11_digestCars_3 hl (Nat.le_of_ble_eq_true rfl) rfl (fun ls hl => ?_)
  refine jn_use (fun (j_55 : Int64 → Option (Int64 × Wd)) => ∀ (x3_55 : Int64), j_55 x3_55 = some (r, w9) → GG p l e { frames := 6, cells := 0, slots := 0, locals := 139 } s m args below meth c 0 0 (MQ below (mQ D cT lo NB w w9 ad (some (.long r))) args s 0 0 (fun q => lo ≤ q)) D cT lo NB 7 ad w 55 [(3, .long x3_55), (0, .ref (ad 1))] []) h (fun x3_55 h H locs ls hP hS hl => ?_) (fun j_55 J_55 h => ?_)
  · refine lv_iconst (v := 0) hx hb dX11_digestCars_55 ic_0 ?_
    refine lv_istore (lv' := [(5, .int (0 : Int32)), (3, .long x3_55), (0, .ref (ad 1))]) hx hb dX11_digestCars_56 hl (Nat.le_of_ble_eq_true rfl) rfl (fun ls hl => ?_)
    have L_58 : ∀ (n_58 : Nat) (w_58l : Wd) (x5_58l : Int32) (x3_58l : Int64), mono w w_58l → l_X11_digestCars_58 n_58 w_58l x5_58l x3_58l = some (r, w9) → GG p l e { frames := 6, cells := 0, slots := 0, locals := 139 } s m args below meth c 0 0 (MQ below (mQ D cT lo NB w w9 ad (some (.long r))) args s 0 0 (fun q => lo ≤ q)) D cT lo NB 7 ad w_58l 58 [(5, .int x5_58l), (3, .long x3_58l), (0, .ref (ad 1))] [] := by
      intro n_58
      induction n_58 with
      | zero =>
        intro w_58l x5_58l x3_58l _ h
        exact absurd h (by unfold l_X11_digestCars_58; exact fun z => by cases z)
      | succ n_58 ih_58 =>
        intro w_58l x5_58l x3_58l hm h H locs ls hP hS hl
        unfold l_X11_digestCars_58 at h
        have hM_w := hm
        refine lv_iload hx hb dX11_digestCars_58 (lv_at hl 0 rfl) ?_
        refine lv_aload_n hx hb dX11_digestCars_60 rfl (lv_at hl 2 rfl) ?_
        refine x_getr F hP k_1 (hP.al 1 rfl) fl_X11_21 rfl r_1_1 dX11_digestCars_61 ?_
        refine y_geti h F hP k_3 (n2 (hP.al 3 rfl)) fl_X11_334 rfl dX11_digestCars_64 (fun v_64 h => ?_)
        refine lv_icmp_ge (tgt := 134) hx hb dX11_digestCars_67 (by decide) (fun hc => ?_) (fun hc => ?_)
        · have h := if_t _ hc h
          refine lv_lload_n hx hb dX11_digestCars_134 rfl (lv_at hl 1 rfl) ?_
          exact y_lretM h F hr hP hS hM_w hlk dX11_digestCars_135
        · have h := if_f _ hc h
          refine lv_aload_n hx hb dX11_digestCars_70 rfl (lv_at hl 2 rfl) ?_
          refine x_getr F hP k_1 (hP.al 1 rfl) fl_X11_21 rfl r_1_1 dX11_digestCars_71 ?_
          refine lv_iload hx hb dX11_digestCars_74 (lv_at hl 0 rfl) ?_
          obtain ⟨q_76, hc_76, h⟩ := bo_s h
          refine x_goesR (x_runV (As := [.int x5_58l]) (rest := []) F hP hS (c_X3_carAt l D cT lo w_58l ad x5_58l q_76 hc_76) cw_X3_carAt lk_X11_128 vi_X3_carAt k_3 (n2 (hP.al 3 rfl)) rfl ⟨rfl, rfl, Nat.le_of_ble_eq_true rfl, Nat.le_of_ble_eq_true rfl⟩ hl.1 rfl (Nat.le_of_ble_eq_true rfl) dX11_digestCars_76 ⟨Nat.zero_le _, Nat.zero_le _⟩) hS (fun H locs hq hP hS => ?_) (fun H locs hz_q_76 hk_q_76 ha_q_76 hP hS => ?_)
          · subst hq
            refine lv_astoreN (lv' := [(6, .null), (5, .int x5_58l), (3, .long x3_58l), (0, .ref (ad 1))]) hx hb dX11_digestCars_79 hl (Nat.le_of_ble_eq_true rfl) rfl (fun ls hl => ?_)
            refine lv_aloadN hx hb dX11_digestCars_81 (lv_at hl 0 rfl) ?_
            refine jn_use (fun (j_128 : Wd → Int64 → Option (Int64 × Wd)) => ∀ (w_128j : Wd) (x3_128 : Int64), mono w_58l w_128j → j_128 w_128j x3_128 = some (r, w9) → GG p l e { frames := 6, cells := 0, slots := 0, locals := 139 } s m args below meth c 0 0 (MQ below (mQ D cT lo NB w w9 ad (some (.long r))) args s 0 0 (fun q => lo ≤ q)) D cT lo NB 7 ad w_128j 128 [(5, .int x5_58l), (3, .long x3_128), (0, .ref (ad 1))] []) h (fun w_128j x3_128 hm h H locs ls hP hS hl => ?_) (fun j_128 J_128 h => ?_)
            · have hM_w := hM_w.trans hm
              have hM_w_58l := hm
              refine y_iinc (lv' := fun (v_128 : Int32) => [(5, .int v_128), (3, .long x3_128), (0, .ref (ad 1))]) h F ic_1 dX11_digestCars_128 hl (kq := 0) rfl (Nat.le_of_ble_eq_true rfl) (fun _ => rfl) (fun v_128 ls hl h => ?_)
              refine lv_goto (tgt := 58) hx hb dX11_digestCars_131 (by decide) ?_
              exact ih_58 w_128j v_128 x3_128 hM_w h _ _ _ hP hS (lv_sub hl [0, 1, 2] rfl)
            · have h := if_t _ rfl h
              refine lv_ifnullN (tgt := 128) hx hb dX11_digestCars_83 (by decide) ?_
              exact J_128 w_58l x3_58l mono.refl h _ _ _ hP hS (lv_sub hl [1, 2, 3] rfl)
          · refine lv_astore (lv' := [(6, .ref (ad q_76)), (5, .int x5_58l), (3, .long x3_58l), (0, .ref (ad 1))]) hx hb dX11_digestCars_79 hl (Nat.le_of_ble_eq_true rfl) rfl (fun ls hl => ?_)
            refine lv_aload hx hb dX11_digestCars_81 (lv_at hl 0 rfl) ?_
            refine jn_use (fun (j_128 : Wd → Int64 → Option (Int64 × Wd)) => ∀ (w_128j : Wd) (x3_128 : Int64), mono w_58l w_128j → j_128 w_128j x3_128 = some (r, w9) → GG p l e { frames := 6, cells := 0, slots := 0, locals := 139 } s m args below meth c 0 0 (MQ below (mQ D cT lo NB w w9 ad (some (.long r))) args s 0 0 (fun q => lo ≤ q)) D cT lo NB 7 ad w_128j 128 [(5, .int x5_58l), (3, .long x3_128), (0, .ref (ad 1))] []) h (fun w_128j x3_128 hm h H locs ls hP hS hl => ?_) (fun j_128 J_128 h => ?_)
            · have hM_w := hM_w.trans hm
              have hM_w_58l := hm
              have ha_q_76 := hm.2 _ ha_q_76
              refine y_iinc (lv' := fun (v_128 : Int32) => [(5, .int v_128), (3, .long x3_128), (0, .ref (ad 1))]) h F ic_1 dX11_digestCars_128 hl (kq := 0) rfl (Nat.le_of_ble_eq_true rfl) (fun _ => rfl) (fun v_128 ls hl h => ?_)
              refine lv_goto (tgt := 58) hx hb dX11_digestCars_131 (by decide) ?_
              exact ih_58 w_128j v_128 x3_128 hM_w h _ _ _ hP hS (lv_sub hl [0, 1, 2] rfl)
            · have h := if_f _ hz_q_76 h
              refine lv_ifnull hx hb dX11_digestCars_83 ?_
              refine lv_aload hx hb dX11_digestCars_86 (lv_at hl 0 rfl) ?_
              refine y_geti h F hP hk_q_76 (n2 ha_q_76) fl_X11_146 rfl dX11_digestCars_88 (fun v_88 h => ?_)
              refine lv_if_eq (tgt := 128) hx hb dX11_digestCars_91 (by decide) (fun hc => ?_) (fun hc => ?_)
              · have h := if_t _ hc h
                exact J_128 w_58l x3_58l mono.refl h _ _ _ hP hS (lv_sub hl [1, 2, 3] rfl)
              · have h := if_f _ hc h
                refine lv_ldc2 F.1 F.2.1 F.2.2.1 (F.2.2.2.1 _ ct_X11_358) dX11_digestCars_94 ?_
                refine lv_lload_n hx hb dX11_digestCars_97 rfl (lv_at hl 2 rfl) ?_
                refine lv_lmul hx hb dX11_digestCars_98 ?_
                refine lv_aload_n hx hb dX11_digestCars_99 rfl (lv_at hl 3 rfl) ?_
                refine x_getr F hP k_1 (hP.al 1 rfl) fl_X11_21 rfl r_1_1 dX11_digestCars_100 ?_
                refine lv_aload hx hb dX11_digestCars_103 (lv_at hl 0 rfl) ?_
                obtain ⟨v_105, w_105, hc_105, h⟩ := bi_s h
                refine x_goes (x_runV (As := [.ref (ad q_76)]) (rest := [.long ((31 : Int64) * x3_58l)]) F hP hS (c_X3_pullOf l D cT lo w_58l ad q_76 hk_q_76 ha_q_76 v_105 w_105 hc_105) cw_X3_pullOf lk_X11_229 vi_X3_pullOf k_3 (n2 (hP.al 3 rfl)) rfl ⟨rfl, rfl, Nat.le_of_ble_eq_true rfl, Nat.le_of_ble_eq_true rfl⟩ hl.1 rfl (Nat.le_of_ble_eq_true rfl) dX11_digestCars_105 ⟨Nat.zero_le _, Nat.zero_le _⟩) hS (fun H locs hP hS hm => ?_)
                have hM_w := hM_w.trans hm
                have hM_w_58l := hm
                have ha_q_76 := hm.2 _ ha_q_76
                refine lv_i2l hx hb dX11_digestCars_108 rfl ?_
                refine lv_ladd hx hb dX11_digestCars_109 ?_
                refine y_letl h (fun v_110 h => ?_)
                refine lv_lstore_n (lv' := [(3, .long v_110), (6, .ref (ad q_76)), (5, .int x5_58l), (0, .ref (ad 1))]) hx hb dX11_digestCars_110 rfl hl (Nat.le_of_ble_eq_true rfl) rfl (fun ls hl => ?_)
                refine lv_ldc2 F.1 F.2.1 F.2.2.1 (F.2.2.2.1 _ ct_X11_358) dX11_digestCars_111 ?_
                refine lv_lload_n hx hb dX11_digestCars_114 rfl (lv_at hl 0 rfl) ?_
                refine lv_lmul hx hb dX11_digestCars_115 ?_
                refine lv_aload_n hx hb dX11_digestCars_116 rfl (lv_at hl 3 rfl) ?_
                refine x_getr F hP k_1 (hP.al 1 rfl) fl_X11_21 rfl r_1_1 dX11_digestCars_117 ?_
                refine lv_aload hx hb dX11_digestCars_120 (lv_at hl 1 rfl) ?_
                obtain ⟨v_122, hc_122, h⟩ := bo_s h
                refine x_goes (x_runV (As := [.ref (ad q_76)]) (rest := [.long ((31 : Int64) * v_110)]) F hP hS (c_X3_needOf l D cT lo w_105 ad q_76 hk_q_76 ha_q_76 v_122 hc_122) cw_X3_needOf lk_X11_233 vi_X3_needOf k_3 (n2 (hP.al 3 rfl)) rfl ⟨rfl, rfl, Nat.le_of_ble_eq_true rfl, Nat.le_of_ble_eq_true rfl⟩ hl.1 rfl (Nat.le_of_ble_eq_true rfl) dX11_digestCars_122 ⟨Nat.zero_le _, Nat.zero_le _⟩) hS (fun H locs hP hS _ => ?_)
                refine lv_i2l hx hb dX11_digestCars_125 rfl ?_
                refine lv_ladd hx hb dX11_digestCars_126 ?_
                refine y_letl h (fun v_127 h => ?_)
                refine lv_lstore_n (lv' := [(3, .long v_127), (6, .ref (ad q_76)), (5, .int x5_58l), (0, .ref (ad 1))]) hx hb dX11_digestCars_127 rfl hl (Nat.le_of_ble_eq_true rfl) rfl (fun ls hl => ?_)
                exact J_128 w_105 v_127 hM_w_58l h _ _ _ hP hS (lv_sub hl [2, 0, 3] rfl)
    exact L_58 FU w (0 : Int32) x3_55 mono.refl h _ _ _ hP hS (lv_sub hl [0, 1, 2] rfl)
  · have L_5 : ∀ (n_5 : Nat) (x5_5l : Int32) (x3_5l : Int64), l_X11_digestCars_5 w j_55 n_5 x5_5l x3_5l = some (r, w9) → GG p l e { frames := 6, cells := 0, slots := 0, locals := 139 } s m args below meth c 0 0 (MQ below (mQ D cT lo NB w w9 ad (some (.long r))) args s 0 0 (fun q => lo ≤ q)) D cT lo NB 7 ad w 5 [(5, .int x5_5l), (3, .long x3_5l), (0, .ref (ad 1))] [] := by
      intro n_5
      induction n_5 with
      | zero =>
        intro x5_5l x3_5l h
        exact absurd h (by unfold l_X11_digestCars_5; exact fun z => by cases z)
      | succ n_5 ih_5 =>
        intro x5_5l x3_5l h H locs ls hP hS hl
        unfold l_X11_digestCars_5 at h
        refine lv_iload hx hb dX11_digestCars_5 (lv_at hl 0 rfl) ?_
        refine lv_aload_n hx hb dX11_digestCars_7 rfl (lv_at hl 2 rfl) ?_
        refine x_getr F hP k_1 (hP.al 1 rfl) fl_X11_21 rfl r_1_1 dX11_digestCars_8 ?_
        refine y_geti h F hP k_3 (n2 (hP.al 3 rfl)) fl_X11_334 rfl dX11_digestCars_11 (fun v_11 h => ?_)
        refine lv_icmp_ge (tgt := 55) hx hb dX11_digestCars_14 (by decide) (fun hc => ?_) (fun hc => ?_)
        · have h := if_t _ hc h
          exact J_55 x3_5l h _ _ _ hP hS (lv_sub hl [1, 2] rfl)
        · have h := if_f _ hc h
          refine lv_iconst (v := 0) hx hb dX11_digestCars_17 ic_0 ?_
          refine lv_istore (lv' := [(6, .int (0 : Int32)), (5, .int x5_5l), (3, .long x3_5l), (0, .ref (ad 1))]) hx hb dX11_digestCars_18 hl (Nat.le_of_ble_eq_true rfl) rfl (fun ls hl => ?_)
          refine jn_use (fun (j_49 : Int64 → Option (Int64 × Wd)) => ∀ (x3_49 : Int64), j_49 x3_49 = some (r, w9) → GG p l e { frames := 6, cells := 0, slots := 0, locals := 139 } s m args below meth c 0 0 (MQ below (mQ D cT lo NB w w9 ad (some (.long r))) args s 0 0 (fun q => lo ≤ q)) D cT lo NB 7 ad w 49 [(5, .int x5_5l), (3, .long x3_49), (0, .ref (ad 1))] []) h (fun x3_49 h H locs ls hP hS hl => ?_) (fun j_49 J_49 h => ?_)
          · refine y_iinc (lv' := fun (v_49 : Int32) => [(5, .int v_49), (3, .long x3_49), (0, .ref (ad 1))]) h F ic_1 dX11_digestCars_49 hl (kq := 0) rfl (Nat.le_of_ble_eq_true rfl) (fun _ => rfl) (fun v_49 ls hl h => ?_)
            refine lv_goto (tgt := 5) hx hb dX11_digestCars_52 (by decide) ?_
            exact ih_5 v_49 x3_49 h _ _ _ hP hS (lv_sub hl [0, 1, 2] rfl)
          · have L_20 : ∀ (n_20 : Nat) (x6_20l : Int32) (x3_20l : Int64), l_X11_digestCars_20 w x5_5l j_49 n_20 x6_20l x3_20l = some (r, w9) → GG p l e { frames := 6, cells := 0, slots := 0, locals := 139 } s m args below meth c 0 0 (MQ below (mQ D cT lo NB w w9 ad (some (.long r))) args s 0 0 (fun q => lo ≤ q)) D cT lo NB 7 ad w 20 [(6, .int x6_20l), (5, .int x5_5l), (3, .long x3_20l), (0, .ref (ad 1))] [] := by
              intro n_20
              induction n_20 with
              | zero =>
                intro x6_20l x3_20l h
                exact absurd h (by unfold l_X11_digestCars_20; exact fun z => by cases z)
              | succ n_20 ih_20 =>
                intro x6_20l x3_20l h H locs ls hP hS hl
                unfold l_X11_digestCars_20 at h
                refine lv_iload hx hb dX11_digestCars_20 (lv_at hl 0 rfl) ?_
                refine lv_bipush (v := 9) hx hb dX11_digestCars_22 ib_9 ?_
                refine lv_icmp_gt (tgt := 49) hx hb dX11_digestCars_24 (by decide) (fun hc => ?_) (fun hc => ?_)
                · have h := if_t _ hc h
                  exact J_49 x3_20l h _ _ _ hP hS (lv_sub hl [1, 2, 3] rfl)
                · have h := if_f _ hc h
                  refine lv_ldc2 F.1 F.2.1 F.2.2.1 (F.2.2.2.1 _ ct_X11_358) dX11_digestCars_27 ?_
                  refine lv_lload_n hx hb dX11_digestCars_30 rfl (lv_at hl 2 rfl) ?_
                  refine lv_lmul hx hb dX11_digestCars_31 ?_
                  refine lv_aload_n hx hb dX11_digestCars_32 rfl (lv_at hl 3 rfl) ?_
                  refine lv_iload hx hb dX11_digestCars_33 (lv_at hl 1 rfl) ?_
                  refine lv_iload hx hb dX11_digestCars_35 (lv_at hl 0 rfl) ?_
                  obtain ⟨v_37, hc_37, h⟩ := bo_s h
                  refine x_goes (x_runV (As := [.int x5_5l, .int x6_20l]) (rest := [.long ((31 : Int64) * x3_20l)]) F hP hS (c_X11_about l D cT lo w ad x5_5l x6_20l v_37 hc_37) cw_X11_about lk_X11_367 vi_X11_about k_1 (n2 (hP.al 1 rfl)) rfl ⟨rfl, rfl, Nat.le_of_ble_eq_true rfl, Nat.le_of_ble_eq_true rfl⟩ hl.1 rfl (Nat.le_of_ble_eq_true rfl) dX11_digestCars_37 ⟨Nat.zero_le _, Nat.zero_le _⟩) hS (fun H locs hP hS _ => ?_)
                  refine lv_i2l hx hb dX11_digestCars_40 rfl ?_
                  refine lv_ladd hx hb dX11_digestCars_41 ?_
                  refine y_letl h (fun v_42 h => ?_)
                  refine lv_lstore_n (lv' := [(3, .long v_42), (6, .int x6_20l), (5, .int x5_5l), (0, .ref (ad 1))]) hx hb dX11_digestCars_42 rfl hl (Nat.le_of_ble_eq_true rfl) rfl (fun ls hl => ?_)
                  refine y_iinc (lv' := fun (v_43 : Int32) => [(6, .int v_43), (3, .long v_42), (5, .int x5_5l), (0, .ref (ad 1))]) h F ic_1 dX11_digestCars_43 hl (kq := 1) rfl (Nat.le_of_ble_eq_true rfl) (fun _ => rfl) (fun v_43 ls hl h => ?_)
                  refine lv_goto (tgt := 20) hx hb dX11_digestCars_46 (by decide) ?_
                  exact ih_20 v_43 v_42 h _ _ _ hP hS (lv_sub hl [0, 2, 1, 3] rfl)
            exact L_20 FU (0 : Int32) x3_5l h _ _ _ hP hS (lv_sub hl [0, 1, 2, 3] rfl)
    exact L_5 FU (0 : Int32) a1 h _ _ _ hP hS (lv_sub hl [0, 1, 2] rfl)
def l_X11_digest_80 (j_113 : Wd → Int64 → Option (Int64 × Wd)) : Nat → Wd → Int32 → Int64 → Option (Int64 × Wd)
  | 0, _, _, _ => none
  | n_80 + 1, w_80l, x3_80l, x1_80l =>
    q_gt w_80l 7 2 (fun v_85 =>
    if v_85 ≤ x3_80l then
    j_113 w_80l x1_80l
    else
    q_bi (f_X9_lateOf w_80l x3_80l) (fun v_101 w_101 =>
    q_lt (((31 : Int64) * x1_80l) + v_101.toInt64) (fun v_106 =>
    q_lt (x3_80l + (1 : Int32)) (fun v_107 =>
    l_X11_digest_80 j_113 n_80 w_101 v_107 v_106))))
def l_X11_digest_45 (j_78 : Wd → Int64 → Option (Int64 × Wd)) : Nat → Wd → Int32 → Int64 → Option (Int64 × Wd)
  | 0, _, _, _ => none
  | n_45 + 1, w_45l, x3_45l, x1_45l =>
    q_gt w_45l 6 7 (fun v_50 =>
    if v_50 ≤ x3_45l then
    j_78 w_45l x1_45l
    else
    q_bi (f_X2_goneOf w_45l x3_45l) (fun v_66 w_66 =>
    q_lt (((31 : Int64) * x1_45l) + v_66.toInt64) (fun v_71 =>
    q_lt (x3_45l + (1 : Int32)) (fun v_72 =>
    l_X11_digest_45 j_78 n_45 w_66 v_72 v_71))))
def l_X11_digest_6 (w : Wd) (j_37 : Int64 → Option (Int64 × Wd)) : Nat → Int32 → Int64 → Option (Int64 × Wd)
  | 0, _, _ => none
  | n_6 + 1, x3_6l, x1_6l =>
    if (12 : Int32) < x3_6l then
    j_37 x1_6l
    else
    q_jn (fun (x1_31 : Int64) =>
    q_lt (x3_6l + (1 : Int32)) (fun v_31 =>
    l_X11_digest_6 w j_37 n_6 v_31 x1_31)) (fun j_31 =>
    if x3_6l = (9 : Int32) then
    j_31 x1_6l
    else
    q_bo (f_X11_count w x3_6l) (fun v_25 =>
    q_lt (((31 : Int64) * x1_6l) + v_25.toInt64) (fun v_30 =>
    j_31 v_30)))
def f_X11_digest (w : Wd) : Option (Int64 × Wd) :=
q_jn (fun (x1_37 : Int64) =>
q_bi (f_X11_digestCars w x1_37) (fun v_39 w_39 =>
q_jn (fun (w_78j : Wd) (x1_78 : Int64) =>
q_jn (fun (w_113j : Wd) (x1_113 : Int64) =>
q_bi (f_X7_fewest w_113j) (fun v_122 w_122 =>
some (((31 : Int64) * x1_113) + v_122.toInt64, w_122))) (fun j_113 =>
l_X11_digest_80 j_113 FU w_78j (0 : Int32) x1_78)) (fun j_78 =>
l_X11_digest_45 j_78 FU w_39 (0 : Int32) v_39))) (fun j_37 =>
l_X11_digest_6 w j_37 FU (0 : Int32) (17 : Int64))
set_option maxRecDepth 100000 in
set_option maxHeartbeats 4000000 in
theorem c_X11_digest (l : Launch) (D : va_G) (cT : Nat → ClassId) (lo : Nat) (w : Wd) (ad : Nat → Nat)  (r : Int64) (w9 : Wd) (h : f_X11_digest w = some (r, w9)) : Met l yX11_digest (.code yX11_digest cX11_digest 4 (some .long) :: TW) { frames := 7, cells := 0, slots := 0, locals := 165 } (mPc D cT lo NB w ad [.ref (ad 1)]) (mQ D cT lo NB w w9 ad (some (.long r))) 0 0 (fun q => lo ≤ q) := by
  unfold f_X11_digest at h
  refine x_met (lv := [(0, .ref (ad 1))]) (by decide +kernel) (Nat.le_of_ble_eq_true rfl) rfl ?_
  intro p e s m args below meth c ls F hr hlk hP hin hl
  have hx := F.1
  have hb := F.2.1
  have hS : va_S (fun q => lo ≤ q) s.heap s.heap [] := va_S.rf
  have hM_w : mono w w := mono.refl
  refine lv_ldc2 F.1 F.2.1 F.2.2.1 (F.2.2.2.1 _ ct_X11_356) dX11_digest_0 ?_
  refine lv_lstore_n (lv' := [(1, .long (17 : Int64)), (0, .ref (ad 1))]) hx hb dX11_digest_3 rfl hl (Nat.le_of_ble_eq_true rfl) rfl (fun ls hl => ?_)
  refine lv_iconst (v := 0) hx hb dX11_digest_4 ic_0 ?_
  refine lv_istore_n (lv' := [(3, .int (0 : Int32)), (1, .long (17 : Int64)), (0, .ref (ad 1))]) hx hb dX11_digest_5 rfl hl (Nat.le_of_ble_eq_true rfl) rfl (fun ls hl => ?_)
  refine jn_use (fun (j_37 : Int64 → Option (Int64 × Wd)) => ∀ (x1_37 : Int64), j_37 x1_37 = some (r, w9) → GG p l e { frames := 7, cells := 0, slots := 0, locals := 165 } s m args below meth c 0 0 (MQ below (mQ D cT lo NB w w9 ad (some (.long r))) args s 0 0 (fun q => lo ≤ q)) D cT lo NB 4 ad w 37 [(1, .long x1_37), (0, .ref (ad 1))] []) h (fun x1_37 h H locs ls hP hS hl => ?_) (fun j_37 J_37 h => ?_)
  · refine lv_aload_n hx hb dX11_digest_37 rfl (lv_at hl 1 rfl) ?_
    refine lv_lload_n hx hb dX11_digest_38 rfl (lv_at hl 0 rfl) ?_
    obtain ⟨v_39, w_39, hc_39, h⟩ := bi_s h
    refine x_goes (x_runV (As := [.long x1_37]) (rest := []) F hP hS (c_X11_digestCars l D cT lo w ad x1_37 v_39 w_39 hc_39) cw_X11_digestCars lk_X11_363 vi_X11_digestCars k_1 (n2 (hP.al 1 rfl)) rfl ⟨rfl, rfl, Nat.le_of_ble_eq_true rfl, Nat.le_of_ble_eq_true rfl⟩ hl.1 rfl (Nat.le_of_ble_eq_true rfl) dX11_digest_39 ⟨Nat.zero_le _, Nat.zero_le _⟩) hS (fun H locs hP hS hm => ?_)
    have hM_w := hm
    refine lv_lstore_n (lv' := [(1, .long v_39), (0, .ref (ad 1))]) hx hb dX11_digest_42 rfl hl (Nat.le_of_ble_eq_true rfl) rfl (fun ls hl => ?_)
    refine lv_iconst (v := 0) hx hb dX11_digest_43 ic_0 ?_
    refine lv_istore_n (lv' := [(3, .int (0 : Int32)), (1, .long v_39), (0, .ref (ad 1))]) hx hb dX11_digest_44 rfl hl (Nat.le_of_ble_eq_true rfl) rfl (fun ls hl => ?_)
    refine jn_use (fun (j_78 : Wd → Int64 → Option (Int64 × Wd)) => ∀ (w_78j : Wd) (x1_78 : Int64), mono w_39 w_78j → j_78 w_78j x1_78 = some (r, w9) → GG p l e { frames := 7, cells := 0, slots := 0, locals := 165 } s m args below meth c 0 0 (MQ below (mQ D cT lo NB w w9 ad (some (.long r))) args s 0 0 (fun q => lo ≤ q)) D cT lo NB 4 ad w_78j 78 [(1, .long x1_78), (0, .ref (ad 1))] []) h (fun w_78j x1_78 hm h H locs ls hP hS hl => ?_) (fun j_78 J_78 h => ?_)
    · have hM_w := hM_w.trans hm
      have hM_w_39 := hm
      refine lv_iconst (v := 0) hx hb dX11_digest_78 ic_0 ?_
      refine lv_istore_n (lv' := [(3, .int (0 : Int32)), (1, .long x1_78), (0, .ref (ad 1))]) hx hb dX11_digest_79 rfl hl (Nat.le_of_ble_eq_true rfl) rfl (fun ls hl => ?_)
      refine jn_use (fun (j_113 : Wd → Int64 → Option (Int64 × Wd)) => ∀ (w_113j : Wd) (x1_113 : Int64), mono w_78j w_113j → j_113 w_113j x1_113 = some (r, w9) → GG p l e { frames := 7, cells := 0, slots := 0, locals := 165 } s m args below meth c 0 0 (MQ below (mQ D cT lo NB w w9 ad (some (.long r))) args s 0 0 (fun q => lo ≤ q)) D cT lo NB 4 ad w_113j 113 [(1, .long x1_113), (0, .ref (ad 1))] []) h (fun w_113j x1_113 hm h H locs ls hP hS hl => ?_) (fun j_113 J_113 h => ?_)
      · have hM_w := hM_w.trans hm
        have hM_w_39 := hM_w_39.trans hm
        have hM_w_78j := hm
        refine lv_ldc2 F.1 F.2.1 F.2.2.1 (F.2.2.2.1 _ ct_X11_358) dX11_digest_113 ?_
        refine lv_lload_n hx hb dX11_digest_116 rfl (lv_at hl 0 rfl) ?_
        refine lv_lmul hx hb dX11_digest_117 ?_
        refine lv_aload_n hx hb dX11_digest_118 rfl (lv_at hl 1 rfl) ?_
        refine x_getr F hP k_1 (hP.al 1 rfl) fl_X11_37 rfl r_1_3 dX11_digest_119 ?_
        obtain ⟨v_122, w_122, hc_122, h⟩ := bi_s h
        refine x_goes (x_runV (As := []) (rest := [.long ((31 : Int64) * x1_113)]) F hP hS (c_X7_fewest l D cT lo w_113j ad  v_122 w_122 hc_122) cw_X7_fewest lk_X11_248 vi_X7_fewest k_5 (n2 (hP.al 5 rfl)) rfl ⟨rfl, rfl, Nat.le_of_ble_eq_true rfl, Nat.le_of_ble_eq_true rfl⟩ hl.1 rfl (Nat.le_of_ble_eq_true rfl) dX11_digest_122 ⟨Nat.zero_le _, Nat.zero_le _⟩) hS (fun H locs hP hS hm => ?_)
        have hM_w := hM_w.trans hm
        have hM_w_39 := hM_w_39.trans hm
        have hM_w_78j := hM_w_78j.trans hm
        refine lv_i2l hx hb dX11_digest_125 rfl ?_
        refine lv_ladd hx hb dX11_digest_126 ?_
        exact y_lretM h F hr hP hS hM_w hlk dX11_digest_127
      · have L_80 : ∀ (n_80 : Nat) (w_80l : Wd) (x3_80l : Int32) (x1_80l : Int64), mono w_78j w_80l → l_X11_digest_80 j_113 n_80 w_80l x3_80l x1_80l = some (r, w9) → GG p l e { frames := 7, cells := 0, slots := 0, locals := 165 } s m args below meth c 0 0 (MQ below (mQ D cT lo NB w w9 ad (some (.long r))) args s 0 0 (fun q => lo ≤ q)) D cT lo NB 4 ad w_80l 80 [(3, .int x3_80l), (1, .long x1_80l), (0, .ref (ad 1))] [] := by
          intro n_80
          induction n_80 with
          | zero =>
            intro w_80l x3_80l x1_80l _ h
            exact absurd h (by unfold l_X11_digest_80; exact fun z => by cases z)
          | succ n_80 ih_80 =>
            intro w_80l x3_80l x1_80l hm h H locs ls hP hS hl
            unfold l_X11_digest_80 at h
            have hM_w := hM_w.trans hm
            have hM_w_39 := hM_w_39.trans hm
            have hM_w_78j := hm
            refine lv_iload_n hx hb dX11_digest_80 rfl (lv_at hl 0 rfl) ?_
            refine lv_aload_n hx hb dX11_digest_81 rfl (lv_at hl 2 rfl) ?_
            refine x_getr F hP k_1 (hP.al 1 rfl) fl_X11_51 rfl r_1_5 dX11_digest_82 ?_
            refine y_geti h F hP k_7 (n2 (hP.al 7 rfl)) fl_X11_341 rfl dX11_digest_85 (fun v_85 h => ?_)
            refine lv_icmp_ge (tgt := 113) hx hb dX11_digest_88 (by decide) (fun hc => ?_) (fun hc => ?_)
            · have h := if_t _ hc h
              exact J_113 w_80l x1_80l hM_w_78j h _ _ _ hP hS (lv_sub hl [1, 2] rfl)
            · have h := if_f _ hc h
              refine lv_ldc2 F.1 F.2.1 F.2.2.1 (F.2.2.2.1 _ ct_X11_358) dX11_digest_91 ?_
              refine lv_lload_n hx hb dX11_digest_94 rfl (lv_at hl 1 rfl) ?_
              refine lv_lmul hx hb dX11_digest_95 ?_
              refine lv_aload_n hx hb dX11_digest_96 rfl (lv_at hl 2 rfl) ?_
              refine x_getr F hP k_1 (hP.al 1 rfl) fl_X11_51 rfl r_1_5 dX11_digest_97 ?_
              refine lv_iload_n hx hb dX11_digest_100 rfl (lv_at hl 0 rfl) ?_
              obtain ⟨v_101, w_101, hc_101, h⟩ := bi_s h
              refine x_goes (x_runV (As := [.int x3_80l]) (rest := [.long ((31 : Int64) * x1_80l)]) F hP hS (c_X9_lateOf l D cT lo w_80l ad x3_80l v_101 w_101 hc_101) cw_X9_lateOf lk_X11_279 vi_X9_lateOf k_7 (n2 (hP.al 7 rfl)) rfl ⟨rfl, rfl, Nat.le_of_ble_eq_true rfl, Nat.le_of_ble_eq_true rfl⟩ hl.1 rfl (Nat.le_of_ble_eq_true rfl) dX11_digest_101 ⟨Nat.zero_le _, Nat.zero_le _⟩) hS (fun H locs hP hS hm => ?_)
              have hM_w := hM_w.trans hm
              have hM_w_39 := hM_w_39.trans hm
              have hM_w_78j := hM_w_78j.trans hm
              refine lv_i2l hx hb dX11_digest_104 rfl ?_
              refine lv_ladd hx hb dX11_digest_105 ?_
              refine y_letl h (fun v_106 h => ?_)
              refine lv_lstore_n (lv' := [(1, .long v_106), (3, .int x3_80l), (0, .ref (ad 1))]) hx hb dX11_digest_106 rfl hl (Nat.le_of_ble_eq_true rfl) rfl (fun ls hl => ?_)
              refine y_iinc (lv' := fun (v_107 : Int32) => [(3, .int v_107), (1, .long v_106), (0, .ref (ad 1))]) h F ic_1 dX11_digest_107 hl (kq := 1) rfl (Nat.le_of_ble_eq_true rfl) (fun _ => rfl) (fun v_107 ls hl h => ?_)
              refine lv_goto (tgt := 80) hx hb dX11_digest_110 (by decide) ?_
              exact ih_80 w_101 v_107 v_106 hM_w_78j h _ _ _ hP hS (lv_sub hl [0, 1, 2] rfl)
        exact L_80 FU w_78j (0 : Int32) x1_78 mono.refl h _ _ _ hP hS (lv_sub hl [0, 1, 2] rfl)
    · have L_45 : ∀ (n_45 : Nat) (w_45l : Wd) (x3_45l : Int32) (x1_45l : Int64), mono w_39 w_45l → l_X11_digest_45 j_78 n_45 w_45l x3_45l x1_45l = some (r, w9) → GG p l e { frames := 7, cells := 0, slots := 0, locals := 165 } s m args below meth c 0 0 (MQ below (mQ D cT lo NB w w9 ad (some (.long r))) args s 0 0 (fun q => lo ≤ q)) D cT lo NB 4 ad w_45l 45 [(3, .int x3_45l), (1, .long x1_45l), (0, .ref (ad 1))] [] := by
        intro n_45
        induction n_45 with
        | zero =>
          intro w_45l x3_45l x1_45l _ h
          exact absurd h (by unfold l_X11_digest_45; exact fun z => by cases z)
        | succ n_45 ih_45 =>
          intro w_45l x3_45l x1_45l hm h H locs ls hP hS hl
          unfold l_X11_digest_45 at h
          have hM_w := hM_w.trans hm
          have hM_w_39 := hm
          refine lv_iload_n hx hb dX11_digest_45 rfl (lv_at hl 0 rfl) ?_
          refine lv_aload_n hx hb dX11_digest_46 rfl (lv_at hl 2 rfl) ?_
          refine x_getr F hP k_1 (hP.al 1 rfl) fl_X11_44 rfl r_1_4 dX11_digest_47 ?_
          refine y_geti h F hP k_6 (n2 (hP.al 6 rfl)) fl_X11_340 rfl dX11_digest_50 (fun v_50 h => ?_)
          refine lv_icmp_ge (tgt := 78) hx hb dX11_digest_53 (by decide) (fun hc => ?_) (fun hc => ?_)
          · have h := if_t _ hc h
            exact J_78 w_45l x1_45l hM_w_39 h _ _ _ hP hS (lv_sub hl [1, 2] rfl)
          · have h := if_f _ hc h
            refine lv_ldc2 F.1 F.2.1 F.2.2.1 (F.2.2.2.1 _ ct_X11_358) dX11_digest_56 ?_
            refine lv_lload_n hx hb dX11_digest_59 rfl (lv_at hl 1 rfl) ?_
            refine lv_lmul hx hb dX11_digest_60 ?_
            refine lv_aload_n hx hb dX11_digest_61 rfl (lv_at hl 2 rfl) ?_
            refine x_getr F hP k_1 (hP.al 1 rfl) fl_X11_44 rfl r_1_4 dX11_digest_62 ?_
            refine lv_iload_n hx hb dX11_digest_65 rfl (lv_at hl 0 rfl) ?_
            obtain ⟨v_66, w_66, hc_66, h⟩ := bi_s h
            refine x_goes (x_runV (As := [.int x3_45l]) (rest := [.long ((31 : Int64) * x1_45l)]) F hP hS (c_X2_goneOf l D cT lo w_45l ad x3_45l v_66 w_66 hc_66) cw_X2_goneOf lk_X11_267 vi_X2_goneOf k_6 (n2 (hP.al 6 rfl)) rfl ⟨rfl, rfl, Nat.le_of_ble_eq_true rfl, Nat.le_of_ble_eq_true rfl⟩ hl.1 rfl (Nat.le_of_ble_eq_true rfl) dX11_digest_66 ⟨Nat.zero_le _, Nat.zero_le _⟩) hS (fun H locs hP hS hm => ?_)
            have hM_w := hM_w.trans hm
            have hM_w_39 := hM_w_39.trans hm
            refine lv_i2l hx hb dX11_digest_69 rfl ?_
            refine lv_ladd hx hb dX11_digest_70 ?_
            refine y_letl h (fun v_71 h => ?_)
            refine lv_lstore_n (lv' := [(1, .long v_71), (3, .int x3_45l), (0, .ref (ad 1))]) hx hb dX11_digest_71 rfl hl (Nat.le_of_ble_eq_true rfl) rfl (fun ls hl => ?_)
            refine y_iinc (lv' := fun (v_72 : Int32) => [(3, .int v_72), (1, .long v_71), (0, .ref (ad 1))]) h F ic_1 dX11_digest_72 hl (kq := 1) rfl (Nat.le_of_ble_eq_true rfl) (fun _ => rfl) (fun v_72 ls hl h => ?_)
            refine lv_goto (tgt := 45) hx hb dX11_digest_75 (by decide) ?_
            exact ih_45 w_66 v_72 v_71 hM_w_39 h _ _ _ hP hS (lv_sub hl [0, 1, 2] rfl)
      exact L_45 FU w_39 (0 : Int32) v_39 mono.refl h _ _ _ hP hS (lv_sub hl [0, 1, 2] rfl)
  · have L_6 : ∀ (n_6 : Nat) (x3_6l : Int32) (x1_6l : Int64), l_X11_digest_6 w j_37 n_6 x3_6l x1_6l = some (r, w9) → GG p l e { frames := 7, cells := 0, slots := 0, locals := 165 } s m args below meth c 0 0 (MQ below (mQ D cT lo NB w w9 ad (some (.long r))) args s 0 0 (fun q => lo ≤ q)) D cT lo NB 4 ad w 6 [(3, .int x3_6l), (1, .long x1_6l), (0, .ref (ad 1))] [] := by
      intro n_6
      induction n_6 with
      | zero =>
        intro x3_6l x1_6l h
        exact absurd h (by unfold l_X11_digest_6; exact fun z => by cases z)
      | succ n_6 ih_6 =>
        intro x3_6l x1_6l h H locs ls hP hS hl
        unfold l_X11_digest_6 at h
        refine lv_iload_n hx hb dX11_digest_6 rfl (lv_at hl 0 rfl) ?_
        refine lv_bipush (v := 12) hx hb dX11_digest_7 ib_12 ?_
        refine lv_icmp_gt (tgt := 37) hx hb dX11_digest_9 (by decide) (fun hc => ?_) (fun hc => ?_)
        · have h := if_t _ hc h
          exact J_37 x1_6l h _ _ _ hP hS (lv_sub hl [1, 2] rfl)
        · have h := if_f _ hc h
          refine lv_iload_n hx hb dX11_digest_12 rfl (lv_at hl 0 rfl) ?_
          refine lv_bipush (v := 9) hx hb dX11_digest_13 ib_9 ?_
          refine jn_use (fun (j_31 : Int64 → Option (Int64 × Wd)) => ∀ (x1_31 : Int64), j_31 x1_31 = some (r, w9) → GG p l e { frames := 7, cells := 0, slots := 0, locals := 165 } s m args below meth c 0 0 (MQ below (mQ D cT lo NB w w9 ad (some (.long r))) args s 0 0 (fun q => lo ≤ q)) D cT lo NB 4 ad w 31 [(3, .int x3_6l), (1, .long x1_31), (0, .ref (ad 1))] []) h (fun x1_31 h H locs ls hP hS hl => ?_) (fun j_31 J_31 h => ?_)
          · refine y_iinc (lv' := fun (v_31 : Int32) => [(3, .int v_31), (1, .long x1_31), (0, .ref (ad 1))]) h F ic_1 dX11_digest_31 hl (kq := 0) rfl (Nat.le_of_ble_eq_true rfl) (fun _ => rfl) (fun v_31 ls hl h => ?_)
            refine lv_goto (tgt := 6) hx hb dX11_digest_34 (by decide) ?_
            exact ih_6 v_31 x1_31 h _ _ _ hP hS (lv_sub hl [0, 1, 2] rfl)
          · refine lv_icmp_eq (tgt := 31) hx hb dX11_digest_15 (by decide) (fun hc => ?_) (fun hc => ?_)
            · have h := if_t _ hc h
              exact J_31 x1_6l h _ _ _ hP hS (lv_sub hl [0, 1, 2] rfl)
            · have h := if_f _ hc h
              refine lv_ldc2 F.1 F.2.1 F.2.2.1 (F.2.2.2.1 _ ct_X11_358) dX11_digest_18 ?_
              refine lv_lload_n hx hb dX11_digest_21 rfl (lv_at hl 1 rfl) ?_
              refine lv_lmul hx hb dX11_digest_22 ?_
              refine lv_aload_n hx hb dX11_digest_23 rfl (lv_at hl 2 rfl) ?_
              refine lv_iload_n hx hb dX11_digest_24 rfl (lv_at hl 0 rfl) ?_
              obtain ⟨v_25, hc_25, h⟩ := bo_s h
              refine x_goes (x_runV (As := [.int x3_6l]) (rest := [.long ((31 : Int64) * x1_6l)]) F hP hS (c_X11_count l D cT lo w ad x3_6l v_25 hc_25) cw_X11_count lk_X11_360 vi_X11_count k_1 (n2 (hP.al 1 rfl)) rfl ⟨rfl, rfl, Nat.le_of_ble_eq_true rfl, Nat.le_of_ble_eq_true rfl⟩ hl.1 rfl (Nat.le_of_ble_eq_true rfl) dX11_digest_25 ⟨Nat.zero_le _, Nat.zero_le _⟩) hS (fun H locs hP hS _ => ?_)
              refine lv_i2l hx hb dX11_digest_28 rfl ?_
              refine lv_ladd hx hb dX11_digest_29 ?_
              refine y_letl h (fun v_30 h => ?_)
              refine lv_lstore_n (lv' := [(1, .long v_30), (3, .int x3_6l), (0, .ref (ad 1))]) hx hb dX11_digest_30 rfl hl (Nat.le_of_ble_eq_true rfl) rfl (fun ls hl => ?_)
              exact J_31 v_30 h _ _ _ hP hS (lv_sub hl [1, 0, 2] rfl)
    exact L_6 FU (0 : Int32) (17 : Int64) h _ _ _ hP hS (lv_sub hl [0, 1, 2] rfl)
