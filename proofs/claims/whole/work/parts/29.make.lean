theorem dX1_init_0 : decode cX1_init 0 = .ok (.aload_n 0, 1) := by decide +kernel
theorem dX1_init_1 : decode cX1_init 1 = .ok (.invokespecial 3, 3) := by decide +kernel
theorem dX1_init_4 : decode cX1_init 4 = .ok (.aload_n 0, 1) := by decide +kernel
theorem dX1_init_5 : decode cX1_init 5 = .ok (.iconst 5, 1) := by decide +kernel
theorem dX1_init_6 : decode cX1_init 6 = .ok (.newarray .int, 2) := by decide +kernel
theorem dX1_init_8 : decode cX1_init 8 = .ok (.putfield 11, 3) := by decide +kernel
theorem dX1_init_11 : decode cX1_init 11 = .ok (.aload_n 0, 1) := by decide +kernel
theorem dX1_init_12 : decode cX1_init 12 = .ok (.iconst 5, 1) := by decide +kernel
theorem dX1_init_13 : decode cX1_init 13 = .ok (.newarray .int, 2) := by decide +kernel
theorem dX1_init_15 : decode cX1_init 15 = .ok (.putfield 15, 3) := by decide +kernel
theorem dX1_init_18 : decode cX1_init 18 = .ok (.aload_n 0, 1) := by decide +kernel
theorem dX1_init_19 : decode cX1_init 19 = .ok (.iconst 5, 1) := by decide +kernel
theorem dX1_init_20 : decode cX1_init 20 = .ok (.newarray .int, 2) := by decide +kernel
theorem dX1_init_22 : decode cX1_init 22 = .ok (.putfield 18, 3) := by decide +kernel
theorem dX1_init_25 : decode cX1_init 25 = .ok (.aload_n 0, 1) := by decide +kernel
theorem dX1_init_26 : decode cX1_init 26 = .ok (.iconst 5, 1) := by decide +kernel
theorem dX1_init_27 : decode cX1_init 27 = .ok (.anewarray 21, 3) := by decide +kernel
theorem dX1_init_30 : decode cX1_init 30 = .ok (.putfield 23, 3) := by decide +kernel
theorem dX1_init_33 : decode cX1_init 33 = .ok (.aload_n 0, 1) := by decide +kernel
theorem dX1_init_34 : decode cX1_init 34 = .ok (.iconst 4, 1) := by decide +kernel
theorem dX1_init_35 : decode cX1_init 35 = .ok (.newarray .int, 2) := by decide +kernel
theorem dX1_init_37 : decode cX1_init 37 = .ok (.putfield 27, 3) := by decide +kernel
theorem dX1_init_40 : decode cX1_init 40 = .ok (.aload_n 0, 1) := by decide +kernel
theorem dX1_init_41 : decode cX1_init 41 = .ok (.iconst 4, 1) := by decide +kernel
theorem dX1_init_42 : decode cX1_init 42 = .ok (.newarray .int, 2) := by decide +kernel
theorem dX1_init_44 : decode cX1_init 44 = .ok (.putfield 30, 3) := by decide +kernel
theorem dX1_init_47 : decode cX1_init 47 = .ok (.aload_n 0, 1) := by decide +kernel
theorem dX1_init_48 : decode cX1_init 48 = .ok (.iconst 4, 1) := by decide +kernel
theorem dX1_init_49 : decode cX1_init 49 = .ok (.newarray .int, 2) := by decide +kernel
theorem dX1_init_51 : decode cX1_init 51 = .ok (.putfield 33, 3) := by decide +kernel
theorem dX1_init_54 : decode cX1_init 54 = .ok (.aload_n 0, 1) := by decide +kernel
theorem dX1_init_55 : decode cX1_init 55 = .ok (.iload_n 1, 1) := by decide +kernel
theorem dX1_init_56 : decode cX1_init 56 = .ok (.putfield 36, 3) := by decide +kernel
theorem dX1_init_59 : decode cX1_init 59 = .ok (.aload_n 0, 1) := by decide +kernel
theorem dX1_init_60 : decode cX1_init 60 = .ok (.iload_n 2, 1) := by decide +kernel
theorem dX1_init_61 : decode cX1_init 61 = .ok (.putfield 40, 3) := by decide +kernel
theorem dX1_init_64 : decode cX1_init 64 = .ok (.aload_n 0, 1) := by decide +kernel
theorem dX1_init_65 : decode cX1_init 65 = .ok (.iload_n 3, 1) := by decide +kernel
theorem dX1_init_66 : decode cX1_init 66 = .ok (.putfield 43, 3) := by decide +kernel
theorem dX1_init_69 : decode cX1_init 69 = .ok (.aload_n 0, 1) := by decide +kernel
theorem dX1_init_70 : decode cX1_init 70 = .ok (.iload 4, 2) := by decide +kernel
theorem dX1_init_72 : decode cX1_init 72 = .ok (.putfield 46, 3) := by decide +kernel
theorem dX1_init_75 : decode cX1_init 75 = .ok (.aload_n 0, 1) := by decide +kernel
theorem dX1_init_76 : decode cX1_init 76 = .ok (.getfield 30, 3) := by decide +kernel
theorem dX1_init_79 : decode cX1_init 79 = .ok (.bipush 20, 2) := by decide +kernel
theorem dX1_init_81 : decode cX1_init 81 = .ok (.invokestatic 49, 3) := by decide +kernel
theorem dX1_init_84 : decode cX1_init 84 = .ok (.iconst 0, 1) := by decide +kernel
theorem dX1_init_85 : decode cX1_init 85 = .ok (.istore 5, 2) := by decide +kernel
theorem dX1_init_87 : decode cX1_init 87 = .ok (.iload 5, 2) := by decide +kernel
theorem dX1_init_89 : decode cX1_init 89 = .ok (.iconst 5, 1) := by decide +kernel
theorem dX1_init_90 : decode cX1_init 90 = .ok (.if_icmp .ge 23, 3) := by decide +kernel
theorem dX1_init_93 : decode cX1_init 93 = .ok (.aload_n 0, 1) := by decide +kernel
theorem dX1_init_94 : decode cX1_init 94 = .ok (.getfield 23, 3) := by decide +kernel
theorem dX1_init_97 : decode cX1_init 97 = .ok (.iload 5, 2) := by decide +kernel
theorem dX1_init_99 : decode cX1_init 99 = .ok (.new 21, 3) := by decide +kernel
theorem dX1_init_102 : decode cX1_init 102 = .ok (.dup, 1) := by decide +kernel
theorem dX1_init_103 : decode cX1_init 103 = .ok (.invokespecial 55, 3) := by decide +kernel
theorem dX1_init_106 : decode cX1_init 106 = .ok (.aastore, 1) := by decide +kernel
theorem dX1_init_107 : decode cX1_init 107 = .ok (.iinc 5 1, 3) := by decide +kernel
theorem dX1_init_110 : decode cX1_init 110 = .ok (.goto (-23), 3) := by decide +kernel
theorem dX1_init_113 : decode cX1_init 113 = .ok (.return_, 1) := by decide +kernel
theorem dX2_init_0 : decode cX2_init 0 = .ok (.aload_n 0, 1) := by decide +kernel
theorem dX2_init_1 : decode cX2_init 1 = .ok (.invokespecial 3, 3) := by decide +kernel
theorem dX2_init_4 : decode cX2_init 4 = .ok (.aload_n 0, 1) := by decide +kernel
theorem dX2_init_5 : decode cX2_init 5 = .ok (.bipush 20, 2) := by decide +kernel
theorem dX2_init_7 : decode cX2_init 7 = .ok (.newarray .int, 2) := by decide +kernel
theorem dX2_init_9 : decode cX2_init 9 = .ok (.putfield 11, 3) := by decide +kernel
theorem dX2_init_12 : decode cX2_init 12 = .ok (.aload_n 0, 1) := by decide +kernel
theorem dX2_init_13 : decode cX2_init 13 = .ok (.bipush 20, 2) := by decide +kernel
theorem dX2_init_15 : decode cX2_init 15 = .ok (.newarray .boolean, 2) := by decide +kernel
theorem dX2_init_17 : decode cX2_init 17 = .ok (.putfield 15, 3) := by decide +kernel
theorem dX2_init_20 : decode cX2_init 20 = .ok (.aload_n 0, 1) := by decide +kernel
theorem dX2_init_21 : decode cX2_init 21 = .ok (.iconst 4, 1) := by decide +kernel
theorem dX2_init_22 : decode cX2_init 22 = .ok (.newarray .int, 2) := by decide +kernel
theorem dX2_init_24 : decode cX2_init 24 = .ok (.putfield 19, 3) := by decide +kernel
theorem dX2_init_27 : decode cX2_init 27 = .ok (.aload_n 0, 1) := by decide +kernel
theorem dX2_init_28 : decode cX2_init 28 = .ok (.iconst 4, 1) := by decide +kernel
theorem dX2_init_29 : decode cX2_init 29 = .ok (.newarray .int, 2) := by decide +kernel
theorem dX2_init_31 : decode cX2_init 31 = .ok (.putfield 22, 3) := by decide +kernel
theorem dX2_init_34 : decode cX2_init 34 = .ok (.aload_n 0, 1) := by decide +kernel
theorem dX2_init_35 : decode cX2_init 35 = .ok (.iconst 4, 1) := by decide +kernel
theorem dX2_init_36 : decode cX2_init 36 = .ok (.newarray .int, 2) := by decide +kernel
theorem dX2_init_38 : decode cX2_init 38 = .ok (.putfield 25, 3) := by decide +kernel
theorem dX2_init_41 : decode cX2_init 41 = .ok (.aload_n 0, 1) := by decide +kernel
theorem dX2_init_42 : decode cX2_init 42 = .ok (.iconst 4, 1) := by decide +kernel
theorem dX2_init_43 : decode cX2_init 43 = .ok (.newarray .int, 2) := by decide +kernel
theorem dX2_init_45 : decode cX2_init 45 = .ok (.putfield 28, 3) := by decide +kernel
theorem dX2_init_48 : decode cX2_init 48 = .ok (.aload_n 0, 1) := by decide +kernel
theorem dX2_init_49 : decode cX2_init 49 = .ok (.iconst 4, 1) := by decide +kernel
theorem dX2_init_50 : decode cX2_init 50 = .ok (.newarray .int, 2) := by decide +kernel
theorem dX2_init_52 : decode cX2_init 52 = .ok (.putfield 31, 3) := by decide +kernel
theorem dX2_init_55 : decode cX2_init 55 = .ok (.aload_n 0, 1) := by decide +kernel
theorem dX2_init_56 : decode cX2_init 56 = .ok (.iconst 4, 1) := by decide +kernel
theorem dX2_init_57 : decode cX2_init 57 = .ok (.newarray .int, 2) := by decide +kernel
theorem dX2_init_59 : decode cX2_init 59 = .ok (.putfield 34, 3) := by decide +kernel
theorem dX2_init_62 : decode cX2_init 62 = .ok (.aload_n 0, 1) := by decide +kernel
theorem dX2_init_63 : decode cX2_init 63 = .ok (.iconst 4, 1) := by decide +kernel
theorem dX2_init_64 : decode cX2_init 64 = .ok (.newarray .int, 2) := by decide +kernel
theorem dX2_init_66 : decode cX2_init 66 = .ok (.putfield 37, 3) := by decide +kernel
theorem dX2_init_69 : decode cX2_init 69 = .ok (.aload_n 0, 1) := by decide +kernel
theorem dX2_init_70 : decode cX2_init 70 = .ok (.iconst 4, 1) := by decide +kernel
theorem dX2_init_71 : decode cX2_init 71 = .ok (.newarray .int, 2) := by decide +kernel
theorem dX2_init_73 : decode cX2_init 73 = .ok (.putfield 40, 3) := by decide +kernel
theorem dX2_init_76 : decode cX2_init 76 = .ok (.aload_n 0, 1) := by decide +kernel
theorem dX2_init_77 : decode cX2_init 77 = .ok (.getfield 11, 3) := by decide +kernel
theorem dX2_init_80 : decode cX2_init 80 = .ok (.bipush 10, 2) := by decide +kernel
theorem dX2_init_82 : decode cX2_init 82 = .ok (.invokestatic 43, 3) := by decide +kernel
theorem dX2_init_85 : decode cX2_init 85 = .ok (.return_, 1) := by decide +kernel
theorem dX3_init_0 : decode cX3_init 0 = .ok (.aload_n 0, 1) := by decide +kernel
theorem dX3_init_1 : decode cX3_init 1 = .ok (.invokespecial 3, 3) := by decide +kernel
theorem dX3_init_4 : decode cX3_init 4 = .ok (.aload_n 0, 1) := by decide +kernel
theorem dX3_init_5 : decode cX3_init 5 = .ok (.iconst 4, 1) := by decide +kernel
theorem dX3_init_6 : decode cX3_init 6 = .ok (.anewarray 11, 3) := by decide +kernel
theorem dX3_init_9 : decode cX3_init 9 = .ok (.putfield 13, 3) := by decide +kernel
theorem dX3_init_12 : decode cX3_init 12 = .ok (.aload_n 0, 1) := by decide +kernel
theorem dX3_init_13 : decode cX3_init 13 = .ok (.iconst 4, 1) := by decide +kernel
theorem dX3_init_14 : decode cX3_init 14 = .ok (.putfield 17, 3) := by decide +kernel
theorem dX3_init_17 : decode cX3_init 17 = .ok (.aload_n 0, 1) := by decide +kernel
theorem dX3_init_18 : decode cX3_init 18 = .ok (.iconst 3, 1) := by decide +kernel
theorem dX3_init_19 : decode cX3_init 19 = .ok (.putfield 21, 3) := by decide +kernel
theorem dX3_init_22 : decode cX3_init 22 = .ok (.aload_n 0, 1) := by decide +kernel
theorem dX3_init_23 : decode cX3_init 23 = .ok (.bipush 20, 2) := by decide +kernel
theorem dX3_init_25 : decode cX3_init 25 = .ok (.putfield 24, 3) := by decide +kernel
theorem dX3_init_28 : decode cX3_init 28 = .ok (.aload_n 0, 1) := by decide +kernel
theorem dX3_init_29 : decode cX3_init 29 = .ok (.bipush 12, 2) := by decide +kernel
theorem dX3_init_31 : decode cX3_init 31 = .ok (.putfield 27, 3) := by decide +kernel
theorem dX3_init_34 : decode cX3_init 34 = .ok (.aload_n 0, 1) := by decide +kernel
theorem dX3_init_35 : decode cX3_init 35 = .ok (.new 30, 3) := by decide +kernel
theorem dX3_init_38 : decode cX3_init 38 = .ok (.dup, 1) := by decide +kernel
theorem dX3_init_39 : decode cX3_init 39 = .ok (.invokespecial 32, 3) := by decide +kernel
theorem dX3_init_42 : decode cX3_init 42 = .ok (.putfield 33, 3) := by decide +kernel
theorem dX3_init_45 : decode cX3_init 45 = .ok (.aload_n 0, 1) := by decide +kernel
theorem dX3_init_46 : decode cX3_init 46 = .ok (.aload_n 1, 1) := by decide +kernel
theorem dX3_init_47 : decode cX3_init 47 = .ok (.putfield 37, 3) := by decide +kernel
theorem dX3_init_50 : decode cX3_init 50 = .ok (.return_, 1) := by decide +kernel
theorem dX3_addCar_0 : decode cX3_addCar 0 = .ok (.iload_n 1, 1) := by decide +kernel
theorem dX3_addCar_1 : decode cX3_addCar 1 = .ok (.iconst 2, 1) := by decide +kernel
theorem dX3_addCar_2 : decode cX3_addCar 2 = .ok (.bipush 30, 2) := by decide +kernel
theorem dX3_addCar_4 : decode cX3_addCar 4 = .ok (.invokestatic 44, 3) := by decide +kernel
theorem dX3_addCar_7 : decode cX3_addCar 7 = .ok (.ifCond .eq 35, 3) := by decide +kernel
theorem dX3_addCar_10 : decode cX3_addCar 10 = .ok (.iload_n 2, 1) := by decide +kernel
theorem dX3_addCar_11 : decode cX3_addCar 11 = .ok (.iconst 2, 1) := by decide +kernel
theorem dX3_addCar_12 : decode cX3_addCar 12 = .ok (.bipush 30, 2) := by decide +kernel
theorem dX3_addCar_14 : decode cX3_addCar 14 = .ok (.invokestatic 44, 3) := by decide +kernel
theorem dX3_addCar_17 : decode cX3_addCar 17 = .ok (.ifCond .eq 25, 3) := by decide +kernel
theorem dX3_addCar_20 : decode cX3_addCar 20 = .ok (.iload_n 3, 1) := by decide +kernel
theorem dX3_addCar_21 : decode cX3_addCar 21 = .ok (.iconst 1, 1) := by decide +kernel
theorem dX3_addCar_22 : decode cX3_addCar 22 = .ok (.sipush 999, 3) := by decide +kernel
theorem dX3_addCar_25 : decode cX3_addCar 25 = .ok (.invokestatic 44, 3) := by decide +kernel
theorem dX3_addCar_28 : decode cX3_addCar 28 = .ok (.ifCond .eq 14, 3) := by decide +kernel
theorem dX3_addCar_31 : decode cX3_addCar 31 = .ok (.iload 4, 2) := by decide +kernel
theorem dX3_addCar_33 : decode cX3_addCar 33 = .ok (.iconst 0, 1) := by decide +kernel
theorem dX3_addCar_34 : decode cX3_addCar 34 = .ok (.bipush 20, 2) := by decide +kernel
theorem dX3_addCar_36 : decode cX3_addCar 36 = .ok (.invokestatic 44, 3) := by decide +kernel
theorem dX3_addCar_39 : decode cX3_addCar 39 = .ok (.ifCond .ne 6, 3) := by decide +kernel
theorem dX3_addCar_42 : decode cX3_addCar 42 = .ok (.bipush (-2), 2) := by decide +kernel
theorem dX3_addCar_44 : decode cX3_addCar 44 = .ok (.ireturn, 1) := by decide +kernel
theorem dX3_addCar_45 : decode cX3_addCar 45 = .ok (.aload_n 0, 1) := by decide +kernel
theorem dX3_addCar_46 : decode cX3_addCar 46 = .ok (.getfield 41, 3) := by decide +kernel
theorem dX3_addCar_49 : decode cX3_addCar 49 = .ok (.iconst 4, 1) := by decide +kernel
theorem dX3_addCar_50 : decode cX3_addCar 50 = .ok (.if_icmp .lt 6, 3) := by decide +kernel
theorem dX3_addCar_53 : decode cX3_addCar 53 = .ok (.bipush (-4), 2) := by decide +kernel
theorem dX3_addCar_55 : decode cX3_addCar 55 = .ok (.ireturn, 1) := by decide +kernel
theorem dX3_addCar_56 : decode cX3_addCar 56 = .ok (.aload_n 0, 1) := by decide +kernel
theorem dX3_addCar_57 : decode cX3_addCar 57 = .ok (.getfield 13, 3) := by decide +kernel
theorem dX3_addCar_60 : decode cX3_addCar 60 = .ok (.aload_n 0, 1) := by decide +kernel
theorem dX3_addCar_61 : decode cX3_addCar 61 = .ok (.getfield 41, 3) := by decide +kernel
theorem dX3_addCar_64 : decode cX3_addCar 64 = .ok (.new 11, 3) := by decide +kernel
theorem dX3_addCar_67 : decode cX3_addCar 67 = .ok (.dup, 1) := by decide +kernel
theorem dX3_addCar_68 : decode cX3_addCar 68 = .ok (.iload_n 1, 1) := by decide +kernel
theorem dX3_addCar_69 : decode cX3_addCar 69 = .ok (.iload_n 2, 1) := by decide +kernel
theorem dX3_addCar_70 : decode cX3_addCar 70 = .ok (.iload_n 3, 1) := by decide +kernel
theorem dX3_addCar_71 : decode cX3_addCar 71 = .ok (.iload 4, 2) := by decide +kernel
theorem dX3_addCar_73 : decode cX3_addCar 73 = .ok (.invokespecial 48, 3) := by decide +kernel
theorem dX3_addCar_76 : decode cX3_addCar 76 = .ok (.aastore, 1) := by decide +kernel
theorem dX3_addCar_77 : decode cX3_addCar 77 = .ok (.aload_n 0, 1) := by decide +kernel
theorem dX3_addCar_78 : decode cX3_addCar 78 = .ok (.dup, 1) := by decide +kernel
theorem dX3_addCar_79 : decode cX3_addCar 79 = .ok (.getfield 41, 3) := by decide +kernel
theorem dX3_addCar_82 : decode cX3_addCar 82 = .ok (.dup_x1, 1) := by decide +kernel
theorem dX3_addCar_83 : decode cX3_addCar 83 = .ok (.iconst 1, 1) := by decide +kernel
theorem dX3_addCar_84 : decode cX3_addCar 84 = .ok (.iadd, 1) := by decide +kernel
theorem dX3_addCar_85 : decode cX3_addCar 85 = .ok (.putfield 41, 3) := by decide +kernel
theorem dX3_addCar_88 : decode cX3_addCar 88 = .ok (.ireturn, 1) := by decide +kernel
theorem dX4_init_0 : decode cX4_init 0 = .ok (.aload_n 0, 1) := by decide +kernel
theorem dX4_init_1 : decode cX4_init 1 = .ok (.invokespecial 3, 3) := by decide +kernel
theorem dX4_init_4 : decode cX4_init 4 = .ok (.aload_n 0, 1) := by decide +kernel
theorem dX4_init_5 : decode cX4_init 5 = .ok (.bipush 80, 2) := by decide +kernel
theorem dX4_init_7 : decode cX4_init 7 = .ok (.newarray .int, 2) := by decide +kernel
theorem dX4_init_9 : decode cX4_init 9 = .ok (.putfield 11, 3) := by decide +kernel
theorem dX4_init_12 : decode cX4_init 12 = .ok (.aload_n 0, 1) := by decide +kernel
theorem dX4_init_13 : decode cX4_init 13 = .ok (.aload_n 1, 1) := by decide +kernel
theorem dX4_init_14 : decode cX4_init 14 = .ok (.putfield 15, 3) := by decide +kernel
theorem dX4_init_17 : decode cX4_init 17 = .ok (.aload_n 0, 1) := by decide +kernel
theorem dX4_init_18 : decode cX4_init 18 = .ok (.aload_n 2, 1) := by decide +kernel
theorem dX4_init_19 : decode cX4_init 19 = .ok (.putfield 19, 3) := by decide +kernel
theorem dX4_init_22 : decode cX4_init 22 = .ok (.return_, 1) := by decide +kernel
theorem dX6_init_0 : decode cX6_init 0 = .ok (.aload_n 0, 1) := by decide +kernel
theorem dX6_init_1 : decode cX6_init 1 = .ok (.invokespecial 3, 3) := by decide +kernel
theorem dX6_init_4 : decode cX6_init 4 = .ok (.aload_n 0, 1) := by decide +kernel
theorem dX6_init_5 : decode cX6_init 5 = .ok (.iconst 4, 1) := by decide +kernel
theorem dX6_init_6 : decode cX6_init 6 = .ok (.bipush 60, 2) := by decide +kernel
theorem dX6_init_8 : decode cX6_init 8 = .ok (.multianewarray 11 2, 4) := by decide +kernel
theorem dX6_init_12 : decode cX6_init 12 = .ok (.putfield 13, 3) := by decide +kernel
theorem dX6_init_15 : decode cX6_init 15 = .ok (.aload_n 0, 1) := by decide +kernel
theorem dX6_init_16 : decode cX6_init 16 = .ok (.iconst 4, 1) := by decide +kernel
theorem dX6_init_17 : decode cX6_init 17 = .ok (.newarray .int, 2) := by decide +kernel
theorem dX6_init_19 : decode cX6_init 19 = .ok (.putfield 16, 3) := by decide +kernel
theorem dX6_init_22 : decode cX6_init 22 = .ok (.aload_n 0, 1) := by decide +kernel
theorem dX6_init_23 : decode cX6_init 23 = .ok (.iconst 4, 1) := by decide +kernel
theorem dX6_init_24 : decode cX6_init 24 = .ok (.newarray .int, 2) := by decide +kernel
theorem dX6_init_26 : decode cX6_init 26 = .ok (.putfield 20, 3) := by decide +kernel
theorem dX6_init_29 : decode cX6_init 29 = .ok (.aload_n 0, 1) := by decide +kernel
theorem dX6_init_30 : decode cX6_init 30 = .ok (.getfield 16, 3) := by decide +kernel
theorem dX6_init_33 : decode cX6_init 33 = .ok (.iconst (-1), 1) := by decide +kernel
theorem dX6_init_34 : decode cX6_init 34 = .ok (.invokestatic 23, 3) := by decide +kernel
theorem dX6_init_37 : decode cX6_init 37 = .ok (.return_, 1) := by decide +kernel
theorem dX8_addHouse_0 : decode cX8_addHouse 0 = .ok (.iload_n 1, 1) := by decide +kernel
theorem dX8_addHouse_1 : decode cX8_addHouse 1 = .ok (.iload_n 2, 1) := by decide +kernel
theorem dX8_addHouse_2 : decode cX8_addHouse 2 = .ok (.iload_n 3, 1) := by decide +kernel
theorem dX8_addHouse_3 : decode cX8_addHouse 3 = .ok (.iload 4, 2) := by decide +kernel
theorem dX8_addHouse_5 : decode cX8_addHouse 5 = .ok (.invokestatic 52, 3) := by decide +kernel
theorem dX8_addHouse_8 : decode cX8_addHouse 8 = .ok (.ifCond .eq 36, 3) := by decide +kernel
theorem dX8_addHouse_11 : decode cX8_addHouse 11 = .ok (.iload 5, 2) := by decide +kernel
theorem dX8_addHouse_13 : decode cX8_addHouse 13 = .ok (.iconst 1, 1) := by decide +kernel
theorem dX8_addHouse_14 : decode cX8_addHouse 14 = .ok (.bipush 99, 2) := by decide +kernel
theorem dX8_addHouse_16 : decode cX8_addHouse 16 = .ok (.invokestatic 56, 3) := by decide +kernel
theorem dX8_addHouse_19 : decode cX8_addHouse 19 = .ok (.ifCond .eq 25, 3) := by decide +kernel
theorem dX8_addHouse_22 : decode cX8_addHouse 22 = .ok (.iload 6, 2) := by decide +kernel
theorem dX8_addHouse_24 : decode cX8_addHouse 24 = .ok (.iconst 1, 1) := by decide +kernel
theorem dX8_addHouse_25 : decode cX8_addHouse 25 = .ok (.bipush 99, 2) := by decide +kernel
theorem dX8_addHouse_27 : decode cX8_addHouse 27 = .ok (.invokestatic 56, 3) := by decide +kernel
theorem dX8_addHouse_30 : decode cX8_addHouse 30 = .ok (.ifCond .eq 14, 3) := by decide +kernel
theorem dX8_addHouse_33 : decode cX8_addHouse 33 = .ok (.iload 7, 2) := by decide +kernel
theorem dX8_addHouse_35 : decode cX8_addHouse 35 = .ok (.iconst 0, 1) := by decide +kernel
theorem dX8_addHouse_36 : decode cX8_addHouse 36 = .ok (.bipush 9, 2) := by decide +kernel
theorem dX8_addHouse_38 : decode cX8_addHouse 38 = .ok (.invokestatic 56, 3) := by decide +kernel
theorem dX8_addHouse_41 : decode cX8_addHouse 41 = .ok (.ifCond .ne 6, 3) := by decide +kernel
theorem dX8_addHouse_44 : decode cX8_addHouse 44 = .ok (.bipush (-2), 2) := by decide +kernel
theorem dX8_addHouse_46 : decode cX8_addHouse 46 = .ok (.ireturn, 1) := by decide +kernel
theorem dX8_addHouse_47 : decode cX8_addHouse 47 = .ok (.aload_n 0, 1) := by decide +kernel
theorem dX8_addHouse_48 : decode cX8_addHouse 48 = .ok (.getfield 60, 3) := by decide +kernel
theorem dX8_addHouse_51 : decode cX8_addHouse 51 = .ok (.bipush 20, 2) := by decide +kernel
theorem dX8_addHouse_53 : decode cX8_addHouse 53 = .ok (.if_icmp .lt 6, 3) := by decide +kernel
theorem dX8_addHouse_56 : decode cX8_addHouse 56 = .ok (.bipush (-4), 2) := by decide +kernel
theorem dX8_addHouse_58 : decode cX8_addHouse 58 = .ok (.ireturn, 1) := by decide +kernel
theorem dX8_addHouse_59 : decode cX8_addHouse 59 = .ok (.aload_n 0, 1) := by decide +kernel
theorem dX8_addHouse_60 : decode cX8_addHouse 60 = .ok (.getfield 13, 3) := by decide +kernel
theorem dX8_addHouse_63 : decode cX8_addHouse 63 = .ok (.aload_n 0, 1) := by decide +kernel
theorem dX8_addHouse_64 : decode cX8_addHouse 64 = .ok (.getfield 60, 3) := by decide +kernel
theorem dX8_addHouse_67 : decode cX8_addHouse 67 = .ok (.new 11, 3) := by decide +kernel
theorem dX8_addHouse_70 : decode cX8_addHouse 70 = .ok (.dup, 1) := by decide +kernel
theorem dX8_addHouse_71 : decode cX8_addHouse 71 = .ok (.iload_n 1, 1) := by decide +kernel
theorem dX8_addHouse_72 : decode cX8_addHouse 72 = .ok (.iload_n 2, 1) := by decide +kernel
theorem dX8_addHouse_73 : decode cX8_addHouse 73 = .ok (.iload_n 3, 1) := by decide +kernel
theorem dX8_addHouse_74 : decode cX8_addHouse 74 = .ok (.iload 4, 2) := by decide +kernel
theorem dX8_addHouse_76 : decode cX8_addHouse 76 = .ok (.invokespecial 64, 3) := by decide +kernel
theorem dX8_addHouse_79 : decode cX8_addHouse 79 = .ok (.aastore, 1) := by decide +kernel
theorem dX8_addHouse_80 : decode cX8_addHouse 80 = .ok (.aload_n 0, 1) := by decide +kernel
theorem dX8_addHouse_81 : decode cX8_addHouse 81 = .ok (.getfield 17, 3) := by decide +kernel
theorem dX8_addHouse_84 : decode cX8_addHouse 84 = .ok (.aload_n 0, 1) := by decide +kernel
theorem dX8_addHouse_85 : decode cX8_addHouse 85 = .ok (.getfield 60, 3) := by decide +kernel
theorem dX8_addHouse_88 : decode cX8_addHouse 88 = .ok (.iload 5, 2) := by decide +kernel
theorem dX8_addHouse_90 : decode cX8_addHouse 90 = .ok (.iastore, 1) := by decide +kernel
theorem dX8_addHouse_91 : decode cX8_addHouse 91 = .ok (.aload_n 0, 1) := by decide +kernel
theorem dX8_addHouse_92 : decode cX8_addHouse 92 = .ok (.getfield 21, 3) := by decide +kernel
theorem dX8_addHouse_95 : decode cX8_addHouse 95 = .ok (.aload_n 0, 1) := by decide +kernel
theorem dX8_addHouse_96 : decode cX8_addHouse 96 = .ok (.getfield 60, 3) := by decide +kernel
theorem dX8_addHouse_99 : decode cX8_addHouse 99 = .ok (.iload 6, 2) := by decide +kernel
theorem dX8_addHouse_101 : decode cX8_addHouse 101 = .ok (.iastore, 1) := by decide +kernel
theorem dX8_addHouse_102 : decode cX8_addHouse 102 = .ok (.aload_n 0, 1) := by decide +kernel
theorem dX8_addHouse_103 : decode cX8_addHouse 103 = .ok (.getfield 24, 3) := by decide +kernel
theorem dX8_addHouse_106 : decode cX8_addHouse 106 = .ok (.aload_n 0, 1) := by decide +kernel
theorem dX8_addHouse_107 : decode cX8_addHouse 107 = .ok (.getfield 60, 3) := by decide +kernel
theorem dX8_addHouse_110 : decode cX8_addHouse 110 = .ok (.iload 7, 2) := by decide +kernel
theorem dX8_addHouse_112 : decode cX8_addHouse 112 = .ok (.iastore, 1) := by decide +kernel
theorem dX8_addHouse_113 : decode cX8_addHouse 113 = .ok (.aload_n 0, 1) := by decide +kernel
theorem dX8_addHouse_114 : decode cX8_addHouse 114 = .ok (.dup, 1) := by decide +kernel
theorem dX8_addHouse_115 : decode cX8_addHouse 115 = .ok (.getfield 60, 3) := by decide +kernel
theorem dX8_addHouse_118 : decode cX8_addHouse 118 = .ok (.dup_x1, 1) := by decide +kernel
theorem dX8_addHouse_119 : decode cX8_addHouse 119 = .ok (.iconst 1, 1) := by decide +kernel
theorem dX8_addHouse_120 : decode cX8_addHouse 120 = .ok (.iadd, 1) := by decide +kernel
theorem dX8_addHouse_121 : decode cX8_addHouse 121 = .ok (.putfield 60, 3) := by decide +kernel
theorem dX8_addHouse_124 : decode cX8_addHouse 124 = .ok (.ireturn, 1) := by decide +kernel
theorem dX6_buildHouses_0 : decode cX6_buildHouses 0 = .ok (.iload_n 1, 1) := by decide +kernel
theorem dX6_buildHouses_1 : decode cX6_buildHouses 1 = .ok (.invokestatic 37, 3) := by decide +kernel
theorem dX6_buildHouses_4 : decode cX6_buildHouses 4 = .ok (.ifCond .ne 5, 3) := by decide +kernel
theorem dX6_buildHouses_7 : decode cX6_buildHouses 7 = .ok (.iconst 0, 1) := by decide +kernel
theorem dX6_buildHouses_8 : decode cX6_buildHouses 8 = .ok (.ireturn, 1) := by decide +kernel
theorem dX6_buildHouses_9 : decode cX6_buildHouses 9 = .ok (.iconst 0, 1) := by decide +kernel
theorem dX6_buildHouses_10 : decode cX6_buildHouses 10 = .ok (.istore_n 3, 1) := by decide +kernel
theorem dX6_buildHouses_11 : decode cX6_buildHouses 11 = .ok (.iconst 0, 1) := by decide +kernel
theorem dX6_buildHouses_12 : decode cX6_buildHouses 12 = .ok (.istore 4, 2) := by decide +kernel
theorem dX6_buildHouses_14 : decode cX6_buildHouses 14 = .ok (.iload 4, 2) := by decide +kernel
theorem dX6_buildHouses_16 : decode cX6_buildHouses 16 = .ok (.bipush 7, 2) := by decide +kernel
theorem dX6_buildHouses_18 : decode cX6_buildHouses 18 = .ok (.iadd, 1) := by decide +kernel
theorem dX6_buildHouses_19 : decode cX6_buildHouses 19 = .ok (.aload_n 0, 1) := by decide +kernel
theorem dX6_buildHouses_20 : decode cX6_buildHouses 20 = .ok (.getfield 20, 3) := by decide +kernel
theorem dX6_buildHouses_23 : decode cX6_buildHouses 23 = .ok (.iload_n 1, 1) := by decide +kernel
theorem dX6_buildHouses_24 : decode cX6_buildHouses 24 = .ok (.iaload, 1) := by decide +kernel
theorem dX6_buildHouses_25 : decode cX6_buildHouses 25 = .ok (.if_icmp .gt 91, 3) := by decide +kernel
theorem dX6_buildHouses_28 : decode cX6_buildHouses 28 = .ok (.iload 4, 2) := by decide +kernel
theorem dX6_buildHouses_30 : decode cX6_buildHouses 30 = .ok (.bipush 7, 2) := by decide +kernel
theorem dX6_buildHouses_32 : decode cX6_buildHouses 32 = .ok (.iadd, 1) := by decide +kernel
theorem dX6_buildHouses_33 : decode cX6_buildHouses 33 = .ok (.bipush 60, 2) := by decide +kernel
theorem dX6_buildHouses_35 : decode cX6_buildHouses 35 = .ok (.if_icmp .gt 81, 3) := by decide +kernel
theorem dX6_buildHouses_38 : decode cX6_buildHouses 38 = .ok (.aload_n 0, 1) := by decide +kernel
theorem dX6_buildHouses_39 : decode cX6_buildHouses 39 = .ok (.getfield 13, 3) := by decide +kernel
theorem dX6_buildHouses_42 : decode cX6_buildHouses 42 = .ok (.iload_n 1, 1) := by decide +kernel
theorem dX6_buildHouses_43 : decode cX6_buildHouses 43 = .ok (.aaload, 1) := by decide +kernel
theorem dX6_buildHouses_44 : decode cX6_buildHouses 44 = .ok (.astore 5, 2) := by decide +kernel
theorem dX6_buildHouses_46 : decode cX6_buildHouses 46 = .ok (.aload_n 2, 1) := by decide +kernel
theorem dX6_buildHouses_47 : decode cX6_buildHouses 47 = .ok (.aload 5, 2) := by decide +kernel
theorem dX6_buildHouses_49 : decode cX6_buildHouses 49 = .ok (.iload 4, 2) := by decide +kernel
theorem dX6_buildHouses_51 : decode cX6_buildHouses 51 = .ok (.iaload, 1) := by decide +kernel
theorem dX6_buildHouses_52 : decode cX6_buildHouses 52 = .ok (.aload 5, 2) := by decide +kernel
theorem dX6_buildHouses_54 : decode cX6_buildHouses 54 = .ok (.iload 4, 2) := by decide +kernel
theorem dX6_buildHouses_56 : decode cX6_buildHouses 56 = .ok (.iconst 1, 1) := by decide +kernel
theorem dX6_buildHouses_57 : decode cX6_buildHouses 57 = .ok (.iadd, 1) := by decide +kernel
theorem dX6_buildHouses_58 : decode cX6_buildHouses 58 = .ok (.iaload, 1) := by decide +kernel
theorem dX6_buildHouses_59 : decode cX6_buildHouses 59 = .ok (.aload 5, 2) := by decide +kernel
theorem dX6_buildHouses_61 : decode cX6_buildHouses 61 = .ok (.iload 4, 2) := by decide +kernel
theorem dX6_buildHouses_63 : decode cX6_buildHouses 63 = .ok (.iconst 2, 1) := by decide +kernel
theorem dX6_buildHouses_64 : decode cX6_buildHouses 64 = .ok (.iadd, 1) := by decide +kernel
theorem dX6_buildHouses_65 : decode cX6_buildHouses 65 = .ok (.iaload, 1) := by decide +kernel
theorem dX6_buildHouses_66 : decode cX6_buildHouses 66 = .ok (.aload 5, 2) := by decide +kernel
theorem dX6_buildHouses_68 : decode cX6_buildHouses 68 = .ok (.iload 4, 2) := by decide +kernel
theorem dX6_buildHouses_70 : decode cX6_buildHouses 70 = .ok (.iconst 3, 1) := by decide +kernel
theorem dX6_buildHouses_71 : decode cX6_buildHouses 71 = .ok (.iadd, 1) := by decide +kernel
theorem dX6_buildHouses_72 : decode cX6_buildHouses 72 = .ok (.iaload, 1) := by decide +kernel
theorem dX6_buildHouses_73 : decode cX6_buildHouses 73 = .ok (.aload 5, 2) := by decide +kernel
theorem dX6_buildHouses_75 : decode cX6_buildHouses 75 = .ok (.iload 4, 2) := by decide +kernel
theorem dX6_buildHouses_77 : decode cX6_buildHouses 77 = .ok (.iconst 4, 1) := by decide +kernel
theorem dX6_buildHouses_78 : decode cX6_buildHouses 78 = .ok (.iadd, 1) := by decide +kernel
theorem dX6_buildHouses_79 : decode cX6_buildHouses 79 = .ok (.iaload, 1) := by decide +kernel
theorem dX6_buildHouses_80 : decode cX6_buildHouses 80 = .ok (.aload 5, 2) := by decide +kernel
theorem dX6_buildHouses_82 : decode cX6_buildHouses 82 = .ok (.iload 4, 2) := by decide +kernel
theorem dX6_buildHouses_84 : decode cX6_buildHouses 84 = .ok (.iconst 5, 1) := by decide +kernel
theorem dX6_buildHouses_85 : decode cX6_buildHouses 85 = .ok (.iadd, 1) := by decide +kernel
theorem dX6_buildHouses_86 : decode cX6_buildHouses 86 = .ok (.iaload, 1) := by decide +kernel
theorem dX6_buildHouses_87 : decode cX6_buildHouses 87 = .ok (.aload 5, 2) := by decide +kernel
theorem dX6_buildHouses_89 : decode cX6_buildHouses 89 = .ok (.iload 4, 2) := by decide +kernel
theorem dX6_buildHouses_91 : decode cX6_buildHouses 91 = .ok (.bipush 6, 2) := by decide +kernel
theorem dX6_buildHouses_93 : decode cX6_buildHouses 93 = .ok (.iadd, 1) := by decide +kernel
theorem dX6_buildHouses_94 : decode cX6_buildHouses 94 = .ok (.iaload, 1) := by decide +kernel
theorem dX6_buildHouses_95 : decode cX6_buildHouses 95 = .ok (.invokevirtual 69, 3) := by decide +kernel
theorem dX6_buildHouses_98 : decode cX6_buildHouses 98 = .ok (.istore 6, 2) := by decide +kernel
theorem dX6_buildHouses_100 : decode cX6_buildHouses 100 = .ok (.iload 6, 2) := by decide +kernel
theorem dX6_buildHouses_102 : decode cX6_buildHouses 102 = .ok (.ifCond .ge 5, 3) := by decide +kernel
theorem dX6_buildHouses_105 : decode cX6_buildHouses 105 = .ok (.iload_n 3, 1) := by decide +kernel
theorem dX6_buildHouses_106 : decode cX6_buildHouses 106 = .ok (.ireturn, 1) := by decide +kernel
theorem dX6_buildHouses_107 : decode cX6_buildHouses 107 = .ok (.iinc 3 1, 3) := by decide +kernel
theorem dX6_buildHouses_110 : decode cX6_buildHouses 110 = .ok (.iinc 4 7, 3) := by decide +kernel
theorem dX6_buildHouses_113 : decode cX6_buildHouses 113 = .ok (.goto (-99), 3) := by decide +kernel
theorem dX6_buildHouses_116 : decode cX6_buildHouses 116 = .ok (.iload_n 3, 1) := by decide +kernel
theorem dX6_buildHouses_117 : decode cX6_buildHouses 117 = .ok (.ireturn, 1) := by decide +kernel
theorem dX7_init_0 : decode cX7_init 0 = .ok (.aload_n 0, 1) := by decide +kernel
theorem dX7_init_1 : decode cX7_init 1 = .ok (.invokespecial 3, 3) := by decide +kernel
theorem dX7_init_4 : decode cX7_init 4 = .ok (.aload_n 0, 1) := by decide +kernel
theorem dX7_init_5 : decode cX7_init 5 = .ok (.iconst 4, 1) := by decide +kernel
theorem dX7_init_6 : decode cX7_init 6 = .ok (.newarray .int, 2) := by decide +kernel
theorem dX7_init_8 : decode cX7_init 8 = .ok (.putfield 11, 3) := by decide +kernel
theorem dX7_init_11 : decode cX7_init 11 = .ok (.aload_n 0, 1) := by decide +kernel
theorem dX7_init_12 : decode cX7_init 12 = .ok (.bipush 6, 2) := by decide +kernel
theorem dX7_init_14 : decode cX7_init 14 = .ok (.newarray .int, 2) := by decide +kernel
theorem dX7_init_16 : decode cX7_init 16 = .ok (.putfield 15, 3) := by decide +kernel
theorem dX7_init_19 : decode cX7_init 19 = .ok (.aload_n 0, 1) := by decide +kernel
theorem dX7_init_20 : decode cX7_init 20 = .ok (.iconst 2, 1) := by decide +kernel
theorem dX7_init_21 : decode cX7_init 21 = .ok (.putfield 18, 3) := by decide +kernel
theorem dX7_init_24 : decode cX7_init 24 = .ok (.aload_n 0, 1) := by decide +kernel
theorem dX7_init_25 : decode cX7_init 25 = .ok (.bipush 7, 2) := by decide +kernel
theorem dX7_init_27 : decode cX7_init 27 = .ok (.sipush 256, 3) := by decide +kernel
theorem dX7_init_30 : decode cX7_init 30 = .ok (.multianewarray 22 2, 4) := by decide +kernel
theorem dX7_init_34 : decode cX7_init 34 = .ok (.putfield 24, 3) := by decide +kernel
theorem dX7_init_37 : decode cX7_init 37 = .ok (.aload_n 0, 1) := by decide +kernel
theorem dX7_init_38 : decode cX7_init 38 = .ok (.bipush 6, 2) := by decide +kernel
theorem dX7_init_40 : decode cX7_init 40 = .ok (.newarray .int, 2) := by decide +kernel
theorem dX7_init_42 : decode cX7_init 42 = .ok (.putfield 27, 3) := by decide +kernel
theorem dX7_init_45 : decode cX7_init 45 = .ok (.return_, 1) := by decide +kernel
theorem dX8_init_0 : decode cX8_init 0 = .ok (.aload_n 0, 1) := by decide +kernel
theorem dX8_init_1 : decode cX8_init 1 = .ok (.invokespecial 3, 3) := by decide +kernel
theorem dX8_init_4 : decode cX8_init 4 = .ok (.aload_n 0, 1) := by decide +kernel
theorem dX8_init_5 : decode cX8_init 5 = .ok (.bipush 20, 2) := by decide +kernel
theorem dX8_init_7 : decode cX8_init 7 = .ok (.anewarray 11, 3) := by decide +kernel
theorem dX8_init_10 : decode cX8_init 10 = .ok (.putfield 13, 3) := by decide +kernel
theorem dX8_init_13 : decode cX8_init 13 = .ok (.aload_n 0, 1) := by decide +kernel
theorem dX8_init_14 : decode cX8_init 14 = .ok (.bipush 20, 2) := by decide +kernel
theorem dX8_init_16 : decode cX8_init 16 = .ok (.newarray .int, 2) := by decide +kernel
theorem dX8_init_18 : decode cX8_init 18 = .ok (.putfield 17, 3) := by decide +kernel
theorem dX8_init_21 : decode cX8_init 21 = .ok (.aload_n 0, 1) := by decide +kernel
theorem dX8_init_22 : decode cX8_init 22 = .ok (.bipush 20, 2) := by decide +kernel
theorem dX8_init_24 : decode cX8_init 24 = .ok (.newarray .int, 2) := by decide +kernel
theorem dX8_init_26 : decode cX8_init 26 = .ok (.putfield 21, 3) := by decide +kernel
theorem dX8_init_29 : decode cX8_init 29 = .ok (.aload_n 0, 1) := by decide +kernel
theorem dX8_init_30 : decode cX8_init 30 = .ok (.bipush 20, 2) := by decide +kernel
theorem dX8_init_32 : decode cX8_init 32 = .ok (.newarray .int, 2) := by decide +kernel
theorem dX8_init_34 : decode cX8_init 34 = .ok (.putfield 24, 3) := by decide +kernel
theorem dX8_init_37 : decode cX8_init 37 = .ok (.aload_n 0, 1) := by decide +kernel
theorem dX8_init_38 : decode cX8_init 38 = .ok (.bipush 10, 2) := by decide +kernel
theorem dX8_init_40 : decode cX8_init 40 = .ok (.anewarray 11, 3) := by decide +kernel
theorem dX8_init_43 : decode cX8_init 43 = .ok (.putfield 27, 3) := by decide +kernel
theorem dX8_init_46 : decode cX8_init 46 = .ok (.aload_n 0, 1) := by decide +kernel
theorem dX8_init_47 : decode cX8_init 47 = .ok (.bipush 10, 2) := by decide +kernel
theorem dX8_init_49 : decode cX8_init 49 = .ok (.anewarray 11, 3) := by decide +kernel
theorem dX8_init_52 : decode cX8_init 52 = .ok (.putfield 30, 3) := by decide +kernel
theorem dX8_init_55 : decode cX8_init 55 = .ok (.aload_n 0, 1) := by decide +kernel
theorem dX8_init_56 : decode cX8_init 56 = .ok (.bipush 10, 2) := by decide +kernel
theorem dX8_init_58 : decode cX8_init 58 = .ok (.newarray .int, 2) := by decide +kernel
theorem dX8_init_60 : decode cX8_init 60 = .ok (.putfield 33, 3) := by decide +kernel
theorem dX8_init_63 : decode cX8_init 63 = .ok (.aload_n 0, 1) := by decide +kernel
theorem dX8_init_64 : decode cX8_init 64 = .ok (.bipush 10, 2) := by decide +kernel
theorem dX8_init_66 : decode cX8_init 66 = .ok (.newarray .boolean, 2) := by decide +kernel
theorem dX8_init_68 : decode cX8_init 68 = .ok (.putfield 36, 3) := by decide +kernel
theorem dX8_init_71 : decode cX8_init 71 = .ok (.aload_n 0, 1) := by decide +kernel
theorem dX8_init_72 : decode cX8_init 72 = .ok (.bipush 10, 2) := by decide +kernel
theorem dX8_init_74 : decode cX8_init 74 = .ok (.anewarray 11, 3) := by decide +kernel
theorem dX8_init_77 : decode cX8_init 77 = .ok (.putfield 40, 3) := by decide +kernel
theorem dX8_init_80 : decode cX8_init 80 = .ok (.aload_n 0, 1) := by decide +kernel
theorem dX8_init_81 : decode cX8_init 81 = .ok (.bipush 10, 2) := by decide +kernel
theorem dX8_init_83 : decode cX8_init 83 = .ok (.newarray .int, 2) := by decide +kernel
theorem dX8_init_85 : decode cX8_init 85 = .ok (.putfield 43, 3) := by decide +kernel
theorem dX8_init_88 : decode cX8_init 88 = .ok (.aload_n 0, 1) := by decide +kernel
theorem dX8_init_89 : decode cX8_init 89 = .ok (.bipush 10, 2) := by decide +kernel
theorem dX8_init_91 : decode cX8_init 91 = .ok (.newarray .int, 2) := by decide +kernel
theorem dX8_init_93 : decode cX8_init 93 = .ok (.putfield 46, 3) := by decide +kernel
theorem dX8_init_96 : decode cX8_init 96 = .ok (.aload_n 0, 1) := by decide +kernel
theorem dX8_init_97 : decode cX8_init 97 = .ok (.bipush 10, 2) := by decide +kernel
theorem dX8_init_99 : decode cX8_init 99 = .ok (.newarray .boolean, 2) := by decide +kernel
theorem dX8_init_101 : decode cX8_init 101 = .ok (.putfield 49, 3) := by decide +kernel
theorem dX8_init_104 : decode cX8_init 104 = .ok (.return_, 1) := by decide +kernel
theorem dX8_addKerb_0 : decode cX8_addKerb 0 = .ok (.iload_n 1, 1) := by decide +kernel
theorem dX8_addKerb_1 : decode cX8_addKerb 1 = .ok (.iload_n 2, 1) := by decide +kernel
theorem dX8_addKerb_2 : decode cX8_addKerb 2 = .ok (.iload_n 3, 1) := by decide +kernel
theorem dX8_addKerb_3 : decode cX8_addKerb 3 = .ok (.iload 4, 2) := by decide +kernel
theorem dX8_addKerb_5 : decode cX8_addKerb 5 = .ok (.invokestatic 52, 3) := by decide +kernel
theorem dX8_addKerb_8 : decode cX8_addKerb 8 = .ok (.ifCond .ne 6, 3) := by decide +kernel
theorem dX8_addKerb_11 : decode cX8_addKerb 11 = .ok (.bipush (-2), 2) := by decide +kernel
theorem dX8_addKerb_13 : decode cX8_addKerb 13 = .ok (.ireturn, 1) := by decide +kernel
theorem dX8_addKerb_14 : decode cX8_addKerb 14 = .ok (.aload_n 0, 1) := by decide +kernel
theorem dX8_addKerb_15 : decode cX8_addKerb 15 = .ok (.getfield 67, 3) := by decide +kernel
theorem dX8_addKerb_18 : decode cX8_addKerb 18 = .ok (.bipush 10, 2) := by decide +kernel
theorem dX8_addKerb_20 : decode cX8_addKerb 20 = .ok (.if_icmp .lt 6, 3) := by decide +kernel
theorem dX8_addKerb_23 : decode cX8_addKerb 23 = .ok (.bipush (-4), 2) := by decide +kernel
theorem dX8_addKerb_25 : decode cX8_addKerb 25 = .ok (.ireturn, 1) := by decide +kernel
theorem dX8_addKerb_26 : decode cX8_addKerb 26 = .ok (.aload_n 0, 1) := by decide +kernel
theorem dX8_addKerb_27 : decode cX8_addKerb 27 = .ok (.getfield 27, 3) := by decide +kernel
theorem dX8_addKerb_30 : decode cX8_addKerb 30 = .ok (.aload_n 0, 1) := by decide +kernel
theorem dX8_addKerb_31 : decode cX8_addKerb 31 = .ok (.getfield 67, 3) := by decide +kernel
theorem dX8_addKerb_34 : decode cX8_addKerb 34 = .ok (.new 11, 3) := by decide +kernel
theorem dX8_addKerb_37 : decode cX8_addKerb 37 = .ok (.dup, 1) := by decide +kernel
theorem dX8_addKerb_38 : decode cX8_addKerb 38 = .ok (.iload_n 1, 1) := by decide +kernel
theorem dX8_addKerb_39 : decode cX8_addKerb 39 = .ok (.iload_n 2, 1) := by decide +kernel
theorem dX8_addKerb_40 : decode cX8_addKerb 40 = .ok (.iload_n 3, 1) := by decide +kernel
theorem dX8_addKerb_41 : decode cX8_addKerb 41 = .ok (.iload 4, 2) := by decide +kernel
theorem dX8_addKerb_43 : decode cX8_addKerb 43 = .ok (.invokespecial 64, 3) := by decide +kernel
theorem dX8_addKerb_46 : decode cX8_addKerb 46 = .ok (.aastore, 1) := by decide +kernel
theorem dX8_addKerb_47 : decode cX8_addKerb 47 = .ok (.aload_n 0, 1) := by decide +kernel
theorem dX8_addKerb_48 : decode cX8_addKerb 48 = .ok (.dup, 1) := by decide +kernel
theorem dX8_addKerb_49 : decode cX8_addKerb 49 = .ok (.getfield 67, 3) := by decide +kernel
theorem dX8_addKerb_52 : decode cX8_addKerb 52 = .ok (.dup_x1, 1) := by decide +kernel
theorem dX8_addKerb_53 : decode cX8_addKerb 53 = .ok (.iconst 1, 1) := by decide +kernel
theorem dX8_addKerb_54 : decode cX8_addKerb 54 = .ok (.iadd, 1) := by decide +kernel
theorem dX8_addKerb_55 : decode cX8_addKerb 55 = .ok (.putfield 67, 3) := by decide +kernel
theorem dX8_addKerb_58 : decode cX8_addKerb 58 = .ok (.ireturn, 1) := by decide +kernel
theorem dX8_addWire_0 : decode cX8_addWire 0 = .ok (.iload_n 1, 1) := by decide +kernel
theorem dX8_addWire_1 : decode cX8_addWire 1 = .ok (.iload_n 2, 1) := by decide +kernel
theorem dX8_addWire_2 : decode cX8_addWire 2 = .ok (.iload_n 3, 1) := by decide +kernel
theorem dX8_addWire_3 : decode cX8_addWire 3 = .ok (.iload 4, 2) := by decide +kernel
theorem dX8_addWire_5 : decode cX8_addWire 5 = .ok (.invokestatic 52, 3) := by decide +kernel
theorem dX8_addWire_8 : decode cX8_addWire 8 = .ok (.ifCond .eq 14, 3) := by decide +kernel
theorem dX8_addWire_11 : decode cX8_addWire 11 = .ok (.iload 5, 2) := by decide +kernel
theorem dX8_addWire_13 : decode cX8_addWire 13 = .ok (.iconst 1, 1) := by decide +kernel
theorem dX8_addWire_14 : decode cX8_addWire 14 = .ok (.bipush 99, 2) := by decide +kernel
theorem dX8_addWire_16 : decode cX8_addWire 16 = .ok (.invokestatic 56, 3) := by decide +kernel
theorem dX8_addWire_19 : decode cX8_addWire 19 = .ok (.ifCond .ne 6, 3) := by decide +kernel
theorem dX8_addWire_22 : decode cX8_addWire 22 = .ok (.bipush (-2), 2) := by decide +kernel
theorem dX8_addWire_24 : decode cX8_addWire 24 = .ok (.ireturn, 1) := by decide +kernel
theorem dX8_addWire_25 : decode cX8_addWire 25 = .ok (.aload_n 0, 1) := by decide +kernel
theorem dX8_addWire_26 : decode cX8_addWire 26 = .ok (.getfield 70, 3) := by decide +kernel
theorem dX8_addWire_29 : decode cX8_addWire 29 = .ok (.bipush 10, 2) := by decide +kernel
theorem dX8_addWire_31 : decode cX8_addWire 31 = .ok (.if_icmp .lt 6, 3) := by decide +kernel
theorem dX8_addWire_34 : decode cX8_addWire 34 = .ok (.bipush (-4), 2) := by decide +kernel
theorem dX8_addWire_36 : decode cX8_addWire 36 = .ok (.ireturn, 1) := by decide +kernel
theorem dX8_addWire_37 : decode cX8_addWire 37 = .ok (.aload_n 0, 1) := by decide +kernel
theorem dX8_addWire_38 : decode cX8_addWire 38 = .ok (.getfield 30, 3) := by decide +kernel
theorem dX8_addWire_41 : decode cX8_addWire 41 = .ok (.aload_n 0, 1) := by decide +kernel
theorem dX8_addWire_42 : decode cX8_addWire 42 = .ok (.getfield 70, 3) := by decide +kernel
theorem dX8_addWire_45 : decode cX8_addWire 45 = .ok (.new 11, 3) := by decide +kernel
theorem dX8_addWire_48 : decode cX8_addWire 48 = .ok (.dup, 1) := by decide +kernel
theorem dX8_addWire_49 : decode cX8_addWire 49 = .ok (.iload_n 1, 1) := by decide +kernel
theorem dX8_addWire_50 : decode cX8_addWire 50 = .ok (.iload_n 2, 1) := by decide +kernel
theorem dX8_addWire_51 : decode cX8_addWire 51 = .ok (.iload_n 3, 1) := by decide +kernel
theorem dX8_addWire_52 : decode cX8_addWire 52 = .ok (.iload 4, 2) := by decide +kernel
theorem dX8_addWire_54 : decode cX8_addWire 54 = .ok (.invokespecial 64, 3) := by decide +kernel
theorem dX8_addWire_57 : decode cX8_addWire 57 = .ok (.aastore, 1) := by decide +kernel
theorem dX8_addWire_58 : decode cX8_addWire 58 = .ok (.aload_n 0, 1) := by decide +kernel
theorem dX8_addWire_59 : decode cX8_addWire 59 = .ok (.getfield 33, 3) := by decide +kernel
theorem dX8_addWire_62 : decode cX8_addWire 62 = .ok (.aload_n 0, 1) := by decide +kernel
theorem dX8_addWire_63 : decode cX8_addWire 63 = .ok (.getfield 70, 3) := by decide +kernel
theorem dX8_addWire_66 : decode cX8_addWire 66 = .ok (.iload 5, 2) := by decide +kernel
theorem dX8_addWire_68 : decode cX8_addWire 68 = .ok (.iastore, 1) := by decide +kernel
theorem dX8_addWire_69 : decode cX8_addWire 69 = .ok (.aload_n 0, 1) := by decide +kernel
theorem dX8_addWire_70 : decode cX8_addWire 70 = .ok (.dup, 1) := by decide +kernel
theorem dX8_addWire_71 : decode cX8_addWire 71 = .ok (.getfield 70, 3) := by decide +kernel
theorem dX8_addWire_74 : decode cX8_addWire 74 = .ok (.dup_x1, 1) := by decide +kernel
theorem dX8_addWire_75 : decode cX8_addWire 75 = .ok (.iconst 1, 1) := by decide +kernel
theorem dX8_addWire_76 : decode cX8_addWire 76 = .ok (.iadd, 1) := by decide +kernel
theorem dX8_addWire_77 : decode cX8_addWire 77 = .ok (.putfield 70, 3) := by decide +kernel
theorem dX8_addWire_80 : decode cX8_addWire 80 = .ok (.ireturn, 1) := by decide +kernel
theorem dX8_addSlope_0 : decode cX8_addSlope 0 = .ok (.iload_n 1, 1) := by decide +kernel
theorem dX8_addSlope_1 : decode cX8_addSlope 1 = .ok (.iload_n 2, 1) := by decide +kernel
theorem dX8_addSlope_2 : decode cX8_addSlope 2 = .ok (.iload_n 3, 1) := by decide +kernel
theorem dX8_addSlope_3 : decode cX8_addSlope 3 = .ok (.iload 4, 2) := by decide +kernel
theorem dX8_addSlope_5 : decode cX8_addSlope 5 = .ok (.invokestatic 52, 3) := by decide +kernel
theorem dX8_addSlope_8 : decode cX8_addSlope 8 = .ok (.ifCond .eq 31, 3) := by decide +kernel
theorem dX8_addSlope_11 : decode cX8_addSlope 11 = .ok (.iload 5, 2) := by decide +kernel
theorem dX8_addSlope_13 : decode cX8_addSlope 13 = .ok (.sipush (-200), 3) := by decide +kernel
theorem dX8_addSlope_16 : decode cX8_addSlope 16 = .ok (.sipush 200, 3) := by decide +kernel
theorem dX8_addSlope_19 : decode cX8_addSlope 19 = .ok (.invokestatic 56, 3) := by decide +kernel
theorem dX8_addSlope_22 : decode cX8_addSlope 22 = .ok (.ifCond .eq 17, 3) := by decide +kernel
theorem dX8_addSlope_25 : decode cX8_addSlope 25 = .ok (.iload 6, 2) := by decide +kernel
theorem dX8_addSlope_27 : decode cX8_addSlope 27 = .ok (.sipush (-200), 3) := by decide +kernel
theorem dX8_addSlope_30 : decode cX8_addSlope 30 = .ok (.sipush 200, 3) := by decide +kernel
theorem dX8_addSlope_33 : decode cX8_addSlope 33 = .ok (.invokestatic 56, 3) := by decide +kernel
theorem dX8_addSlope_36 : decode cX8_addSlope 36 = .ok (.ifCond .ne 6, 3) := by decide +kernel
theorem dX8_addSlope_39 : decode cX8_addSlope 39 = .ok (.bipush (-2), 2) := by decide +kernel
theorem dX8_addSlope_41 : decode cX8_addSlope 41 = .ok (.ireturn, 1) := by decide +kernel
theorem dX8_addSlope_42 : decode cX8_addSlope 42 = .ok (.aload_n 0, 1) := by decide +kernel
theorem dX8_addSlope_43 : decode cX8_addSlope 43 = .ok (.getfield 73, 3) := by decide +kernel
theorem dX8_addSlope_46 : decode cX8_addSlope 46 = .ok (.bipush 10, 2) := by decide +kernel
theorem dX8_addSlope_48 : decode cX8_addSlope 48 = .ok (.if_icmp .lt 6, 3) := by decide +kernel
theorem dX8_addSlope_51 : decode cX8_addSlope 51 = .ok (.bipush (-4), 2) := by decide +kernel
theorem dX8_addSlope_53 : decode cX8_addSlope 53 = .ok (.ireturn, 1) := by decide +kernel
theorem dX8_addSlope_54 : decode cX8_addSlope 54 = .ok (.aload_n 0, 1) := by decide +kernel
theorem dX8_addSlope_55 : decode cX8_addSlope 55 = .ok (.getfield 40, 3) := by decide +kernel
theorem dX8_addSlope_58 : decode cX8_addSlope 58 = .ok (.aload_n 0, 1) := by decide +kernel
theorem dX8_addSlope_59 : decode cX8_addSlope 59 = .ok (.getfield 73, 3) := by decide +kernel
theorem dX8_addSlope_62 : decode cX8_addSlope 62 = .ok (.new 11, 3) := by decide +kernel
theorem dX8_addSlope_65 : decode cX8_addSlope 65 = .ok (.dup, 1) := by decide +kernel
theorem dX8_addSlope_66 : decode cX8_addSlope 66 = .ok (.iload_n 1, 1) := by decide +kernel
theorem dX8_addSlope_67 : decode cX8_addSlope 67 = .ok (.iload_n 2, 1) := by decide +kernel
theorem dX8_addSlope_68 : decode cX8_addSlope 68 = .ok (.iload_n 3, 1) := by decide +kernel
theorem dX8_addSlope_69 : decode cX8_addSlope 69 = .ok (.iload 4, 2) := by decide +kernel
theorem dX8_addSlope_71 : decode cX8_addSlope 71 = .ok (.invokespecial 64, 3) := by decide +kernel
theorem dX8_addSlope_74 : decode cX8_addSlope 74 = .ok (.aastore, 1) := by decide +kernel
theorem dX8_addSlope_75 : decode cX8_addSlope 75 = .ok (.aload_n 0, 1) := by decide +kernel
theorem dX8_addSlope_76 : decode cX8_addSlope 76 = .ok (.getfield 43, 3) := by decide +kernel
theorem dX8_addSlope_79 : decode cX8_addSlope 79 = .ok (.aload_n 0, 1) := by decide +kernel
theorem dX8_addSlope_80 : decode cX8_addSlope 80 = .ok (.getfield 73, 3) := by decide +kernel
theorem dX8_addSlope_83 : decode cX8_addSlope 83 = .ok (.iload 5, 2) := by decide +kernel
theorem dX8_addSlope_85 : decode cX8_addSlope 85 = .ok (.iastore, 1) := by decide +kernel
theorem dX8_addSlope_86 : decode cX8_addSlope 86 = .ok (.aload_n 0, 1) := by decide +kernel
theorem dX8_addSlope_87 : decode cX8_addSlope 87 = .ok (.getfield 46, 3) := by decide +kernel
theorem dX8_addSlope_90 : decode cX8_addSlope 90 = .ok (.aload_n 0, 1) := by decide +kernel
theorem dX8_addSlope_91 : decode cX8_addSlope 91 = .ok (.getfield 73, 3) := by decide +kernel
theorem dX8_addSlope_94 : decode cX8_addSlope 94 = .ok (.iload 6, 2) := by decide +kernel
theorem dX8_addSlope_96 : decode cX8_addSlope 96 = .ok (.iastore, 1) := by decide +kernel
theorem dX8_addSlope_97 : decode cX8_addSlope 97 = .ok (.aload_n 0, 1) := by decide +kernel
theorem dX8_addSlope_98 : decode cX8_addSlope 98 = .ok (.getfield 49, 3) := by decide +kernel
theorem dX8_addSlope_101 : decode cX8_addSlope 101 = .ok (.aload_n 0, 1) := by decide +kernel
theorem dX8_addSlope_102 : decode cX8_addSlope 102 = .ok (.getfield 73, 3) := by decide +kernel
theorem dX8_addSlope_105 : decode cX8_addSlope 105 = .ok (.iload 7, 2) := by decide +kernel
theorem dX8_addSlope_107 : decode cX8_addSlope 107 = .ok (.bastore, 1) := by decide +kernel
theorem dX8_addSlope_108 : decode cX8_addSlope 108 = .ok (.aload_n 0, 1) := by decide +kernel
theorem dX8_addSlope_109 : decode cX8_addSlope 109 = .ok (.dup, 1) := by decide +kernel
theorem dX8_addSlope_110 : decode cX8_addSlope 110 = .ok (.getfield 73, 3) := by decide +kernel
theorem dX8_addSlope_113 : decode cX8_addSlope 113 = .ok (.dup_x1, 1) := by decide +kernel
theorem dX8_addSlope_114 : decode cX8_addSlope 114 = .ok (.iconst 1, 1) := by decide +kernel
theorem dX8_addSlope_115 : decode cX8_addSlope 115 = .ok (.iadd, 1) := by decide +kernel
theorem dX8_addSlope_116 : decode cX8_addSlope 116 = .ok (.putfield 73, 3) := by decide +kernel
theorem dX8_addSlope_119 : decode cX8_addSlope 119 = .ok (.ireturn, 1) := by decide +kernel
theorem dX9_init_0 : decode cX9_init 0 = .ok (.aload_n 0, 1) := by decide +kernel
theorem dX9_init_1 : decode cX9_init 1 = .ok (.invokespecial 3, 3) := by decide +kernel
theorem dX9_init_4 : decode cX9_init 4 = .ok (.aload_n 0, 1) := by decide +kernel
theorem dX9_init_5 : decode cX9_init 5 = .ok (.bipush 12, 2) := by decide +kernel
theorem dX9_init_7 : decode cX9_init 7 = .ok (.newarray .int, 2) := by decide +kernel
theorem dX9_init_9 : decode cX9_init 9 = .ok (.putfield 11, 3) := by decide +kernel
theorem dX9_init_12 : decode cX9_init 12 = .ok (.aload_n 0, 1) := by decide +kernel
theorem dX9_init_13 : decode cX9_init 13 = .ok (.bipush 12, 2) := by decide +kernel
theorem dX9_init_15 : decode cX9_init 15 = .ok (.newarray .int, 2) := by decide +kernel
theorem dX9_init_17 : decode cX9_init 17 = .ok (.putfield 15, 3) := by decide +kernel
theorem dX9_init_20 : decode cX9_init 20 = .ok (.aload_n 0, 1) := by decide +kernel
theorem dX9_init_21 : decode cX9_init 21 = .ok (.iconst 1, 1) := by decide +kernel
theorem dX9_init_22 : decode cX9_init 22 = .ok (.putfield 18, 3) := by decide +kernel
theorem dX9_init_25 : decode cX9_init 25 = .ok (.aload_n 0, 1) := by decide +kernel
theorem dX9_init_26 : decode cX9_init 26 = .ok (.bipush 12, 2) := by decide +kernel
theorem dX9_init_28 : decode cX9_init 28 = .ok (.newarray .int, 2) := by decide +kernel
theorem dX9_init_30 : decode cX9_init 30 = .ok (.putfield 22, 3) := by decide +kernel
theorem dX9_init_33 : decode cX9_init 33 = .ok (.aload_n 0, 1) := by decide +kernel
theorem dX9_init_34 : decode cX9_init 34 = .ok (.bipush 12, 2) := by decide +kernel
theorem dX9_init_36 : decode cX9_init 36 = .ok (.newarray .boolean, 2) := by decide +kernel
theorem dX9_init_38 : decode cX9_init 38 = .ok (.putfield 25, 3) := by decide +kernel
theorem dX9_init_41 : decode cX9_init 41 = .ok (.aload_n 0, 1) := by decide +kernel
theorem dX9_init_42 : decode cX9_init 42 = .ok (.iconst 4, 1) := by decide +kernel
theorem dX9_init_43 : decode cX9_init 43 = .ok (.newarray .int, 2) := by decide +kernel
theorem dX9_init_45 : decode cX9_init 45 = .ok (.putfield 29, 3) := by decide +kernel
theorem dX9_init_48 : decode cX9_init 48 = .ok (.return_, 1) := by decide +kernel
theorem dX10_init_0 : decode cX10_init 0 = .ok (.aload_n 0, 1) := by decide +kernel
theorem dX10_init_1 : decode cX10_init 1 = .ok (.invokespecial 3, 3) := by decide +kernel
theorem dX10_init_4 : decode cX10_init 4 = .ok (.aload_n 0, 1) := by decide +kernel
theorem dX10_init_5 : decode cX10_init 5 = .ok (.sipush 1500, 3) := by decide +kernel
theorem dX10_init_8 : decode cX10_init 8 = .ok (.newarray .long, 2) := by decide +kernel
theorem dX10_init_10 : decode cX10_init 10 = .ok (.putfield 11, 3) := by decide +kernel
theorem dX10_init_13 : decode cX10_init 13 = .ok (.aload_n 0, 1) := by decide +kernel
theorem dX10_init_14 : decode cX10_init 14 = .ok (.sipush 1500, 3) := by decide +kernel
theorem dX10_init_17 : decode cX10_init 17 = .ok (.newarray .int, 2) := by decide +kernel
theorem dX10_init_19 : decode cX10_init 19 = .ok (.putfield 15, 3) := by decide +kernel
theorem dX10_init_22 : decode cX10_init 22 = .ok (.aload_n 0, 1) := by decide +kernel
theorem dX10_init_23 : decode cX10_init 23 = .ok (.sipush 1500, 3) := by decide +kernel
theorem dX10_init_26 : decode cX10_init 26 = .ok (.newarray .int, 2) := by decide +kernel
theorem dX10_init_28 : decode cX10_init 28 = .ok (.putfield 19, 3) := by decide +kernel
theorem dX10_init_31 : decode cX10_init 31 = .ok (.aload_n 0, 1) := by decide +kernel
theorem dX10_init_32 : decode cX10_init 32 = .ok (.sipush 1024, 3) := by decide +kernel
theorem dX10_init_35 : decode cX10_init 35 = .ok (.newarray .int, 2) := by decide +kernel
theorem dX10_init_37 : decode cX10_init 37 = .ok (.putfield 22, 3) := by decide +kernel
theorem dX10_init_40 : decode cX10_init 40 = .ok (.aload_n 0, 1) := by decide +kernel
theorem dX10_init_41 : decode cX10_init 41 = .ok (.bipush 12, 2) := by decide +kernel
theorem dX10_init_43 : decode cX10_init 43 = .ok (.newarray .int, 2) := by decide +kernel
theorem dX10_init_45 : decode cX10_init 45 = .ok (.putfield 25, 3) := by decide +kernel
theorem dX10_init_48 : decode cX10_init 48 = .ok (.aload_n 0, 1) := by decide +kernel
theorem dX10_init_49 : decode cX10_init 49 = .ok (.aload_n 1, 1) := by decide +kernel
theorem dX10_init_50 : decode cX10_init 50 = .ok (.putfield 28, 3) := by decide +kernel
theorem dX10_init_53 : decode cX10_init 53 = .ok (.return_, 1) := by decide +kernel
theorem dX11_init_0 : decode cX11_init 0 = .ok (.aload_n 0, 1) := by decide +kernel
theorem dX11_init_1 : decode cX11_init 1 = .ok (.invokespecial 1, 3) := by decide +kernel
theorem dX11_init_4 : decode cX11_init 4 = .ok (.aload_n 0, 1) := by decide +kernel
theorem dX11_init_5 : decode cX11_init 5 = .ok (.new 7, 3) := by decide +kernel
theorem dX11_init_8 : decode cX11_init 8 = .ok (.dup, 1) := by decide +kernel
theorem dX11_init_9 : decode cX11_init 9 = .ok (.invokespecial 9, 3) := by decide +kernel
theorem dX11_init_12 : decode cX11_init 12 = .ok (.putfield 10, 3) := by decide +kernel
theorem dX11_init_15 : decode cX11_init 15 = .ok (.aload_n 0, 1) := by decide +kernel
theorem dX11_init_16 : decode cX11_init 16 = .ok (.new 16, 3) := by decide +kernel
theorem dX11_init_19 : decode cX11_init 19 = .ok (.dup, 1) := by decide +kernel
theorem dX11_init_20 : decode cX11_init 20 = .ok (.aload_n 0, 1) := by decide +kernel
theorem dX11_init_21 : decode cX11_init 21 = .ok (.getfield 10, 3) := by decide +kernel
theorem dX11_init_24 : decode cX11_init 24 = .ok (.invokespecial 18, 3) := by decide +kernel
theorem dX11_init_27 : decode cX11_init 27 = .ok (.putfield 21, 3) := by decide +kernel
theorem dX11_init_30 : decode cX11_init 30 = .ok (.aload_n 0, 1) := by decide +kernel
theorem dX11_init_31 : decode cX11_init 31 = .ok (.new 25, 3) := by decide +kernel
theorem dX11_init_34 : decode cX11_init 34 = .ok (.dup, 1) := by decide +kernel
theorem dX11_init_35 : decode cX11_init 35 = .ok (.aload_n 0, 1) := by decide +kernel
theorem dX11_init_36 : decode cX11_init 36 = .ok (.getfield 21, 3) := by decide +kernel
theorem dX11_init_39 : decode cX11_init 39 = .ok (.invokespecial 27, 3) := by decide +kernel
theorem dX11_init_42 : decode cX11_init 42 = .ok (.putfield 30, 3) := by decide +kernel
theorem dX11_init_45 : decode cX11_init 45 = .ok (.aload_n 0, 1) := by decide +kernel
theorem dX11_init_46 : decode cX11_init 46 = .ok (.new 34, 3) := by decide +kernel
theorem dX11_init_49 : decode cX11_init 49 = .ok (.dup, 1) := by decide +kernel
theorem dX11_init_50 : decode cX11_init 50 = .ok (.invokespecial 36, 3) := by decide +kernel
theorem dX11_init_53 : decode cX11_init 53 = .ok (.putfield 37, 3) := by decide +kernel
theorem dX11_init_56 : decode cX11_init 56 = .ok (.aload_n 0, 1) := by decide +kernel
theorem dX11_init_57 : decode cX11_init 57 = .ok (.new 41, 3) := by decide +kernel
theorem dX11_init_60 : decode cX11_init 60 = .ok (.dup, 1) := by decide +kernel
theorem dX11_init_61 : decode cX11_init 61 = .ok (.invokespecial 43, 3) := by decide +kernel
theorem dX11_init_64 : decode cX11_init 64 = .ok (.putfield 44, 3) := by decide +kernel
theorem dX11_init_67 : decode cX11_init 67 = .ok (.aload_n 0, 1) := by decide +kernel
theorem dX11_init_68 : decode cX11_init 68 = .ok (.new 48, 3) := by decide +kernel
theorem dX11_init_71 : decode cX11_init 71 = .ok (.dup, 1) := by decide +kernel
theorem dX11_init_72 : decode cX11_init 72 = .ok (.invokespecial 50, 3) := by decide +kernel
theorem dX11_init_75 : decode cX11_init 75 = .ok (.putfield 51, 3) := by decide +kernel
theorem dX11_init_78 : decode cX11_init 78 = .ok (.aload_n 0, 1) := by decide +kernel
theorem dX11_init_79 : decode cX11_init 79 = .ok (.new 55, 3) := by decide +kernel
theorem dX11_init_82 : decode cX11_init 82 = .ok (.dup, 1) := by decide +kernel
theorem dX11_init_83 : decode cX11_init 83 = .ok (.aload_n 0, 1) := by decide +kernel
theorem dX11_init_84 : decode cX11_init 84 = .ok (.getfield 10, 3) := by decide +kernel
theorem dX11_init_87 : decode cX11_init 87 = .ok (.aload_n 0, 1) := by decide +kernel
theorem dX11_init_88 : decode cX11_init 88 = .ok (.getfield 21, 3) := by decide +kernel
theorem dX11_init_91 : decode cX11_init 91 = .ok (.invokespecial 57, 3) := by decide +kernel
theorem dX11_init_94 : decode cX11_init 94 = .ok (.putfield 60, 3) := by decide +kernel
theorem dX11_init_97 : decode cX11_init 97 = .ok (.aload_n 0, 1) := by decide +kernel
theorem dX11_init_98 : decode cX11_init 98 = .ok (.new 64, 3) := by decide +kernel
theorem dX11_init_101 : decode cX11_init 101 = .ok (.dup, 1) := by decide +kernel
theorem dX11_init_102 : decode cX11_init 102 = .ok (.invokespecial 66, 3) := by decide +kernel
theorem dX11_init_105 : decode cX11_init 105 = .ok (.putfield 67, 3) := by decide +kernel
theorem dX11_init_108 : decode cX11_init 108 = .ok (.return_, 1) := by decide +kernel
theorem dX11_house_0 : decode cX11_house 0 = .ok (.aload_n 0, 1) := by decide +kernel
theorem dX11_house_1 : decode cX11_house 1 = .ok (.getfield 10, 3) := by decide +kernel
theorem dX11_house_4 : decode cX11_house 4 = .ok (.iload_n 1, 1) := by decide +kernel
theorem dX11_house_5 : decode cX11_house 5 = .ok (.iload_n 2, 1) := by decide +kernel
theorem dX11_house_6 : decode cX11_house 6 = .ok (.iload_n 3, 1) := by decide +kernel
theorem dX11_house_7 : decode cX11_house 7 = .ok (.iload 4, 2) := by decide +kernel
theorem dX11_house_9 : decode cX11_house 9 = .ok (.iload 5, 2) := by decide +kernel
theorem dX11_house_11 : decode cX11_house 11 = .ok (.iload 6, 2) := by decide +kernel
theorem dX11_house_13 : decode cX11_house 13 = .ok (.iload 7, 2) := by decide +kernel
theorem dX11_house_15 : decode cX11_house 15 = .ok (.invokevirtual 82, 3) := by decide +kernel
theorem dX11_house_18 : decode cX11_house 18 = .ok (.ireturn, 1) := by decide +kernel
theorem dX11_kerb_0 : decode cX11_kerb 0 = .ok (.aload_n 0, 1) := by decide +kernel
theorem dX11_kerb_1 : decode cX11_kerb 1 = .ok (.getfield 10, 3) := by decide +kernel
theorem dX11_kerb_4 : decode cX11_kerb 4 = .ok (.iload_n 1, 1) := by decide +kernel
theorem dX11_kerb_5 : decode cX11_kerb 5 = .ok (.iload_n 2, 1) := by decide +kernel
theorem dX11_kerb_6 : decode cX11_kerb 6 = .ok (.iload_n 3, 1) := by decide +kernel
theorem dX11_kerb_7 : decode cX11_kerb 7 = .ok (.iload 4, 2) := by decide +kernel
theorem dX11_kerb_9 : decode cX11_kerb 9 = .ok (.invokevirtual 90, 3) := by decide +kernel
theorem dX11_kerb_12 : decode cX11_kerb 12 = .ok (.ireturn, 1) := by decide +kernel
theorem dX11_wire_0 : decode cX11_wire 0 = .ok (.aload_n 0, 1) := by decide +kernel
theorem dX11_wire_1 : decode cX11_wire 1 = .ok (.getfield 10, 3) := by decide +kernel
theorem dX11_wire_4 : decode cX11_wire 4 = .ok (.iload_n 1, 1) := by decide +kernel
theorem dX11_wire_5 : decode cX11_wire 5 = .ok (.iload_n 2, 1) := by decide +kernel
theorem dX11_wire_6 : decode cX11_wire 6 = .ok (.iload_n 3, 1) := by decide +kernel
theorem dX11_wire_7 : decode cX11_wire 7 = .ok (.iload 4, 2) := by decide +kernel
theorem dX11_wire_9 : decode cX11_wire 9 = .ok (.iload 5, 2) := by decide +kernel
theorem dX11_wire_11 : decode cX11_wire 11 = .ok (.invokevirtual 94, 3) := by decide +kernel
theorem dX11_wire_14 : decode cX11_wire 14 = .ok (.ireturn, 1) := by decide +kernel
theorem dX11_slope_0 : decode cX11_slope 0 = .ok (.aload_n 0, 1) := by decide +kernel
theorem dX11_slope_1 : decode cX11_slope 1 = .ok (.getfield 10, 3) := by decide +kernel
theorem dX11_slope_4 : decode cX11_slope 4 = .ok (.iload_n 1, 1) := by decide +kernel
theorem dX11_slope_5 : decode cX11_slope 5 = .ok (.iload_n 2, 1) := by decide +kernel
theorem dX11_slope_6 : decode cX11_slope 6 = .ok (.iload_n 3, 1) := by decide +kernel
theorem dX11_slope_7 : decode cX11_slope 7 = .ok (.iload 4, 2) := by decide +kernel
theorem dX11_slope_9 : decode cX11_slope 9 = .ok (.iload 5, 2) := by decide +kernel
theorem dX11_slope_11 : decode cX11_slope 11 = .ok (.iload 6, 2) := by decide +kernel
theorem dX11_slope_13 : decode cX11_slope 13 = .ok (.iload 7, 2) := by decide +kernel
theorem dX11_slope_15 : decode cX11_slope 15 = .ok (.invokevirtual 102, 3) := by decide +kernel
theorem dX11_slope_18 : decode cX11_slope 18 = .ok (.ireturn, 1) := by decide +kernel
theorem dX11_car_0 : decode cX11_car 0 = .ok (.aload_n 0, 1) := by decide +kernel
theorem dX11_car_1 : decode cX11_car 1 = .ok (.getfield 21, 3) := by decide +kernel
theorem dX11_car_4 : decode cX11_car 4 = .ok (.iload_n 1, 1) := by decide +kernel
theorem dX11_car_5 : decode cX11_car 5 = .ok (.iload_n 2, 1) := by decide +kernel
theorem dX11_car_6 : decode cX11_car 6 = .ok (.iload_n 3, 1) := by decide +kernel
theorem dX11_car_7 : decode cX11_car 7 = .ok (.iload 4, 2) := by decide +kernel
theorem dX11_car_9 : decode cX11_car 9 = .ok (.invokevirtual 125, 3) := by decide +kernel
theorem dX11_car_12 : decode cX11_car 12 = .ok (.ireturn, 1) := by decide +kernel
theorem dX11_way_0 : decode cX11_way 0 = .ok (.aload_n 0, 1) := by decide +kernel
theorem dX11_way_1 : decode cX11_way 1 = .ok (.getfield 21, 3) := by decide +kernel
theorem dX11_way_4 : decode cX11_way 4 = .ok (.iload_n 1, 1) := by decide +kernel
theorem dX11_way_5 : decode cX11_way 5 = .ok (.invokevirtual 128, 3) := by decide +kernel
theorem dX11_way_8 : decode cX11_way 8 = .ok (.astore 7, 2) := by decide +kernel
theorem dX11_way_10 : decode cX11_way 10 = .ok (.aload 7, 2) := by decide +kernel
theorem dX11_way_12 : decode cX11_way 12 = .ok (.ifnull 26, 3) := by decide +kernel
theorem dX11_way_15 : decode cX11_way 15 = .ok (.iload_n 2, 1) := by decide +kernel
theorem dX11_way_16 : decode cX11_way 16 = .ok (.iload_n 3, 1) := by decide +kernel
theorem dX11_way_17 : decode cX11_way 17 = .ok (.iload 4, 2) := by decide +kernel
theorem dX11_way_19 : decode cX11_way 19 = .ok (.iload 5, 2) := by decide +kernel
theorem dX11_way_21 : decode cX11_way 21 = .ok (.invokestatic 190, 3) := by decide +kernel
theorem dX11_way_24 : decode cX11_way 24 = .ok (.ifCond .eq 14, 3) := by decide +kernel
theorem dX11_way_27 : decode cX11_way 27 = .ok (.iload 6, 2) := by decide +kernel
theorem dX11_way_29 : decode cX11_way 29 = .ok (.iconst 0, 1) := by decide +kernel
theorem dX11_way_30 : decode cX11_way 30 = .ok (.bipush 35, 2) := by decide +kernel
theorem dX11_way_32 : decode cX11_way 32 = .ok (.invokestatic 71, 3) := by decide +kernel
theorem dX11_way_35 : decode cX11_way 35 = .ok (.ifCond .ne 6, 3) := by decide +kernel
theorem dX11_way_38 : decode cX11_way 38 = .ok (.bipush (-2), 2) := by decide +kernel
theorem dX11_way_40 : decode cX11_way 40 = .ok (.ireturn, 1) := by decide +kernel
theorem dX11_way_41 : decode cX11_way 41 = .ok (.aload 7, 2) := by decide +kernel
theorem dX11_way_43 : decode cX11_way 43 = .ok (.getfield 146, 3) := by decide +kernel
theorem dX11_way_46 : decode cX11_way 46 = .ok (.ifCond .ne 6, 3) := by decide +kernel
theorem dX11_way_49 : decode cX11_way 49 = .ok (.bipush (-3), 2) := by decide +kernel
theorem dX11_way_51 : decode cX11_way 51 = .ok (.ireturn, 1) := by decide +kernel
theorem dX11_way_52 : decode cX11_way 52 = .ok (.aload_n 0, 1) := by decide +kernel
theorem dX11_way_53 : decode cX11_way 53 = .ok (.getfield 30, 3) := by decide +kernel
theorem dX11_way_56 : decode cX11_way 56 = .ok (.aload 7, 2) := by decide +kernel
theorem dX11_way_58 : decode cX11_way 58 = .ok (.new 194, 3) := by decide +kernel
theorem dX11_way_61 : decode cX11_way 61 = .ok (.dup, 1) := by decide +kernel
theorem dX11_way_62 : decode cX11_way 62 = .ok (.iload_n 2, 1) := by decide +kernel
theorem dX11_way_63 : decode cX11_way 63 = .ok (.iload_n 3, 1) := by decide +kernel
theorem dX11_way_64 : decode cX11_way 64 = .ok (.iload 4, 2) := by decide +kernel
theorem dX11_way_66 : decode cX11_way 66 = .ok (.iload 5, 2) := by decide +kernel
theorem dX11_way_68 : decode cX11_way 68 = .ok (.invokespecial 196, 3) := by decide +kernel
theorem dX11_way_71 : decode cX11_way 71 = .ok (.iload 6, 2) := by decide +kernel
theorem dX11_way_73 : decode cX11_way 73 = .ok (.invokevirtual 199, 3) := by decide +kernel
theorem dX11_way_76 : decode cX11_way 76 = .ok (.ireturn, 1) := by decide +kernel
theorem dX11_measure_0 : decode cX11_measure 0 = .ok (.aload_n 0, 1) := by decide +kernel
theorem dX11_measure_1 : decode cX11_measure 1 = .ok (.getfield 67, 3) := by decide +kernel
theorem dX11_measure_4 : decode cX11_measure 4 = .ok (.iload_n 1, 1) := by decide +kernel
theorem dX11_measure_5 : decode cX11_measure 5 = .ok (.invokevirtual 315, 3) := by decide +kernel
theorem dX11_measure_8 : decode cX11_measure 8 = .ok (.istore_n 2, 1) := by decide +kernel
theorem dX11_measure_9 : decode cX11_measure 9 = .ok (.iload_n 2, 1) := by decide +kernel
theorem dX11_measure_10 : decode cX11_measure 10 = .ok (.ifCond .eq 5, 3) := by decide +kernel
theorem dX11_measure_13 : decode cX11_measure 13 = .ok (.iload_n 2, 1) := by decide +kernel
theorem dX11_measure_14 : decode cX11_measure 14 = .ok (.ireturn, 1) := by decide +kernel
theorem dX11_measure_15 : decode cX11_measure 15 = .ok (.aload_n 0, 1) := by decide +kernel
theorem dX11_measure_16 : decode cX11_measure 16 = .ok (.getfield 67, 3) := by decide +kernel
theorem dX11_measure_19 : decode cX11_measure 19 = .ok (.iload_n 1, 1) := by decide +kernel
theorem dX11_measure_20 : decode cX11_measure 20 = .ok (.aload_n 0, 1) := by decide +kernel
theorem dX11_measure_21 : decode cX11_measure 21 = .ok (.getfield 10, 3) := by decide +kernel
theorem dX11_measure_24 : decode cX11_measure 24 = .ok (.invokevirtual 318, 3) := by decide +kernel
theorem dX11_measure_27 : decode cX11_measure 27 = .ok (.ireturn, 1) := by decide +kernel
def f_X1_init (w : Wd) (k0 : Nat) (a1 : Int32) (a2 : Int32) (a3 : Int32) (a4 : Int32) : Option Wd :=
q_nw w (k0 + 1) (1, 5) 2 (fun w_6 =>
q_pt w_6 k0 4 1 (fun w_8 =>
q_nw w_8 (k0 + 2) (1, 5) 2 (fun w_13 =>
q_pt w_13 k0 5 1 (fun w_15 =>
q_nw w_15 (k0 + 3) (1, 5) 2 (fun w_20 =>
q_pt w_20 k0 6 1 (fun w_22 =>
q_nw w_22 (k0 + 4) (6, 5) 2 (fun w_27 =>
q_pt w_27 k0 8 1 (fun w_30 =>
q_nw w_30 (k0 + 10) (1, 4) 2 (fun w_35 =>
q_pt w_35 k0 14 1 (fun w_37 =>
q_nw w_37 (k0 + 11) (1, 4) 2 (fun w_42 =>
q_pt w_42 k0 15 1 (fun w_44 =>
q_nw w_44 (k0 + 12) (1, 4) 2 (fun w_49 =>
q_pt w_49 k0 16 1 (fun w_51 =>
q_pt w_51 k0 0 a1 (fun w_56 =>
q_pt w_56 k0 1 a2 (fun w_61 =>
q_pt w_61 k0 2 a3 (fun w_66 =>
q_pt w_66 k0 3 a4 (fun w_72 =>
q_cr w_72 k0 15 (
q_bo (f_J7_fill_53178 w_72 (k0 + 11) 4 (20 : Int32)) (fun w_81 =>
q_cr w_81 k0 8 (
q_nw w_81 (rt (k0 + 4) ((0 : Int32)).toNatClampNeg) (15, 0) 2 (fun w_99 =>
q_bo (f_X5_init w_99 (rt (k0 + 4) ((0 : Int32)).toNatClampNeg)) (fun w_103 =>
q_st w_103 (k0 + 4) 5 (0 : Int32) 1 (fun w_106 =>
q_cr w_106 k0 8 (
q_nw w_106 (rt (k0 + 4) ((1 : Int32)).toNatClampNeg) (15, 0) 2 (fun w_99_2 =>
q_bo (f_X5_init w_99_2 (rt (k0 + 4) ((1 : Int32)).toNatClampNeg)) (fun w_103_2 =>
q_st w_103_2 (k0 + 4) 5 (1 : Int32) 1 (fun w_106_2 =>
q_cr w_106_2 k0 8 (
q_nw w_106_2 (rt (k0 + 4) ((2 : Int32)).toNatClampNeg) (15, 0) 2 (fun w_99_3 =>
q_bo (f_X5_init w_99_3 (rt (k0 + 4) ((2 : Int32)).toNatClampNeg)) (fun w_103_3 =>
q_st w_103_3 (k0 + 4) 5 (2 : Int32) 1 (fun w_106_3 =>
q_cr w_106_3 k0 8 (
q_nw w_106_3 (rt (k0 + 4) ((3 : Int32)).toNatClampNeg) (15, 0) 2 (fun w_99_4 =>
q_bo (f_X5_init w_99_4 (rt (k0 + 4) ((3 : Int32)).toNatClampNeg)) (fun w_103_4 =>
q_st w_103_4 (k0 + 4) 5 (3 : Int32) 1 (fun w_106_4 =>
q_cr w_106_4 k0 8 (
q_nw w_106_4 (rt (k0 + 4) ((4 : Int32)).toNatClampNeg) (15, 0) 2 (fun w_99_5 =>
q_bo (f_X5_init w_99_5 (rt (k0 + 4) ((4 : Int32)).toNatClampNeg)) (fun w_103_5 =>
q_st w_103_5 (k0 + 4) 5 (4 : Int32) 1 (fun w_106_5 =>
q_rd w_106_5 k0 1 17 (fun w_r113 =>
some w_r113)))))))))))))))))))))))))))))))))))))))))
set_option maxRecDepth 100000 in
set_option maxHeartbeats 4000000 in
theorem c_X1_init (l : Launch) (D : va_G) (cT : Nat → ClassId) (lo nb : Nat) (w : Wd) (ad0 : Nat → Nat) (k0 : Nat) (hk0 : kt k0 = (11, 0)) (ha0 : wA w k0 = 1) (a1 : Int32) (a2 : Int32) (a3 : Int32) (a4 : Int32) (w9 : Wd) (h : f_X1_init w k0 a1 a2 a3 a4 = some w9) : Met l yX1_init (.code yX1_init cX1_init 6 none :: TW) { frames := 2, cells := 12, slots := 72, locals := 40 } (mPc D cT lo nb w ad0 [.ref (ad0 k0), .int a1, .int a2, .int a3, .int a4]) (mQA D cT lo nb w w9 ad0 none) 12 72 (fun q => lo ≤ q) := by
  unfold f_X1_init at h
  have hn_k0 : wA w k0 ≠ 0 := by rw [ha0]; decide
  refine x_met (lv := [(0, .ref (ad0 k0)), (1, .int a1), (2, .int a2), (3, .int a3), (4, .int a4)]) (by decide +kernel) (Nat.le_of_ble_eq_true rfl) rfl ?_
  intro p e s m args below meth c ls F hr hlk hP hin hl
  have hx := F.1
  have hb := F.2.1
  have hS : va_S (fun q => lo ≤ q) s.heap s.heap [] := va_S.rf
  have hM_w : mono w w := mono.refl
  have hXA : ∀ k, wA w k ≠ 0 → ad0 k = ad0 k := fun _ _ => rfl
  refine lv_aload_n F.1 F.2.1 dX1_init_0 rfl (lv_at hl 0 rfl) ?_
  refine y_obj F lk_X1_3 vi_obj cd_obj hl.1 dX1_init_1 ⟨Nat.le_of_ble_eq_true rfl, Nat.le_of_ble_eq_true rfl⟩ ?_
  refine lv_aload_n F.1 F.2.1 dX1_init_4 rfl (lv_at hl 0 rfl) ?_
  refine lv_iconst (v := 5) F.1 F.2.1 dX1_init_5 ic_5 ?_
  refine y_newi (k := (k0 + 1)) h F hP hS ac_int (by decide) (by decide) (by decide) (Nat.le_of_ble_eq_true rfl) (Nat.le_of_ble_eq_true rfl) dX1_init_6 (fun w_6 ad H hm ha_k0_1 _ hx h hP' hS => ?_)
  have e9 := hx k0 hn_k0
  try rw [← e9] at hl
  try rw [← e9]
  have hP := hP'
  have hXA : ∀ k, wA w k ≠ 0 → ad k = ad0 k := fun k hk => (hx k (hM_w.1 k hk)).trans (hXA k hk)
  have hM_w := hm
  have hn_k0 := hm.1 _ hn_k0
  refine y_putFr h F hP hS hk0 hn_k0 fl_X1_11 hin rfl rfl (carR_4 hk0) ha_k0_1 (Or.inr ⟨_, rfl⟩) dX1_init_8 (fun w_8 H locs hm h hP hS => ?_)
  have hM_w := hM_w.trans hm
  have hn_k0 := hm.1 _ hn_k0
  have ha_k0_1 := hm.2 _ ha_k0_1
  refine lv_aload_n F.1 F.2.1 dX1_init_11 rfl (lv_at hl 0 rfl) ?_
  refine lv_iconst (v := 5) F.1 F.2.1 dX1_init_12 ic_5 ?_
  refine y_newi (k := (k0 + 2)) h F hP hS ac_int (by decide) (by decide) (by decide) (Nat.le_of_ble_eq_true rfl) (Nat.le_of_ble_eq_true rfl) dX1_init_13 (fun w_13 ad H hm ha_k0_2 _ hx h hP' hS => ?_)
  have e9 := hx k0 hn_k0
  try rw [← e9] at hl
  try rw [← e9]
  have hP := hP'
  have hXA : ∀ k, wA w k ≠ 0 → ad k = ad0 k := fun k hk => (hx k (hM_w.1 k hk)).trans (hXA k hk)
  have hM_w := hM_w.trans hm
  have hn_k0 := hm.1 _ hn_k0
  have ha_k0_1 := hm.2 _ ha_k0_1
  refine y_putFr h F hP hS hk0 hn_k0 fl_X1_15 hin rfl rfl (carR_5 hk0) ha_k0_2 (Or.inr ⟨_, rfl⟩) dX1_init_15 (fun w_15 H locs hm h hP hS => ?_)
  have hM_w := hM_w.trans hm
  have hn_k0 := hm.1 _ hn_k0
  have ha_k0_1 := hm.2 _ ha_k0_1
  have ha_k0_2 := hm.2 _ ha_k0_2
  refine lv_aload_n F.1 F.2.1 dX1_init_18 rfl (lv_at hl 0 rfl) ?_
  refine lv_iconst (v := 5) F.1 F.2.1 dX1_init_19 ic_5 ?_
  refine y_newi (k := (k0 + 3)) h F hP hS ac_int (by decide) (by decide) (by decide) (Nat.le_of_ble_eq_true rfl) (Nat.le_of_ble_eq_true rfl) dX1_init_20 (fun w_20 ad H hm ha_k0_3 _ hx h hP' hS => ?_)
  have e9 := hx k0 hn_k0
  try rw [← e9] at hl
  try rw [← e9]
  have hP := hP'
  have hXA : ∀ k, wA w k ≠ 0 → ad k = ad0 k := fun k hk => (hx k (hM_w.1 k hk)).trans (hXA k hk)
  have hM_w := hM_w.trans hm
  have hn_k0 := hm.1 _ hn_k0
  have ha_k0_1 := hm.2 _ ha_k0_1
  have ha_k0_2 := hm.2 _ ha_k0_2
  refine y_putFr h F hP hS hk0 hn_k0 fl_X1_18 hin rfl rfl (carR_6 hk0) ha_k0_3 (Or.inr ⟨_, rfl⟩) dX1_init_22 (fun w_22 H locs hm h hP hS => ?_)
  have hM_w := hM_w.trans hm
  have hn_k0 := hm.1 _ hn_k0
  have ha_k0_1 := hm.2 _ ha_k0_1
  have ha_k0_2 := hm.2 _ ha_k0_2
  have ha_k0_3 := hm.2 _ ha_k0_3
  refine lv_aload_n F.1 F.2.1 dX1_init_25 rfl (lv_at hl 0 rfl) ?_
  refine lv_iconst (v := 5) F.1 F.2.1 dX1_init_26 ic_5 ?_
  refine y_newq (k := (k0 + 4)) (t0 := 5) h F hP hS cl_X1_21 ao_X5 rfl (by decide) (by decide) (by decide) (by decide) (by decide) (Nat.le_of_ble_eq_true rfl) (Nat.le_of_ble_eq_true rfl) dX1_init_27 (fun w_27 ad H hm ha_k0_4 _ hx h hP' hS => ?_)
  have e9 := hx k0 hn_k0
  try rw [← e9] at hl
  try rw [← e9]
  have hP := hP'
  have hXA : ∀ k, wA w k ≠ 0 → ad k = ad0 k := fun k hk => (hx k (hM_w.1 k hk)).trans (hXA k hk)
  have hM_w := hM_w.trans hm
  have hn_k0 := hm.1 _ hn_k0
  have ha_k0_1 := hm.2 _ ha_k0_1
  have ha_k0_2 := hm.2 _ ha_k0_2
  have ha_k0_3 := hm.2 _ ha_k0_3
  refine y_putFr h F hP hS hk0 hn_k0 fl_X1_23 hin rfl rfl (carR_8 hk0) ha_k0_4 (Or.inr ⟨_, rfl⟩) dX1_init_30 (fun w_30 H locs hm h hP hS => ?_)
  have hM_w := hM_w.trans hm
  have hn_k0 := hm.1 _ hn_k0
  have ha_k0_1 := hm.2 _ ha_k0_1
  have ha_k0_2 := hm.2 _ ha_k0_2
  have ha_k0_3 := hm.2 _ ha_k0_3
  have ha_k0_4 := hm.2 _ ha_k0_4
  refine lv_aload_n F.1 F.2.1 dX1_init_33 rfl (lv_at hl 0 rfl) ?_
  refine lv_iconst (v := 4) F.1 F.2.1 dX1_init_34 ic_4 ?_
  refine y_newi (k := (k0 + 10)) h F hP hS ac_int (by decide) (by decide) (by decide) (Nat.le_of_ble_eq_true rfl) (Nat.le_of_ble_eq_true rfl) dX1_init_35 (fun w_35 ad H hm ha_k0_10 _ hx h hP' hS => ?_)
  have e9 := hx k0 hn_k0
  try rw [← e9] at hl
  try rw [← e9]
  have hP := hP'
  have hXA : ∀ k, wA w k ≠ 0 → ad k = ad0 k := fun k hk => (hx k (hM_w.1 k hk)).trans (hXA k hk)
  have hM_w := hM_w.trans hm
  have hn_k0 := hm.1 _ hn_k0
  have ha_k0_1 := hm.2 _ ha_k0_1
  have ha_k0_2 := hm.2 _ ha_k0_2
  have ha_k0_3 := hm.2 _ ha_k0_3
  have ha_k0_4 := hm.2 _ ha_k0_4
  refine y_putFr h F hP hS hk0 hn_k0 fl_X1_27 hin rfl rfl (carR_14 hk0) ha_k0_10 (Or.inr ⟨_, rfl⟩) dX1_init_37 (fun w_37 H locs hm h hP hS => ?_)
  have hM_w := hM_w.trans hm
  have hn_k0 := hm.1 _ hn_k0
  have ha_k0_1 := hm.2 _ ha_k0_1
  have ha_k0_2 := hm.2 _ ha_k0_2
  have ha_k0_3 := hm.2 _ ha_k0_3
  have ha_k0_4 := hm.2 _ ha_k0_4
  have ha_k0_10 := hm.2 _ ha_k0_10
  refine lv_aload_n F.1 F.2.1 dX1_init_40 rfl (lv_at hl 0 rfl) ?_
  refine lv_iconst (v := 4) F.1 F.2.1 dX1_init_41 ic_4 ?_
  refine y_newi (k := (k0 + 11)) h F hP hS ac_int (by decide) (by decide) (by decide) (Nat.le_of_ble_eq_true rfl) (Nat.le_of_ble_eq_true rfl) dX1_init_42 (fun w_42 ad H hm ha_k0_11 _ hx h hP' hS => ?_)
  have e9 := hx k0 hn_k0
  try rw [← e9] at hl
  try rw [← e9]
  have hP := hP'
  have hXA : ∀ k, wA w k ≠ 0 → ad k = ad0 k := fun k hk => (hx k (hM_w.1 k hk)).trans (hXA k hk)
  have hM_w := hM_w.trans hm
  have hn_k0 := hm.1 _ hn_k0
  have ha_k0_1 := hm.2 _ ha_k0_1
  have ha_k0_2 := hm.2 _ ha_k0_2
  have ha_k0_3 := hm.2 _ ha_k0_3
  have ha_k0_4 := hm.2 _ ha_k0_4
  have ha_k0_10 := hm.2 _ ha_k0_10
  refine y_putFr h F hP hS hk0 hn_k0 fl_X1_30 hin rfl rfl (carR_15 hk0) ha_k0_11 (Or.inr ⟨_, rfl⟩) dX1_init_44 (fun w_44 H locs hm h hP hS => ?_)
  have hM_w := hM_w.trans hm
  have hn_k0 := hm.1 _ hn_k0
  have ha_k0_1 := hm.2 _ ha_k0_1
  have ha_k0_2 := hm.2 _ ha_k0_2
  have ha_k0_3 := hm.2 _ ha_k0_3
  have ha_k0_4 := hm.2 _ ha_k0_4
  have ha_k0_10 := hm.2 _ ha_k0_10
  have ha_k0_11 := hm.2 _ ha_k0_11
  refine lv_aload_n F.1 F.2.1 dX1_init_47 rfl (lv_at hl 0 rfl) ?_
  refine lv_iconst (v := 4) F.1 F.2.1 dX1_init_48 ic_4 ?_
  refine y_newi (k := (k0 + 12)) h F hP hS ac_int (by decide) (by decide) (by decide) (Nat.le_of_ble_eq_true rfl) (Nat.le_of_ble_eq_true rfl) dX1_init_49 (fun w_49 ad H hm ha_k0_12 _ hx h hP' hS => ?_)
  have e9 := hx k0 hn_k0
  try rw [← e9] at hl
  try rw [← e9]
  have hP := hP'
  have hXA : ∀ k, wA w k ≠ 0 → ad k = ad0 k := fun k hk => (hx k (hM_w.1 k hk)).trans (hXA k hk)
  have hM_w := hM_w.trans hm
  have hn_k0 := hm.1 _ hn_k0
  have ha_k0_1 := hm.2 _ ha_k0_1
  have ha_k0_2 := hm.2 _ ha_k0_2
  have ha_k0_3 := hm.2 _ ha_k0_3
  have ha_k0_4 := hm.2 _ ha_k0_4
  have ha_k0_10 := hm.2 _ ha_k0_10
  have ha_k0_11 := hm.2 _ ha_k0_11
  refine y_putFr h F hP hS hk0 hn_k0 fl_X1_33 hin rfl rfl (carR_16 hk0) ha_k0_12 (Or.inr ⟨_, rfl⟩) dX1_init_51 (fun w_51 H locs hm h hP hS => ?_)
  have hM_w := hM_w.trans hm
  have hn_k0 := hm.1 _ hn_k0
  have ha_k0_1 := hm.2 _ ha_k0_1
  have ha_k0_2 := hm.2 _ ha_k0_2
  have ha_k0_3 := hm.2 _ ha_k0_3
  have ha_k0_4 := hm.2 _ ha_k0_4
  have ha_k0_10 := hm.2 _ ha_k0_10
  have ha_k0_11 := hm.2 _ ha_k0_11
  have ha_k0_12 := hm.2 _ ha_k0_12
  refine lv_aload_n F.1 F.2.1 dX1_init_54 rfl (lv_at hl 0 rfl) ?_
  refine lv_iload_n F.1 F.2.1 dX1_init_55 rfl (lv_at hl 1 rfl) ?_
  refine y_putFi h F hP hS hk0 hn_k0 fl_X1_36 hin rfl rfl dX1_init_56 (fun w_56 H locs hm h hP hS => ?_)
  have hM_w := hM_w.trans hm
  have hn_k0 := hm.1 _ hn_k0
  have ha_k0_1 := hm.2 _ ha_k0_1
  have ha_k0_2 := hm.2 _ ha_k0_2
  have ha_k0_3 := hm.2 _ ha_k0_3
  have ha_k0_4 := hm.2 _ ha_k0_4
  have ha_k0_10 := hm.2 _ ha_k0_10
  have ha_k0_11 := hm.2 _ ha_k0_11
  have ha_k0_12 := hm.2 _ ha_k0_12
  refine lv_aload_n F.1 F.2.1 dX1_init_59 rfl (lv_at hl 0 rfl) ?_
  refine lv_iload_n F.1 F.2.1 dX1_init_60 rfl (lv_at hl 2 rfl) ?_
  refine y_putFi h F hP hS hk0 hn_k0 fl_X1_40 hin rfl rfl dX1_init_61 (fun w_61 H locs hm h hP hS => ?_)
  have hM_w := hM_w.trans hm
  have hn_k0 := hm.1 _ hn_k0
  have ha_k0_1 := hm.2 _ ha_k0_1
  have ha_k0_2 := hm.2 _ ha_k0_2
  have ha_k0_3 := hm.2 _ ha_k0_3
  have ha_k0_4 := hm.2 _ ha_k0_4
  have ha_k0_10 := hm.2 _ ha_k0_10
  have ha_k0_11 := hm.2 _ ha_k0_11
  have ha_k0_12 := hm.2 _ ha_k0_12
  refine lv_aload_n F.1 F.2.1 dX1_init_64 rfl (lv_at hl 0 rfl) ?_
  refine lv_iload_n F.1 F.2.1 dX1_init_65 rfl (lv_at hl 3 rfl) ?_
  refine y_putFi h F hP hS hk0 hn_k0 fl_X1_43 hin rfl rfl dX1_init_66 (fun w_66 H locs hm h hP hS => ?_)
  have hM_w := hM_w.trans hm
  have hn_k0 := hm.1 _ hn_k0
  have ha_k0_1 := hm.2 _ ha_k0_1
  have ha_k0_2 := hm.2 _ ha_k0_2
  have ha_k0_3 := hm.2 _ ha_k0_3
  have ha_k0_4 := hm.2 _ ha_k0_4
  have ha_k0_10 := hm.2 _ ha_k0_10
  have ha_k0_11 := hm.2 _ ha_k0_11
  have ha_k0_12 := hm.2 _ ha_k0_12
  refine lv_aload_n F.1 F.2.1 dX1_init_69 rfl (lv_at hl 0 rfl) ?_
  refine lv_iload F.1 F.2.1 dX1_init_70 (lv_at hl 4 rfl) ?_
  refine y_putFi h F hP hS hk0 hn_k0 fl_X1_46 hin rfl rfl dX1_init_72 (fun w_72 H locs hm h hP hS => ?_)
  have hM_w := hM_w.trans hm
  have hn_k0 := hm.1 _ hn_k0
  have ha_k0_1 := hm.2 _ ha_k0_1
  have ha_k0_2 := hm.2 _ ha_k0_2
  have ha_k0_3 := hm.2 _ ha_k0_3
  have ha_k0_4 := hm.2 _ ha_k0_4
  have ha_k0_10 := hm.2 _ ha_k0_10
  have ha_k0_11 := hm.2 _ ha_k0_11
  have ha_k0_12 := hm.2 _ ha_k0_12
  refine lv_aload_n F.1 F.2.1 dX1_init_75 rfl (lv_at hl 0 rfl) ?_
  refine y_getrS h F hP hk0 hn_k0 fl_X1_30 rfl (carR_15 hk0) dX1_init_76 (fun ha_k0_11 h => ?_)
  refine lv_bipush (v := 20) F.1 F.2.1 dX1_init_79 ib_20 ?_
  obtain ⟨w_81, hc_81, h⟩ := bo_s h
  refine x_goes (x_runS (As := [.ref (ad (k0 + 11)), .int (20 : Int32)]) (rest := []) F hP hS (c_J7_fill_53178 l D cT lo nb w_72 ad (k0 + 11) 4 (carK_15 hk0) ha_k0_11 (20 : Int32) w_81 hc_81) cw_J7_fill_53178 lk_X1_49 st_J7_fill_53178 ⟨rfl, rfl, Nat.le_of_ble_eq_true rfl, Nat.le_of_ble_eq_true rfl⟩ hl.1 rfl (Nat.le_of_ble_eq_true rfl) dX1_init_81 ⟨Nat.le_of_ble_eq_true rfl, Nat.le_of_ble_eq_true rfl⟩) hS (fun H locs hP hS hm => ?_)
  have hM_w := hM_w.trans hm
  have hn_k0 := hm.1 _ hn_k0
  have ha_k0_1 := hm.2 _ ha_k0_1
  have ha_k0_2 := hm.2 _ ha_k0_2
  have ha_k0_3 := hm.2 _ ha_k0_3
  have ha_k0_4 := hm.2 _ ha_k0_4
  have ha_k0_10 := hm.2 _ ha_k0_10
  have ha_k0_11 := hm.2 _ ha_k0_11
  have ha_k0_12 := hm.2 _ ha_k0_12
  refine lv_iconst (v := 0) F.1 F.2.1 dX1_init_84 ic_0 ?_
  refine lv_istore (lv' := [(5, .int (0 : Int32)), (0, .ref (ad k0)), (1, .int a1), (2, .int a2), (3, .int a3), (4, .int a4)]) F.1 F.2.1 dX1_init_85 hl (Nat.le_of_ble_eq_true rfl) rfl (fun ls hl => ?_)
  refine lv_iload F.1 F.2.1 dX1_init_87 (lv_at hl 0 rfl) ?_
  refine lv_iconst (v := 5) F.1 F.2.1 dX1_init_89 ic_5 ?_
  refine lv_icmp_ge (tgt := 113) F.1 F.2.1 dX1_init_90 (by decide) (fun hc => ?_) (fun hc => ?_)
  · exact absurd hc (by decide)
  · refine lv_aload_n F.1 F.2.1 dX1_init_93 rfl (lv_at hl 1 rfl) ?_
    refine y_getrS h F hP hk0 hn_k0 fl_X1_23 rfl (carR_8 hk0) dX1_init_94 (fun ha_k0_4 h => ?_)
    refine lv_iload F.1 F.2.1 dX1_init_97 (lv_at hl 0 rfl) ?_
    refine y_new (k := (rt (k0 + 4) ((0 : Int32)).toNatClampNeg)) (ci := 5) h F hP hS cl_X1_21 ib_X5 ini_X5 rfl inw_X5 tyX5_ok ftD_5 (Or.inr ⟨rfl, ftZ_5⟩) (Nat.le_of_ble_eq_true rfl) (Nat.le_of_ble_eq_true rfl) dX1_init_99 (fun w_99 ad H hm ha_rt_k0_4_0_Int32_toNatClampNeg hk_rt_k0_4_0_Int32_toNatClampNeg hx h hP' hS => ?_)
    have e9 := hx k0 hn_k0
    try rw [← e9] at hl
    try rw [← e9]
    have e9 := hx (k0 + 4) (n2 ha_k0_4)
    try rw [← e9] at hl
    try rw [← e9]
    have hP := hP'
    have hXA : ∀ k, wA w k ≠ 0 → ad k = ad0 k := fun k hk => (hx k (hM_w.1 k hk)).trans (hXA k hk)
    have hM_w := hM_w.trans hm
    have hn_k0 := hm.1 _ hn_k0
    have ha_k0_1 := hm.2 _ ha_k0_1
    have ha_k0_2 := hm.2 _ ha_k0_2
    have ha_k0_3 := hm.2 _ ha_k0_3
    have ha_k0_4 := hm.2 _ ha_k0_4
    have ha_k0_10 := hm.2 _ ha_k0_10
    have ha_k0_11 := hm.2 _ ha_k0_11
    have ha_k0_12 := hm.2 _ ha_k0_12
    refine lv_dup F.1 F.2.1 dX1_init_102 rfl ?_
    obtain ⟨w_103, hc_103, h⟩ := bo_s h
    refine x_goes (x_runIN (As := []) (rest := [.ref (ad (rt (k0 + 4) ((0 : Int32)).toNatClampNeg)), .int (0 : Int32), .ref (ad (k0 + 4))]) F hP hS (c_X5_init l D cT lo nb w_99 ad (rt (k0 + 4) ((0 : Int32)).toNatClampNeg) hk_rt_k0_4_0_Int32_toNatClampNeg ha_rt_k0_4_0_Int32_toNatClampNeg w_103 hc_103) cw_X5_init nl_X1_55 rfl ii_X5_init ⟨rfl, rfl, Nat.le_of_ble_eq_true rfl, Nat.le_of_ble_eq_true rfl⟩ hl.1 rfl (Nat.le_of_ble_eq_true rfl) dX1_init_103 ⟨Nat.le_of_ble_eq_true rfl, Nat.le_of_ble_eq_true rfl⟩) hS (fun H locs hP hS hm => ?_)
    have hM_w := hM_w.trans hm
    have hn_k0 := hm.1 _ hn_k0
    have ha_k0_1 := hm.2 _ ha_k0_1
    have ha_k0_2 := hm.2 _ ha_k0_2
    have ha_k0_3 := hm.2 _ ha_k0_3
    have ha_k0_4 := hm.2 _ ha_k0_4
    have ha_k0_10 := hm.2 _ ha_k0_10
    have ha_k0_11 := hm.2 _ ha_k0_11
    have ha_k0_12 := hm.2 _ ha_k0_12
    have ha_rt_k0_4_0_Int32_toNatClampNeg := hm.2 _ ha_rt_k0_4_0_Int32_toNatClampNeg
    refine y_aast (ci' := 5) (C := RX5) (T := TX5) (N := 8) (t0 := 5) h F hP hS (carK_8 hk0) (by decide) (by decide) (n2 ha_k0_4) hk_rt_k0_4_0_Int32_toNatClampNeg ha_rt_k0_4_0_Int32_toNatClampNeg rfl rfl rfl dX1_init_106 (fun w_106 H locs hm h hP hS => ?_)
    have hM_w := hM_w.trans hm
    have hn_k0 := hm.1 _ hn_k0
    have ha_k0_1 := hm.2 _ ha_k0_1
    have ha_k0_2 := hm.2 _ ha_k0_2
    have ha_k0_3 := hm.2 _ ha_k0_3
    have ha_k0_4 := hm.2 _ ha_k0_4
    have ha_k0_10 := hm.2 _ ha_k0_10
    have ha_k0_11 := hm.2 _ ha_k0_11
    have ha_k0_12 := hm.2 _ ha_k0_12
    have ha_rt_k0_4_0_Int32_toNatClampNeg := hm.2 _ ha_rt_k0_4_0_Int32_toNatClampNeg
    refine lv_iinc (v := 1) (lv' := [(5, .int (1 : Int32)), (0, .ref (ad k0)), (1, .int a1), (2, .int a2), (3, .int a3), (4, .int a4)]) F.1 F.2.1 dX1_init_107 hl (k := 0) rfl (by decide) (Nat.le_of_ble_eq_true rfl) rfl (fun ls hl => ?_)
    refine lv_goto (tgt := 87) F.1 F.2.1 dX1_init_110 (by decide) ?_
    refine lv_iload F.1 F.2.1 dX1_init_87 (lv_at hl 0 rfl) ?_
    refine lv_iconst (v := 5) F.1 F.2.1 dX1_init_89 ic_5 ?_
    refine lv_icmp_ge (tgt := 113) F.1 F.2.1 dX1_init_90 (by decide) (fun hc => ?_) (fun hc => ?_)
    · exact absurd hc (by decide)
    · refine lv_aload_n F.1 F.2.1 dX1_init_93 rfl (lv_at hl 1 rfl) ?_
      refine y_getrS h F hP hk0 hn_k0 fl_X1_23 rfl (carR_8 hk0) dX1_init_94 (fun ha_k0_4 h => ?_)
      refine lv_iload F.1 F.2.1 dX1_init_97 (lv_at hl 0 rfl) ?_
      refine y_new (k := (rt (k0 + 4) ((1 : Int32)).toNatClampNeg)) (ci := 5) h F hP hS cl_X1_21 ib_X5 ini_X5 rfl inw_X5 tyX5_ok ftD_5 (Or.inr ⟨rfl, ftZ_5⟩) (Nat.le_of_ble_eq_true rfl) (Nat.le_of_ble_eq_true rfl) dX1_init_99 (fun w_99_2 ad H hm ha_rt_k0_4_1_Int32_toNatClampNeg hk_rt_k0_4_1_Int32_toNatClampNeg hx h hP' hS => ?_)
      have e9 := hx k0 hn_k0
      try rw [← e9] at hl
      try rw [← e9]
      have e9 := hx (k0 + 4) (n2 ha_k0_4)
      try rw [← e9] at hl
      try rw [← e9]
      have hP := hP'
      have hXA : ∀ k, wA w k ≠ 0 → ad k = ad0 k := fun k hk => (hx k (hM_w.1 k hk)).trans (hXA k hk)
      have hM_w := hM_w.trans hm
      have hn_k0 := hm.1 _ hn_k0
      have ha_k0_1 := hm.2 _ ha_k0_1
      have ha_k0_2 := hm.2 _ ha_k0_2
      have ha_k0_3 := hm.2 _ ha_k0_3
      have ha_k0_4 := hm.2 _ ha_k0_4
      have ha_k0_10 := hm.2 _ ha_k0_10
      have ha_k0_11 := hm.2 _ ha_k0_11
      have ha_k0_12 := hm.2 _ ha_k0_12
      have ha_rt_k0_4_0_Int32_toNatClampNeg := hm.2 _ ha_rt_k0_4_0_Int32_toNatClampNeg
      refine lv_dup F.1 F.2.1 dX1_init_102 rfl ?_
      obtain ⟨w_103_2, hc_103_2, h⟩ := bo_s h
      refine x_goes (x_runIN (As := []) (rest := [.ref (ad (rt (k0 + 4) ((1 : Int32)).toNatClampNeg)), .int (1 : Int32), .ref (ad (k0 + 4))]) F hP hS (c_X5_init l D cT lo nb w_99_2 ad (rt (k0 + 4) ((1 : Int32)).toNatClampNeg) hk_rt_k0_4_1_Int32_toNatClampNeg ha_rt_k0_4_1_Int32_toNatClampNeg w_103_2 hc_103_2) cw_X5_init nl_X1_55 rfl ii_X5_init ⟨rfl, rfl, Nat.le_of_ble_eq_true rfl, Nat.le_of_ble_eq_true rfl⟩ hl.1 rfl (Nat.le_of_ble_eq_true rfl) dX1_init_103 ⟨Nat.le_of_ble_eq_true rfl, Nat.le_of_ble_eq_true rfl⟩) hS (fun H locs hP hS hm => ?_)
      have hM_w := hM_w.trans hm
      have hn_k0 := hm.1 _ hn_k0
      have ha_k0_1 := hm.2 _ ha_k0_1
      have ha_k0_2 := hm.2 _ ha_k0_2
      have ha_k0_3 := hm.2 _ ha_k0_3
      have ha_k0_4 := hm.2 _ ha_k0_4
      have ha_k0_10 := hm.2 _ ha_k0_10
      have ha_k0_11 := hm.2 _ ha_k0_11
      have ha_k0_12 := hm.2 _ ha_k0_12
      have ha_rt_k0_4_0_Int32_toNatClampNeg := hm.2 _ ha_rt_k0_4_0_Int32_toNatClampNeg
      have ha_rt_k0_4_1_Int32_toNatClampNeg := hm.2 _ ha_rt_k0_4_1_Int32_toNatClampNeg
      refine y_aast (ci' := 5) (C := RX5) (T := TX5) (N := 8) (t0 := 5) h F hP hS (carK_8 hk0) (by decide) (by decide) (n2 ha_k0_4) hk_rt_k0_4_1_Int32_toNatClampNeg ha_rt_k0_4_1_Int32_toNatClampNeg rfl rfl rfl dX1_init_106 (fun w_106_2 H locs hm h hP hS => ?_)
      have hM_w := hM_w.trans hm
      have hn_k0 := hm.1 _ hn_k0
      have ha_k0_1 := hm.2 _ ha_k0_1
      have ha_k0_2 := hm.2 _ ha_k0_2
      have ha_k0_3 := hm.2 _ ha_k0_3
      have ha_k0_4 := hm.2 _ ha_k0_4
      have ha_k0_10 := hm.2 _ ha_k0_10
      have ha_k0_11 := hm.2 _ ha_k0_11
      have ha_k0_12 := hm.2 _ ha_k0_12
      have ha_rt_k0_4_0_Int32_toNatClampNeg := hm.2 _ ha_rt_k0_4_0_Int32_toNatClampNeg
      have ha_rt_k0_4_1_Int32_toNatClampNeg := hm.2 _ ha_rt_k0_4_1_Int32_toNatClampNeg
      refine lv_iinc (v := 2) (lv' := [(5, .int (2 : Int32)), (0, .ref (ad k0)), (1, .int a1), (2, .int a2), (3, .int a3), (4, .int a4)]) F.1 F.2.1 dX1_init_107 hl (k := 0) rfl (by decide) (Nat.le_of_ble_eq_true rfl) rfl (fun ls hl => ?_)
      refine lv_goto (tgt := 87) F.1 F.2.1 dX1_init_110 (by decide) ?_
      refine lv_iload F.1 F.2.1 dX1_init_87 (lv_at hl 0 rfl) ?_
      refine lv_iconst (v := 5) F.1 F.2.1 dX1_init_89 ic_5 ?_
      refine lv_icmp_ge (tgt := 113) F.1 F.2.1 dX1_init_90 (by decide) (fun hc => ?_) (fun hc => ?_)
      · exact absurd hc (by decide)
      · refine lv_aload_n F.1 F.2.1 dX1_init_93 rfl (lv_at hl 1 rfl) ?_
        refine y_getrS h F hP hk0 hn_k0 fl_X1_23 rfl (carR_8 hk0) dX1_init_94 (fun ha_k0_4 h => ?_)
        refine lv_iload F.1 F.2.1 dX1_init_97 (lv_at hl 0 rfl) ?_
        refine y_new (k := (rt (k0 + 4) ((2 : Int32)).toNatClampNeg)) (ci := 5) h F hP hS cl_X1_21 ib_X5 ini_X5 rfl inw_X5 tyX5_ok ftD_5 (Or.inr ⟨rfl, ftZ_5⟩) (Nat.le_of_ble_eq_true rfl) (Nat.le_of_ble_eq_true rfl) dX1_init_99 (fun w_99_3 ad H hm ha_rt_k0_4_2_Int32_toNatClampNeg hk_rt_k0_4_2_Int32_toNatClampNeg hx h hP' hS => ?_)
        have e9 := hx k0 hn_k0
        try rw [← e9] at hl
        try rw [← e9]
        have e9 := hx (k0 + 4) (n2 ha_k0_4)
        try rw [← e9] at hl
        try rw [← e9]
        have hP := hP'
        have hXA : ∀ k, wA w k ≠ 0 → ad k = ad0 k := fun k hk => (hx k (hM_w.1 k hk)).trans (hXA k hk)
        have hM_w := hM_w.trans hm
        have hn_k0 := hm.1 _ hn_k0
        have ha_k0_1 := hm.2 _ ha_k0_1
        have ha_k0_2 := hm.2 _ ha_k0_2
        have ha_k0_3 := hm.2 _ ha_k0_3
        have ha_k0_4 := hm.2 _ ha_k0_4
        have ha_k0_10 := hm.2 _ ha_k0_10
        have ha_k0_11 := hm.2 _ ha_k0_11
        have ha_k0_12 := hm.2 _ ha_k0_12
        have ha_rt_k0_4_0_Int32_toNatClampNeg := hm.2 _ ha_rt_k0_4_0_Int32_toNatClampNeg
        have ha_rt_k0_4_1_Int32_toNatClampNeg := hm.2 _ ha_rt_k0_4_1_Int32_toNatClampNeg
        refine lv_dup F.1 F.2.1 dX1_init_102 rfl ?_
        obtain ⟨w_103_3, hc_103_3, h⟩ := bo_s h
        refine x_goes (x_runIN (As := []) (rest := [.ref (ad (rt (k0 + 4) ((2 : Int32)).toNatClampNeg)), .int (2 : Int32), .ref (ad (k0 + 4))]) F hP hS (c_X5_init l D cT lo nb w_99_3 ad (rt (k0 + 4) ((2 : Int32)).toNatClampNeg) hk_rt_k0_4_2_Int32_toNatClampNeg ha_rt_k0_4_2_Int32_toNatClampNeg w_103_3 hc_103_3) cw_X5_init nl_X1_55 rfl ii_X5_init ⟨rfl, rfl, Nat.le_of_ble_eq_true rfl, Nat.le_of_ble_eq_true rfl⟩ hl.1 rfl (Nat.le_of_ble_eq_true rfl) dX1_init_103 ⟨Nat.le_of_ble_eq_true rfl, Nat.le_of_ble_eq_true rfl⟩) hS (fun H locs hP hS hm => ?_)
        have hM_w := hM_w.trans hm
        have hn_k0 := hm.1 _ hn_k0
        have ha_k0_1 := hm.2 _ ha_k0_1
        have ha_k0_2 := hm.2 _ ha_k0_2
        have ha_k0_3 := hm.2 _ ha_k0_3
        have ha_k0_4 := hm.2 _ ha_k0_4
        have ha_k0_10 := hm.2 _ ha_k0_10
        have ha_k0_11 := hm.2 _ ha_k0_11
        have ha_k0_12 := hm.2 _ ha_k0_12
        have ha_rt_k0_4_0_Int32_toNatClampNeg := hm.2 _ ha_rt_k0_4_0_Int32_toNatClampNeg
        have ha_rt_k0_4_1_Int32_toNatClampNeg := hm.2 _ ha_rt_k0_4_1_Int32_toNatClampNeg
        have ha_rt_k0_4_2_Int32_toNatClampNeg := hm.2 _ ha_rt_k0_4_2_Int32_toNatClampNeg
        refine y_aast (ci' := 5) (C := RX5) (T := TX5) (N := 8) (t0 := 5) h F hP hS (carK_8 hk0) (by decide) (by decide) (n2 ha_k0_4) hk_rt_k0_4_2_Int32_toNatClampNeg ha_rt_k0_4_2_Int32_toNatClampNeg rfl rfl rfl dX1_init_106 (fun w_106_3 H locs hm h hP hS => ?_)
        have hM_w := hM_w.trans hm
        have hn_k0 := hm.1 _ hn_k0
        have ha_k0_1 := hm.2 _ ha_k0_1
        have ha_k0_2 := hm.2 _ ha_k0_2
        have ha_k0_3 := hm.2 _ ha_k0_3
        have ha_k0_4 := hm.2 _ ha_k0_4
        have ha_k0_10 := hm.2 _ ha_k0_10
        have ha_k0_11 := hm.2 _ ha_k0_11
        have ha_k0_12 := hm.2 _ ha_k0_12
        have ha_rt_k0_4_0_Int32_toNatClampNeg := hm.2 _ ha_rt_k0_4_0_Int32_toNatClampNeg
        have ha_rt_k0_4_1_Int32_toNatClampNeg := hm.2 _ ha_rt_k0_4_1_Int32_toNatClampNeg
        have ha_rt_k0_4_2_Int32_toNatClampNeg := hm.2 _ ha_rt_k0_4_2_Int32_toNatClampNeg
        refine lv_iinc (v := 3) (lv' := [(5, .int (3 : Int32)), (0, .ref (ad k0)), (1, .int a1), (2, .int a2), (3, .int a3), (4, .int a4)]) F.1 F.2.1 dX1_init_107 hl (k := 0) rfl (by decide) (Nat.le_of_ble_eq_true rfl) rfl (fun ls hl => ?_)
        refine lv_goto (tgt := 87) F.1 F.2.1 dX1_init_110 (by decide) ?_
        refine lv_iload F.1 F.2.1 dX1_init_87 (lv_at hl 0 rfl) ?_
        refine lv_iconst (v := 5) F.1 F.2.1 dX1_init_89 ic_5 ?_
        refine lv_icmp_ge (tgt := 113) F.1 F.2.1 dX1_init_90 (by decide) (fun hc => ?_) (fun hc => ?_)
        · exact absurd hc (by decide)
        · refine lv_aload_n F.1 F.2.1 dX1_init_93 rfl (lv_at hl 1 rfl) ?_
          refine y_getrS h F hP hk0 hn_k0 fl_X1_23 rfl (carR_8 hk0) dX1_init_94 (fun ha_k0_4 h => ?_)
          refine lv_iload F.1 F.2.1 dX1_init_97 (lv_at hl 0 rfl) ?_
          refine y_new (k := (rt (k0 + 4) ((3 : Int32)).toNatClampNeg)) (ci := 5) h F hP hS cl_X1_21 ib_X5 ini_X5 rfl inw_X5 tyX5_ok ftD_5 (Or.inr ⟨rfl, ftZ_5⟩) (Nat.le_of_ble_eq_true rfl) (Nat.le_of_ble_eq_true rfl) dX1_init_99 (fun w_99_4 ad H hm ha_rt_k0_4_3_Int32_toNatClampNeg hk_rt_k0_4_3_Int32_toNatClampNeg hx h hP' hS => ?_)
          have e9 := hx k0 hn_k0
          try rw [← e9] at hl
          try rw [← e9]
          have e9 := hx (k0 + 4) (n2 ha_k0_4)
          try rw [← e9] at hl
          try rw [← e9]
          have hP := hP'
          have hXA : ∀ k, wA w k ≠ 0 → ad k = ad0 k := fun k hk => (hx k (hM_w.1 k hk)).trans (hXA k hk)
          have hM_w := hM_w.trans hm
          have hn_k0 := hm.1 _ hn_k0
          have ha_k0_1 := hm.2 _ ha_k0_1
          have ha_k0_2 := hm.2 _ ha_k0_2
          have ha_k0_3 := hm.2 _ ha_k0_3
          have ha_k0_4 := hm.2 _ ha_k0_4
          have ha_k0_10 := hm.2 _ ha_k0_10
          have ha_k0_11 := hm.2 _ ha_k0_11
          have ha_k0_12 := hm.2 _ ha_k0_12
          have ha_rt_k0_4_0_Int32_toNatClampNeg := hm.2 _ ha_rt_k0_4_0_Int32_toNatClampNeg
          have ha_rt_k0_4_1_Int32_toNatClampNeg := hm.2 _ ha_rt_k0_4_1_Int32_toNatClampNeg
          have ha_rt_k0_4_2_Int32_toNatClampNeg := hm.2 _ ha_rt_k0_4_2_Int32_toNatClampNeg
          refine lv_dup F.1 F.2.1 dX1_init_102 rfl ?_
          obtain ⟨w_103_4, hc_103_4, h⟩ := bo_s h
          refine x_goes (x_runIN (As := []) (rest := [.ref (ad (rt (k0 + 4) ((3 : Int32)).toNatClampNeg)), .int (3 : Int32), .ref (ad (k0 + 4))]) F hP hS (c_X5_init l D cT lo nb w_99_4 ad (rt (k0 + 4) ((3 : Int32)).toNatClampNeg) hk_rt_k0_4_3_Int32_toNatClampNeg ha_rt_k0_4_3_Int32_toNatClampNeg w_103_4 hc_103_4) cw_X5_init nl_X1_55 rfl ii_X5_init ⟨rfl, rfl, Nat.le_of_ble_eq_true rfl, Nat.le_of_ble_eq_true rfl⟩ hl.1 rfl (Nat.le_of_ble_eq_true rfl) dX1_init_103 ⟨Nat.le_of_ble_eq_true rfl, Nat.le_of_ble_eq_true rfl⟩) hS (fun H locs hP hS hm => ?_)
          have hM_w := hM_w.trans hm
          have hn_k0 := hm.1 _ hn_k0
          have ha_k0_1 := hm.2 _ ha_k0_1
          have ha_k0_2 := hm.2 _ ha_k0_2
          have ha_k0_3 := hm.2 _ ha_k0_3
          have ha_k0_4 := hm.2 _ ha_k0_4
          have ha_k0_10 := hm.2 _ ha_k0_10
          have ha_k0_11 := hm.2 _ ha_k0_11
          have ha_k0_12 := hm.2 _ ha_k0_12
          have ha_rt_k0_4_0_Int32_toNatClampNeg := hm.2 _ ha_rt_k0_4_0_Int32_toNatClampNeg
          have ha_rt_k0_4_1_Int32_toNatClampNeg := hm.2 _ ha_rt_k0_4_1_Int32_toNatClampNeg
          have ha_rt_k0_4_2_Int32_toNatClampNeg := hm.2 _ ha_rt_k0_4_2_Int32_toNatClampNeg
          have ha_rt_k0_4_3_Int32_toNatClampNeg := hm.2 _ ha_rt_k0_4_3_Int32_toNatClampNeg
          refine y_aast (ci' := 5) (C := RX5) (T := TX5) (N := 8) (t0 := 5) h F hP hS (carK_8 hk0) (by decide) (by decide) (n2 ha_k0_4) hk_rt_k0_4_3_Int32_toNatClampNeg ha_rt_k0_4_3_Int32_toNatClampNeg rfl rfl rfl dX1_init_106 (fun w_106_4 H locs hm h hP hS => ?_)
          have hM_w := hM_w.trans hm
          have hn_k0 := hm.1 _ hn_k0
          have ha_k0_1 := hm.2 _ ha_k0_1
          have ha_k0_2 := hm.2 _ ha_k0_2
          have ha_k0_3 := hm.2 _ ha_k0_3
          have ha_k0_4 := hm.2 _ ha_k0_4
          have ha_k0_10 := hm.2 _ ha_k0_10
          have ha_k0_11 := hm.2 _ ha_k0_11
          have ha_k0_12 := hm.2 _ ha_k0_12
          have ha_rt_k0_4_0_Int32_toNatClampNeg := hm.2 _ ha_rt_k0_4_0_Int32_toNatClampNeg
          have ha_rt_k0_4_1_Int32_toNatClampNeg := hm.2 _ ha_rt_k0_4_1_Int32_toNatClampNeg
          have ha_rt_k0_4_2_Int32_toNatClampNeg := hm.2 _ ha_rt_k0_4_2_Int32_toNatClampNeg
          have ha_rt_k0_4_3_Int32_toNatClampNeg := hm.2 _ ha_rt_k0_4_3_Int32_toNatClampNeg
          refine lv_iinc (v := 4) (lv' := [(5, .int (4 : Int32)), (0, .ref (ad k0)), (1, .int a1), (2, .int a2), (3, .int a3), (4, .int a4)]) F.1 F.2.1 dX1_init_107 hl (k := 0) rfl (by decide) (Nat.le_of_ble_eq_true rfl) rfl (fun ls hl => ?_)
          refine lv_goto (tgt := 87) F.1 F.2.1 dX1_init_110 (by decide) ?_
          refine lv_iload F.1 F.2.1 dX1_init_87 (lv_at hl 0 rfl) ?_
          refine lv_iconst (v := 5) F.1 F.2.1 dX1_init_89 ic_5 ?_
          refine lv_icmp_ge (tgt := 113) F.1 F.2.1 dX1_init_90 (by decide) (fun hc => ?_) (fun hc => ?_)
          · exact absurd hc (by decide)
          · refine lv_aload_n F.1 F.2.1 dX1_init_93 rfl (lv_at hl 1 rfl) ?_
            refine y_getrS h F hP hk0 hn_k0 fl_X1_23 rfl (carR_8 hk0) dX1_init_94 (fun ha_k0_4 h => ?_)
            refine lv_iload F.1 F.2.1 dX1_init_97 (lv_at hl 0 rfl) ?_
            refine y_new (k := (rt (k0 + 4) ((4 : Int32)).toNatClampNeg)) (ci := 5) h F hP hS cl_X1_21 ib_X5 ini_X5 rfl inw_X5 tyX5_ok ftD_5 (Or.inr ⟨rfl, ftZ_5⟩) (Nat.le_of_ble_eq_true rfl) (Nat.le_of_ble_eq_true rfl) dX1_init_99 (fun w_99_5 ad H hm ha_rt_k0_4_4_Int32_toNatClampNeg hk_rt_k0_4_4_Int32_toNatClampNeg hx h hP' hS => ?_)
            have e9 := hx k0 hn_k0
            try rw [← e9] at hl
            try rw [← e9]
            have e9 := hx (k0 + 4) (n2 ha_k0_4)
            try rw [← e9] at hl
            try rw [← e9]
            have hP := hP'
            have hXA : ∀ k, wA w k ≠ 0 → ad k = ad0 k := fun k hk => (hx k (hM_w.1 k hk)).trans (hXA k hk)
            have hM_w := hM_w.trans hm
            have hn_k0 := hm.1 _ hn_k0
            have ha_k0_1 := hm.2 _ ha_k0_1
            have ha_k0_2 := hm.2 _ ha_k0_2
            have ha_k0_3 := hm.2 _ ha_k0_3
            have ha_k0_4 := hm.2 _ ha_k0_4
            have ha_k0_10 := hm.2 _ ha_k0_10
            have ha_k0_11 := hm.2 _ ha_k0_11
            have ha_k0_12 := hm.2 _ ha_k0_12
            have ha_rt_k0_4_0_Int32_toNatClampNeg := hm.2 _ ha_rt_k0_4_0_Int32_toNatClampNeg
            have ha_rt_k0_4_1_Int32_toNatClampNeg := hm.2 _ ha_rt_k0_4_1_Int32_toNatClampNeg
            have ha_rt_k0_4_2_Int32_toNatClampNeg := hm.2 _ ha_rt_k0_4_2_Int32_toNatClampNeg
            have ha_rt_k0_4_3_Int32_toNatClampNeg := hm.2 _ ha_rt_k0_4_3_Int32_toNatClampNeg
            refine lv_dup F.1 F.2.1 dX1_init_102 rfl ?_
            obtain ⟨w_103_5, hc_103_5, h⟩ := bo_s h
            refine x_goes (x_runIN (As := []) (rest := [.ref (ad (rt (k0 + 4) ((4 : Int32)).toNatClampNeg)), .int (4 : Int32), .ref (ad (k0 + 4))]) F hP hS (c_X5_init l D cT lo nb w_99_5 ad (rt (k0 + 4) ((4 : Int32)).toNatClampNeg) hk_rt_k0_4_4_Int32_toNatClampNeg ha_rt_k0_4_4_Int32_toNatClampNeg w_103_5 hc_103_5) cw_X5_init nl_X1_55 rfl ii_X5_init ⟨rfl, rfl, Nat.le_of_ble_eq_true rfl, Nat.le_of_ble_eq_true rfl⟩ hl.1 rfl (Nat.le_of_ble_eq_true rfl) dX1_init_103 ⟨Nat.le_of_ble_eq_true rfl, Nat.le_of_ble_eq_true rfl⟩) hS (fun H locs hP hS hm => ?_)
            have hM_w := hM_w.trans hm
            have hn_k0 := hm.1 _ hn_k0
            have ha_k0_1 := hm.2 _ ha_k0_1
            have ha_k0_2 := hm.2 _ ha_k0_2
            have ha_k0_3 := hm.2 _ ha_k0_3
            have ha_k0_4 := hm.2 _ ha_k0_4
            have ha_k0_10 := hm.2 _ ha_k0_10
            have ha_k0_11 := hm.2 _ ha_k0_11
            have ha_k0_12 := hm.2 _ ha_k0_12
            have ha_rt_k0_4_0_Int32_toNatClampNeg := hm.2 _ ha_rt_k0_4_0_Int32_toNatClampNeg
            have ha_rt_k0_4_1_Int32_toNatClampNeg := hm.2 _ ha_rt_k0_4_1_Int32_toNatClampNeg
            have ha_rt_k0_4_2_Int32_toNatClampNeg := hm.2 _ ha_rt_k0_4_2_Int32_toNatClampNeg
            have ha_rt_k0_4_3_Int32_toNatClampNeg := hm.2 _ ha_rt_k0_4_3_Int32_toNatClampNeg
            have ha_rt_k0_4_4_Int32_toNatClampNeg := hm.2 _ ha_rt_k0_4_4_Int32_toNatClampNeg
            refine y_aast (ci' := 5) (C := RX5) (T := TX5) (N := 8) (t0 := 5) h F hP hS (carK_8 hk0) (by decide) (by decide) (n2 ha_k0_4) hk_rt_k0_4_4_Int32_toNatClampNeg ha_rt_k0_4_4_Int32_toNatClampNeg rfl rfl rfl dX1_init_106 (fun w_106_5 H locs hm h hP hS => ?_)
            have hM_w := hM_w.trans hm
            have hn_k0 := hm.1 _ hn_k0
            have ha_k0_1 := hm.2 _ ha_k0_1
            have ha_k0_2 := hm.2 _ ha_k0_2
            have ha_k0_3 := hm.2 _ ha_k0_3
            have ha_k0_4 := hm.2 _ ha_k0_4
            have ha_k0_10 := hm.2 _ ha_k0_10
            have ha_k0_11 := hm.2 _ ha_k0_11
            have ha_k0_12 := hm.2 _ ha_k0_12
            have ha_rt_k0_4_0_Int32_toNatClampNeg := hm.2 _ ha_rt_k0_4_0_Int32_toNatClampNeg
            have ha_rt_k0_4_1_Int32_toNatClampNeg := hm.2 _ ha_rt_k0_4_1_Int32_toNatClampNeg
            have ha_rt_k0_4_2_Int32_toNatClampNeg := hm.2 _ ha_rt_k0_4_2_Int32_toNatClampNeg
            have ha_rt_k0_4_3_Int32_toNatClampNeg := hm.2 _ ha_rt_k0_4_3_Int32_toNatClampNeg
            have ha_rt_k0_4_4_Int32_toNatClampNeg := hm.2 _ ha_rt_k0_4_4_Int32_toNatClampNeg
            refine lv_iinc (v := 5) (lv' := [(5, .int (5 : Int32)), (0, .ref (ad k0)), (1, .int a1), (2, .int a2), (3, .int a3), (4, .int a4)]) F.1 F.2.1 dX1_init_107 hl (k := 0) rfl (by decide) (Nat.le_of_ble_eq_true rfl) rfl (fun ls hl => ?_)
            refine lv_goto (tgt := 87) F.1 F.2.1 dX1_init_110 (by decide) ?_
            refine lv_iload F.1 F.2.1 dX1_init_87 (lv_at hl 0 rfl) ?_
            refine lv_iconst (v := 5) F.1 F.2.1 dX1_init_89 ic_5 ?_
            refine lv_icmp_ge (tgt := 113) F.1 F.2.1 dX1_init_90 (by decide) (fun hc => ?_) (fun hc => ?_)
            · refine y_ready h hP hk0 ftN_1 (fun w_r113 hm _ h hP => ?_)
              have hM_w := hM_w.trans hm
              refine W.widen (k := 12) (n := 72) (Nat.le_of_ble_eq_true rfl) (Nat.le_of_ble_eq_true rfl) ?_
              exact y_vretA h F hXA hr hP hS hM_w hlk dX1_init_113
            · exact absurd hc (by decide)
def f_X2_init (w : Wd) : Option Wd :=
q_nw w 40 (1, 20) 2 (fun w_7 =>
q_pt w_7 6 0 1 (fun w_9 =>
q_nw w_9 41 (2, 20) 2 (fun w_15 =>
q_pt w_15 6 1 1 (fun w_17 =>
q_nw w_17 42 (1, 4) 2 (fun w_22 =>
q_pt w_22 6 2 1 (fun w_24 =>
q_nw w_24 43 (1, 4) 2 (fun w_29 =>
q_pt w_29 6 3 1 (fun w_31 =>
q_nw w_31 44 (1, 4) 2 (fun w_36 =>
q_pt w_36 6 4 1 (fun w_38 =>
q_nw w_38 45 (1, 4) 2 (fun w_43 =>
q_pt w_43 6 5 1 (fun w_45 =>
q_nw w_45 46 (1, 4) 2 (fun w_50 =>
q_pt w_50 6 6 1 (fun w_52 =>
q_nw w_52 47 (1, 4) 2 (fun w_57 =>
q_pt w_57 6 8 1 (fun w_59 =>
q_nw w_59 48 (1, 4) 2 (fun w_64 =>
q_pt w_64 6 9 1 (fun w_66 =>
q_nw w_66 49 (1, 4) 2 (fun w_71 =>
q_pt w_71 6 10 1 (fun w_73 =>
q_cr w_73 6 0 (
q_bo (f_J7_fill_53178 w_73 40 20 (10 : Int32)) (fun w_82 =>
q_rd w_82 6 2 11 (fun w_r85 =>
some w_r85)))))))))))))))))))))))
set_option maxRecDepth 100000 in
set_option maxHeartbeats 4000000 in
theorem c_X2_init (l : Launch) (D : va_G) (cT : Nat → ClassId) (lo nb : Nat) (w : Wd) (ad0 : Nat → Nat) (ha0 : wA w 6 = 1) (w9 : Wd) (h : f_X2_init w = some w9) : Met l yX2_init (.code yX2_init cX2_init 1 none :: TW) { frames := 1, cells := 10, slots := 72, locals := 23 } (mPc D cT lo nb w ad0 [.ref (ad0 6)]) (mQA D cT lo nb w w9 ad0 none) 10 72 (fun q => lo ≤ q) := by
  unfold f_X2_init at h
  have hn_6 : wA w 6 ≠ 0 := by rw [ha0]; decide
  refine x_met (lv := [(0, .ref (ad0 6))]) (by decide +kernel) (Nat.le_of_ble_eq_true rfl) rfl ?_
  intro p e s m args below meth c ls F hr hlk hP hin hl
  have hx := F.1
  have hb := F.2.1
  have hS : va_S (fun q => lo ≤ q) s.heap s.heap [] := va_S.rf
  have hM_w : mono w w := mono.refl
  have hXA : ∀ k, wA w k ≠ 0 → ad0 k = ad0 k := fun _ _ => rfl
  refine lv_aload_n F.1 F.2.1 dX2_init_0 rfl (lv_at hl 0 rfl) ?_
  refine y_obj F lk_X2_3 vi_obj cd_obj hl.1 dX2_init_1 ⟨Nat.le_of_ble_eq_true rfl, Nat.le_of_ble_eq_true rfl⟩ ?_
  refine lv_aload_n F.1 F.2.1 dX2_init_4 rfl (lv_at hl 0 rfl) ?_
  refine lv_bipush (v := 20) F.1 F.2.1 dX2_init_5 ib_20 ?_
  refine y_newi (k := 40) h F hP hS ac_int (by decide) (by decide) (by decide) (Nat.le_of_ble_eq_true rfl) (Nat.le_of_ble_eq_true rfl) dX2_init_7 (fun w_7 ad H hm ha_40 _ hx h hP' hS => ?_)
  have e9 := hx 6 hn_6
  try rw [← e9] at hl
  try rw [← e9]
  have hP := hP'
  have hXA : ∀ k, wA w k ≠ 0 → ad k = ad0 k := fun k hk => (hx k (hM_w.1 k hk)).trans (hXA k hk)
  have hM_w := hm
  have hn_6 := hm.1 _ hn_6
  refine y_putFr h F hP hS k_6 hn_6 fl_X2_11 hin rfl rfl r_6_0 ha_40 (Or.inr ⟨_, rfl⟩) dX2_init_9 (fun w_9 H locs hm h hP hS => ?_)
  have hM_w := hM_w.trans hm
  have hn_6 := hm.1 _ hn_6
  have ha_40 := hm.2 _ ha_40
  refine lv_aload_n F.1 F.2.1 dX2_init_12 rfl (lv_at hl 0 rfl) ?_
  refine lv_bipush (v := 20) F.1 F.2.1 dX2_init_13 ib_20 ?_
  refine y_newz (k := 41) h F hP hS ac_boolean (by decide) (by decide) (by decide) (Nat.le_of_ble_eq_true rfl) (Nat.le_of_ble_eq_true rfl) dX2_init_15 (fun w_15 ad H hm ha_41 _ hx h hP' hS => ?_)
  have e9 := hx 6 hn_6
  try rw [← e9] at hl
  try rw [← e9]
  have hP := hP'
  have hXA : ∀ k, wA w k ≠ 0 → ad k = ad0 k := fun k hk => (hx k (hM_w.1 k hk)).trans (hXA k hk)
  have hM_w := hM_w.trans hm
  have hn_6 := hm.1 _ hn_6
  have ha_40 := hm.2 _ ha_40
  refine y_putFr h F hP hS k_6 hn_6 fl_X2_15 hin rfl rfl r_6_1 ha_41 (Or.inr ⟨_, rfl⟩) dX2_init_17 (fun w_17 H locs hm h hP hS => ?_)
  have hM_w := hM_w.trans hm
  have hn_6 := hm.1 _ hn_6
  have ha_40 := hm.2 _ ha_40
  have ha_41 := hm.2 _ ha_41
  refine lv_aload_n F.1 F.2.1 dX2_init_20 rfl (lv_at hl 0 rfl) ?_
  refine lv_iconst (v := 4) F.1 F.2.1 dX2_init_21 ic_4 ?_
  refine y_newi (k := 42) h F hP hS ac_int (by decide) (by decide) (by decide) (Nat.le_of_ble_eq_true rfl) (Nat.le_of_ble_eq_true rfl) dX2_init_22 (fun w_22 ad H hm ha_42 _ hx h hP' hS => ?_)
  have e9 := hx 6 hn_6
  try rw [← e9] at hl
  try rw [← e9]
  have hP := hP'
  have hXA : ∀ k, wA w k ≠ 0 → ad k = ad0 k := fun k hk => (hx k (hM_w.1 k hk)).trans (hXA k hk)
  have hM_w := hM_w.trans hm
  have hn_6 := hm.1 _ hn_6
  have ha_40 := hm.2 _ ha_40
  have ha_41 := hm.2 _ ha_41
  refine y_putFr h F hP hS k_6 hn_6 fl_X2_19 hin rfl rfl r_6_2 ha_42 (Or.inr ⟨_, rfl⟩) dX2_init_24 (fun w_24 H locs hm h hP hS => ?_)
  have hM_w := hM_w.trans hm
  have hn_6 := hm.1 _ hn_6
  have ha_40 := hm.2 _ ha_40
  have ha_41 := hm.2 _ ha_41
  have ha_42 := hm.2 _ ha_42
  refine lv_aload_n F.1 F.2.1 dX2_init_27 rfl (lv_at hl 0 rfl) ?_
  refine lv_iconst (v := 4) F.1 F.2.1 dX2_init_28 ic_4 ?_
  refine y_newi (k := 43) h F hP hS ac_int (by decide) (by decide) (by decide) (Nat.le_of_ble_eq_true rfl) (Nat.le_of_ble_eq_true rfl) dX2_init_29 (fun w_29 ad H hm ha_43 _ hx h hP' hS => ?_)
  have e9 := hx 6 hn_6
  try rw [← e9] at hl
  try rw [← e9]
  have hP := hP'
  have hXA : ∀ k, wA w k ≠ 0 → ad k = ad0 k := fun k hk => (hx k (hM_w.1 k hk)).trans (hXA k hk)
  have hM_w := hM_w.trans hm
  have hn_6 := hm.1 _ hn_6
  have ha_40 := hm.2 _ ha_40
  have ha_41 := hm.2 _ ha_41
  have ha_42 := hm.2 _ ha_42
  refine y_putFr h F hP hS k_6 hn_6 fl_X2_22 hin rfl rfl r_6_3 ha_43 (Or.inr ⟨_, rfl⟩) dX2_init_31 (fun w_31 H locs hm h hP hS => ?_)
  have hM_w := hM_w.trans hm
  have hn_6 := hm.1 _ hn_6
  have ha_40 := hm.2 _ ha_40
  have ha_41 := hm.2 _ ha_41
  have ha_42 := hm.2 _ ha_42
  have ha_43 := hm.2 _ ha_43
  refine lv_aload_n F.1 F.2.1 dX2_init_34 rfl (lv_at hl 0 rfl) ?_
  refine lv_iconst (v := 4) F.1 F.2.1 dX2_init_35 ic_4 ?_
  refine y_newi (k := 44) h F hP hS ac_int (by decide) (by decide) (by decide) (Nat.le_of_ble_eq_true rfl) (Nat.le_of_ble_eq_true rfl) dX2_init_36 (fun w_36 ad H hm ha_44 _ hx h hP' hS => ?_)
  have e9 := hx 6 hn_6
  try rw [← e9] at hl
  try rw [← e9]
  have hP := hP'
  have hXA : ∀ k, wA w k ≠ 0 → ad k = ad0 k := fun k hk => (hx k (hM_w.1 k hk)).trans (hXA k hk)
  have hM_w := hM_w.trans hm
  have hn_6 := hm.1 _ hn_6
  have ha_40 := hm.2 _ ha_40
  have ha_41 := hm.2 _ ha_41
  have ha_42 := hm.2 _ ha_42
  have ha_43 := hm.2 _ ha_43
  refine y_putFr h F hP hS k_6 hn_6 fl_X2_25 hin rfl rfl r_6_4 ha_44 (Or.inr ⟨_, rfl⟩) dX2_init_38 (fun w_38 H locs hm h hP hS => ?_)
  have hM_w := hM_w.trans hm
  have hn_6 := hm.1 _ hn_6
  have ha_40 := hm.2 _ ha_40
  have ha_41 := hm.2 _ ha_41
  have ha_42 := hm.2 _ ha_42
  have ha_43 := hm.2 _ ha_43
  have ha_44 := hm.2 _ ha_44
  refine lv_aload_n F.1 F.2.1 dX2_init_41 rfl (lv_at hl 0 rfl) ?_
  refine lv_iconst (v := 4) F.1 F.2.1 dX2_init_42 ic_4 ?_
  refine y_newi (k := 45) h F hP hS ac_int (by decide) (by decide) (by decide) (Nat.le_of_ble_eq_true rfl) (Nat.le_of_ble_eq_true rfl) dX2_init_43 (fun w_43 ad H hm ha_45 _ hx h hP' hS => ?_)
  have e9 := hx 6 hn_6
  try rw [← e9] at hl
  try rw [← e9]
  have hP := hP'
  have hXA : ∀ k, wA w k ≠ 0 → ad k = ad0 k := fun k hk => (hx k (hM_w.1 k hk)).trans (hXA k hk)
  have hM_w := hM_w.trans hm
  have hn_6 := hm.1 _ hn_6
  have ha_40 := hm.2 _ ha_40
  have ha_41 := hm.2 _ ha_41
  have ha_42 := hm.2 _ ha_42
  have ha_43 := hm.2 _ ha_43
  have ha_44 := hm.2 _ ha_44
  refine y_putFr h F hP hS k_6 hn_6 fl_X2_28 hin rfl rfl r_6_5 ha_45 (Or.inr ⟨_, rfl⟩) dX2_init_45 (fun w_45 H locs hm h hP hS => ?_)
  have hM_w := hM_w.trans hm
  have hn_6 := hm.1 _ hn_6
  have ha_40 := hm.2 _ ha_40
  have ha_41 := hm.2 _ ha_41
  have ha_42 := hm.2 _ ha_42
  have ha_43 := hm.2 _ ha_43
  have ha_44 := hm.2 _ ha_44
  have ha_45 := hm.2 _ ha_45
  refine lv_aload_n F.1 F.2.1 dX2_init_48 rfl (lv_at hl 0 rfl) ?_
  refine lv_iconst (v := 4) F.1 F.2.1 dX2_init_49 ic_4 ?_
  refine y_newi (k := 46) h F hP hS ac_int (by decide) (by decide) (by decide) (Nat.le_of_ble_eq_true rfl) (Nat.le_of_ble_eq_true rfl) dX2_init_50 (fun w_50 ad H hm ha_46 _ hx h hP' hS => ?_)
  have e9 := hx 6 hn_6
  try rw [← e9] at hl
  try rw [← e9]
  have hP := hP'
  have hXA : ∀ k, wA w k ≠ 0 → ad k = ad0 k := fun k hk => (hx k (hM_w.1 k hk)).trans (hXA k hk)
  have hM_w := hM_w.trans hm
  have hn_6 := hm.1 _ hn_6
  have ha_40 := hm.2 _ ha_40
  have ha_41 := hm.2 _ ha_41
  have ha_42 := hm.2 _ ha_42
  have ha_43 := hm.2 _ ha_43
  have ha_44 := hm.2 _ ha_44
  have ha_45 := hm.2 _ ha_45
  refine y_putFr h F hP hS k_6 hn_6 fl_X2_31 hin rfl rfl r_6_6 ha_46 (Or.inr ⟨_, rfl⟩) dX2_init_52 (fun w_52 H locs hm h hP hS => ?_)
  have hM_w := hM_w.trans hm
  have hn_6 := hm.1 _ hn_6
  have ha_40 := hm.2 _ ha_40
  have ha_41 := hm.2 _ ha_41
  have ha_42 := hm.2 _ ha_42
  have ha_43 := hm.2 _ ha_43
  have ha_44 := hm.2 _ ha_44
  have ha_45 := hm.2 _ ha_45
  have ha_46 := hm.2 _ ha_46
  refine lv_aload_n F.1 F.2.1 dX2_init_55 rfl (lv_at hl 0 rfl) ?_
  refine lv_iconst (v := 4) F.1 F.2.1 dX2_init_56 ic_4 ?_
  refine y_newi (k := 47) h F hP hS ac_int (by decide) (by decide) (by decide) (Nat.le_of_ble_eq_true rfl) (Nat.le_of_ble_eq_true rfl) dX2_init_57 (fun w_57 ad H hm ha_47 _ hx h hP' hS => ?_)
  have e9 := hx 6 hn_6
  try rw [← e9] at hl
  try rw [← e9]
  have hP := hP'
  have hXA : ∀ k, wA w k ≠ 0 → ad k = ad0 k := fun k hk => (hx k (hM_w.1 k hk)).trans (hXA k hk)
  have hM_w := hM_w.trans hm
  have hn_6 := hm.1 _ hn_6
  have ha_40 := hm.2 _ ha_40
  have ha_41 := hm.2 _ ha_41
  have ha_42 := hm.2 _ ha_42
  have ha_43 := hm.2 _ ha_43
  have ha_44 := hm.2 _ ha_44
  have ha_45 := hm.2 _ ha_45
  have ha_46 := hm.2 _ ha_46
  refine y_putFr h F hP hS k_6 hn_6 fl_X2_34 hin rfl rfl r_6_8 ha_47 (Or.inr ⟨_, rfl⟩) dX2_init_59 (fun w_59 H locs hm h hP hS => ?_)
  have hM_w := hM_w.trans hm
  have hn_6 := hm.1 _ hn_6
  have ha_40 := hm.2 _ ha_40
  have ha_41 := hm.2 _ ha_41
  have ha_42 := hm.2 _ ha_42
  have ha_43 := hm.2 _ ha_43
  have ha_44 := hm.2 _ ha_44
  have ha_45 := hm.2 _ ha_45
  have ha_46 := hm.2 _ ha_46
  have ha_47 := hm.2 _ ha_47
  refine lv_aload_n F.1 F.2.1 dX2_init_62 rfl (lv_at hl 0 rfl) ?_
  refine lv_iconst (v := 4) F.1 F.2.1 dX2_init_63 ic_4 ?_
  refine y_newi (k := 48) h F hP hS ac_int (by decide) (by decide) (by decide) (Nat.le_of_ble_eq_true rfl) (Nat.le_of_ble_eq_true rfl) dX2_init_64 (fun w_64 ad H hm ha_48 _ hx h hP' hS => ?_)
  have e9 := hx 6 hn_6
  try rw [← e9] at hl
  try rw [← e9]
  have hP := hP'
  have hXA : ∀ k, wA w k ≠ 0 → ad k = ad0 k := fun k hk => (hx k (hM_w.1 k hk)).trans (hXA k hk)
  have hM_w := hM_w.trans hm
  have hn_6 := hm.1 _ hn_6
  have ha_40 := hm.2 _ ha_40
  have ha_41 := hm.2 _ ha_41
  have ha_42 := hm.2 _ ha_42
  have ha_43 := hm.2 _ ha_43
  have ha_44 := hm.2 _ ha_44
  have ha_45 := hm.2 _ ha_45
  have ha_46 := hm.2 _ ha_46
  have ha_47 := hm.2 _ ha_47
  refine y_putFr h F hP hS k_6 hn_6 fl_X2_37 hin rfl rfl r_6_9 ha_48 (Or.inr ⟨_, rfl⟩) dX2_init_66 (fun w_66 H locs hm h hP hS => ?_)
  have hM_w := hM_w.trans hm
  have hn_6 := hm.1 _ hn_6
  have ha_40 := hm.2 _ ha_40
  have ha_41 := hm.2 _ ha_41
  have ha_42 := hm.2 _ ha_42
  have ha_43 := hm.2 _ ha_43
  have ha_44 := hm.2 _ ha_44
  have ha_45 := hm.2 _ ha_45
  have ha_46 := hm.2 _ ha_46
  have ha_47 := hm.2 _ ha_47
  have ha_48 := hm.2 _ ha_48
  refine lv_aload_n F.1 F.2.1 dX2_init_69 rfl (lv_at hl 0 rfl) ?_
  refine lv_iconst (v := 4) F.1 F.2.1 dX2_init_70 ic_4 ?_
  refine y_newi (k := 49) h F hP hS ac_int (by decide) (by decide) (by decide) (Nat.le_of_ble_eq_true rfl) (Nat.le_of_ble_eq_true rfl) dX2_init_71 (fun w_71 ad H hm ha_49 _ hx h hP' hS => ?_)
  have e9 := hx 6 hn_6
  try rw [← e9] at hl
  try rw [← e9]
  have hP := hP'
  have hXA : ∀ k, wA w k ≠ 0 → ad k = ad0 k := fun k hk => (hx k (hM_w.1 k hk)).trans (hXA k hk)
  have hM_w := hM_w.trans hm
  have hn_6 := hm.1 _ hn_6
  have ha_40 := hm.2 _ ha_40
  have ha_41 := hm.2 _ ha_41
  have ha_42 := hm.2 _ ha_42
  have ha_43 := hm.2 _ ha_43
  have ha_44 := hm.2 _ ha_44
  have ha_45 := hm.2 _ ha_45
  have ha_46 := hm.2 _ ha_46
  have ha_47 := hm.2 _ ha_47
  have ha_48 := hm.2 _ ha_48
  refine y_putFr h F hP hS k_6 hn_6 fl_X2_40 hin rfl rfl r_6_10 ha_49 (Or.inr ⟨_, rfl⟩) dX2_init_73 (fun w_73 H locs hm h hP hS => ?_)
  have hM_w := hM_w.trans hm
  have hn_6 := hm.1 _ hn_6
  have ha_40 := hm.2 _ ha_40
  have ha_41 := hm.2 _ ha_41
  have ha_42 := hm.2 _ ha_42
  have ha_43 := hm.2 _ ha_43
  have ha_44 := hm.2 _ ha_44
  have ha_45 := hm.2 _ ha_45
  have ha_46 := hm.2 _ ha_46
  have ha_47 := hm.2 _ ha_47
  have ha_48 := hm.2 _ ha_48
  have ha_49 := hm.2 _ ha_49
  refine lv_aload_n F.1 F.2.1 dX2_init_76 rfl (lv_at hl 0 rfl) ?_
  refine y_getrS h F hP k_6 hn_6 fl_X2_11 rfl r_6_0 dX2_init_77 (fun ha_40 h => ?_)
  refine lv_bipush (v := 10) F.1 F.2.1 dX2_init_80 ib_10 ?_
  obtain ⟨w_82, hc_82, h⟩ := bo_s h
  refine x_goes (x_runS (As := [.ref (ad 40), .int (10 : Int32)]) (rest := []) F hP hS (c_J7_fill_53178 l D cT lo nb w_73 ad 40 20 k_40 ha_40 (10 : Int32) w_82 hc_82) cw_J7_fill_53178 lk_X2_43 st_J7_fill_53178 ⟨rfl, rfl, Nat.le_of_ble_eq_true rfl, Nat.le_of_ble_eq_true rfl⟩ hl.1 rfl (Nat.le_of_ble_eq_true rfl) dX2_init_82 ⟨Nat.le_of_ble_eq_true rfl, Nat.le_of_ble_eq_true rfl⟩) hS (fun H locs hP hS hm => ?_)
  have hM_w := hM_w.trans hm
  have hn_6 := hm.1 _ hn_6
  have ha_40 := hm.2 _ ha_40
  have ha_41 := hm.2 _ ha_41
  have ha_42 := hm.2 _ ha_42
  have ha_43 := hm.2 _ ha_43
  have ha_44 := hm.2 _ ha_44
  have ha_45 := hm.2 _ ha_45
  have ha_46 := hm.2 _ ha_46
  have ha_47 := hm.2 _ ha_47
  have ha_48 := hm.2 _ ha_48
  have ha_49 := hm.2 _ ha_49
  refine y_ready h hP k_6 ftN_2 (fun w_r85 hm _ h hP => ?_)
  have hM_w := hM_w.trans hm
  refine W.widen (k := 10) (n := 72) (Nat.le_of_ble_eq_true rfl) (Nat.le_of_ble_eq_true rfl) ?_
  exact y_vretA h F hXA hr hP hS hM_w hlk dX2_init_85
def f_X3_init (w : Wd) : Option Wd :=
q_nw w 22 (5, 4) 2 (fun w_6 =>
q_pt w_6 3 1 1 (fun w_9 =>
q_pt w_9 3 3 (4 : Int32) (fun w_14 =>
q_pt w_14 3 4 (3 : Int32) (fun w_19 =>
q_pt w_19 3 5 (20 : Int32) (fun w_25 =>
q_pt w_25 3 6 (12 : Int32) (fun w_31 =>
q_nw w_31 23 (15, 0) 2 (fun w_35 =>
q_bo (f_X5_init w_35 23) (fun w_39 =>
q_pt w_39 3 7 1 (fun w_42 =>
q_pt w_42 3 0 1 (fun w_47 =>
q_rd w_47 3 3 11 (fun w_r50 =>
some w_r50)))))))))))
set_option maxRecDepth 100000 in
set_option maxHeartbeats 4000000 in
theorem c_X3_init (l : Launch) (D : va_G) (cT : Nat → ClassId) (lo nb : Nat) (w : Wd) (ad0 : Nat → Nat) (ha0 : wA w 3 = 1) (ha1 : wA w 2 = 2) (w9 : Wd) (h : f_X3_init w = some w9) : Met l yX3_init (.code yX3_init cX3_init 2 none :: TW) { frames := 2, cells := 2, slots := 12, locals := 40 } (mPc D cT lo nb w ad0 [.ref (ad0 3), .ref (ad0 2)]) (mQA D cT lo nb w w9 ad0 none) 2 12 (fun q => lo ≤ q) := by
  unfold f_X3_init at h
  have hn_3 : wA w 3 ≠ 0 := by rw [ha0]; decide
  refine x_met (lv := [(0, .ref (ad0 3)), (1, .ref (ad0 2))]) (by decide +kernel) (Nat.le_of_ble_eq_true rfl) rfl ?_
  intro p e s m args below meth c ls F hr hlk hP hin hl
  have hx := F.1
  have hb := F.2.1
  have hS : va_S (fun q => lo ≤ q) s.heap s.heap [] := va_S.rf
  have hM_w : mono w w := mono.refl
  have hXA : ∀ k, wA w k ≠ 0 → ad0 k = ad0 k := fun _ _ => rfl
  refine lv_aload_n F.1 F.2.1 dX3_init_0 rfl (lv_at hl 0 rfl) ?_
  refine y_obj F lk_X3_3 vi_obj cd_obj hl.1 dX3_init_1 ⟨Nat.le_of_ble_eq_true rfl, Nat.le_of_ble_eq_true rfl⟩ ?_
  refine lv_aload_n F.1 F.2.1 dX3_init_4 rfl (lv_at hl 0 rfl) ?_
  refine lv_iconst (v := 4) F.1 F.2.1 dX3_init_5 ic_4 ?_
  refine y_newq (k := 22) (t0 := 4) h F hP hS cl_X3_11 ao_X1 rfl (by decide) (by decide) (by decide) (by decide) (by decide) (Nat.le_of_ble_eq_true rfl) (Nat.le_of_ble_eq_true rfl) dX3_init_6 (fun w_6 ad H hm ha_22 _ hx h hP' hS => ?_)
  have e9 := hx 3 hn_3
  try rw [← e9] at hl
  try rw [← e9]
  have e9 := hx 2 (n2 ha1)
  try rw [← e9] at hl
  try rw [← e9]
  have hP := hP'
  have hXA : ∀ k, wA w k ≠ 0 → ad k = ad0 k := fun k hk => (hx k (hM_w.1 k hk)).trans (hXA k hk)
  have hM_w := hm
  have hn_3 := hm.1 _ hn_3
  have ha1 := hm.2 _ ha1
  refine y_putFr h F hP hS k_3 hn_3 fl_X3_13 hin rfl rfl r_3_1 ha_22 (Or.inr ⟨_, rfl⟩) dX3_init_9 (fun w_9 H locs hm h hP hS => ?_)
  have hM_w := hM_w.trans hm
  have hn_3 := hm.1 _ hn_3
  have ha1 := hm.2 _ ha1
  have ha_22 := hm.2 _ ha_22
  refine lv_aload_n F.1 F.2.1 dX3_init_12 rfl (lv_at hl 0 rfl) ?_
  refine lv_iconst (v := 4) F.1 F.2.1 dX3_init_13 ic_4 ?_
  refine y_puti h F hP hS k_3 hn_3 fl_X3_17 rfl dX3_init_14 (fun w_14 H locs hm h hP hS => ?_)
  have hM_w := hM_w.trans hm
  have hn_3 := hm.1 _ hn_3
  have ha1 := hm.2 _ ha1
  have ha_22 := hm.2 _ ha_22
  refine lv_aload_n F.1 F.2.1 dX3_init_17 rfl (lv_at hl 0 rfl) ?_
  refine lv_iconst (v := 3) F.1 F.2.1 dX3_init_18 ic_3 ?_
  refine y_puti h F hP hS k_3 hn_3 fl_X3_21 rfl dX3_init_19 (fun w_19 H locs hm h hP hS => ?_)
  have hM_w := hM_w.trans hm
  have hn_3 := hm.1 _ hn_3
  have ha1 := hm.2 _ ha1
  have ha_22 := hm.2 _ ha_22
  refine lv_aload_n F.1 F.2.1 dX3_init_22 rfl (lv_at hl 0 rfl) ?_
  refine lv_bipush (v := 20) F.1 F.2.1 dX3_init_23 ib_20 ?_
  refine y_puti h F hP hS k_3 hn_3 fl_X3_24 rfl dX3_init_25 (fun w_25 H locs hm h hP hS => ?_)
  have hM_w := hM_w.trans hm
  have hn_3 := hm.1 _ hn_3
  have ha1 := hm.2 _ ha1
  have ha_22 := hm.2 _ ha_22
  refine lv_aload_n F.1 F.2.1 dX3_init_28 rfl (lv_at hl 0 rfl) ?_
  refine lv_bipush (v := 12) F.1 F.2.1 dX3_init_29 ib_12 ?_
  refine y_puti h F hP hS k_3 hn_3 fl_X3_27 rfl dX3_init_31 (fun w_31 H locs hm h hP hS => ?_)
  have hM_w := hM_w.trans hm
  have hn_3 := hm.1 _ hn_3
  have ha1 := hm.2 _ ha1
  have ha_22 := hm.2 _ ha_22
  refine lv_aload_n F.1 F.2.1 dX3_init_34 rfl (lv_at hl 0 rfl) ?_
  refine y_new (k := 23) (ci := 5) h F hP hS cl_X3_30 ib_X5 ini_X5 rfl inw_X5 tyX5_ok ftD_5 (Or.inr ⟨rfl, ftZ_5⟩) (Nat.le_of_ble_eq_true rfl) (Nat.le_of_ble_eq_true rfl) dX3_init_35 (fun w_35 ad H hm ha_23 hk_23 hx h hP' hS => ?_)
  have e9 := hx 3 hn_3
  try rw [← e9] at hl
  try rw [← e9]
  have e9 := hx 2 (n2 ha1)
  try rw [← e9] at hl
  try rw [← e9]
  have hP := hP'
  have hXA : ∀ k, wA w k ≠ 0 → ad k = ad0 k := fun k hk => (hx k (hM_w.1 k hk)).trans (hXA k hk)
  have hM_w := hM_w.trans hm
  have hn_3 := hm.1 _ hn_3
  have ha1 := hm.2 _ ha1
  have ha_22 := hm.2 _ ha_22
  refine lv_dup F.1 F.2.1 dX3_init_38 rfl ?_
  obtain ⟨w_39, hc_39, h⟩ := bo_s h
  refine x_goes (x_runIN (As := []) (rest := [.ref (ad 23), .ref (ad 3)]) F hP hS (c_X5_init l D cT lo nb w_35 ad 23 k_23 ha_23 w_39 hc_39) cw_X5_init nl_X3_32 rfl ii_X5_init ⟨rfl, rfl, Nat.le_of_ble_eq_true rfl, Nat.le_of_ble_eq_true rfl⟩ hl.1 rfl (Nat.le_of_ble_eq_true rfl) dX3_init_39 ⟨Nat.le_of_ble_eq_true rfl, Nat.le_of_ble_eq_true rfl⟩) hS (fun H locs hP hS hm => ?_)
  have hM_w := hM_w.trans hm
  have hn_3 := hm.1 _ hn_3
  have ha1 := hm.2 _ ha1
  have ha_22 := hm.2 _ ha_22
  have ha_23 := hm.2 _ ha_23
  refine y_putFr h F hP hS k_3 hn_3 fl_X3_33 hin rfl rfl r_3_7 ha_23 (Or.inl ⟨_, rfl⟩) dX3_init_42 (fun w_42 H locs hm h hP hS => ?_)
  have hM_w := hM_w.trans hm
  have hn_3 := hm.1 _ hn_3
  have ha1 := hm.2 _ ha1
  have ha_22 := hm.2 _ ha_22
  have ha_23 := hm.2 _ ha_23
  refine lv_aload_n F.1 F.2.1 dX3_init_45 rfl (lv_at hl 0 rfl) ?_
  refine lv_aload_n F.1 F.2.1 dX3_init_46 rfl (lv_at hl 1 rfl) ?_
  refine y_putFr h F hP hS k_3 hn_3 fl_X3_37 hin rfl rfl r_3_0 ha1 (Or.inl ⟨_, rfl⟩) dX3_init_47 (fun w_47 H locs hm h hP hS => ?_)
  have hM_w := hM_w.trans hm
  have hn_3 := hm.1 _ hn_3
  have ha1 := hm.2 _ ha1
  have ha_22 := hm.2 _ ha_22
  have ha_23 := hm.2 _ ha_23
  refine y_ready h hP k_3 ftN_3 (fun w_r50 hm _ h hP => ?_)
  have hM_w := hM_w.trans hm
  refine W.widen (k := 2) (n := 12) (Nat.le_of_ble_eq_true rfl) (Nat.le_of_ble_eq_true rfl) ?_
  exact y_vretA h F hXA hr hP hS hM_w hlk dX3_init_50
def f_X3_addCar (w : Wd) (a1 : Int32) (a2 : Int32) (a3 : Int32) (a4 : Int32) : Option (Int32 × Wd) :=
if (f_X11_within a1 (2 : Int32) (30 : Int32)) = 0 then
some ((-2 : Int32), w)
else
if (f_X11_within a2 (2 : Int32) (30 : Int32)) = 0 then
some ((-2 : Int32), w)
else
if (f_X11_within a3 (1 : Int32) (999 : Int32)) = 0 then
some ((-2 : Int32), w)
else
if (f_X11_within a4 (0 : Int32) (20 : Int32)) = 0 then
some ((-2 : Int32), w)
else
q_gt w 3 2 (fun v_46 =>
if v_46 < (4 : Int32) then
q_gt w 3 2 (fun v_61 =>
q_nw w (rt 22 (v_61).toNatClampNeg) (11, 0) 1 (fun w_64 =>
q_bo (f_X1_init w_64 (rt 22 (v_61).toNatClampNeg) a1 a2 a3 a4) (fun w_73 =>
q_ck w_73 (rt 22 (v_61).toNatClampNeg) 2 (
q_st w_73 22 4 v_61 1 (fun w_76 =>
q_gt w_76 3 2 (fun v_79 =>
q_pt w_76 3 2 (v_79 + (1 : Int32)) (fun w_85 =>
some (v_79, w_85))))))))
else
some ((-4 : Int32), w))
set_option maxRecDepth 100000 in
set_option maxHeartbeats 4000000 in
theorem c_X3_addCar (l : Launch) (D : va_G) (cT : Nat → ClassId) (lo : Nat) (w : Wd) (ad0 : Nat → Nat) (a1 : Int32) (a2 : Int32) (a3 : Int32) (a4 : Int32) (r : Int32) (w9 : Wd) (h : f_X3_addCar w a1 a2 a3 a4 = some (r, w9)) : Met l yX3_addCar (.code yX3_addCar cX3_addCar 5 (some .int) :: TW) { frames := 3, cells := 13, slots := 89, locals := 65 } (mPc D cT lo NB w ad0 [.ref (ad0 3), .int a1, .int a2, .int a3, .int a4]) (mQA D cT lo NB w w9 ad0 (some (.int r))) 13 89 (fun q => lo ≤ q) := by
  unfold f_X3_addCar at h
  refine x_met (lv := [(0, .ref (ad0 3)), (1, .int a1), (2, .int a2), (3, .int a3), (4, .int a4)]) (by decide +kernel) (Nat.le_of_ble_eq_true rfl) rfl ?_
  intro p e s m args below meth c ls F hr hlk hP hin hl
  have hx := F.1
  have hb := F.2.1
  have hS : va_S (fun q => lo ≤ q) s.heap s.heap [] := va_S.rf
  have hM_w : mono w w := mono.refl
  have hXA : ∀ k, wA w k ≠ 0 → ad0 k = ad0 k := fun _ _ => rfl
  refine lv_iload_n F.1 F.2.1 dX3_addCar_0 rfl (lv_at hl 1 rfl) ?_
  refine lv_iconst (v := 2) F.1 F.2.1 dX3_addCar_1 ic_2 ?_
  refine lv_bipush (v := 30) F.1 F.2.1 dX3_addCar_2 ib_30 ?_
  refine x_goesZ (x_runSN (As := [.int a1, .int (2 : Int32), .int (30 : Int32)]) (rest := []) F hP hS (c_X11_within l D cT lo NB w ad0 a1 (2 : Int32) (30 : Int32)) cw_X11_within nl_X3_44 st_X11_within ⟨rfl, rfl, Nat.le_of_ble_eq_true rfl, Nat.le_of_ble_eq_true rfl⟩ hl.1 rfl (Nat.le_of_ble_eq_true rfl) dX3_addCar_4 ⟨Nat.le_of_ble_eq_true rfl, Nat.le_of_ble_eq_true rfl⟩) hS (fun H locs hz_4 hP hS _ => ?_)
  refine lv_if_eq (tgt := 42) F.1 F.2.1 dX3_addCar_7 (by decide) (fun hc => ?_) (fun hc => ?_)
  · have h := if_t _ hc h
    refine lv_bipush (v := -2) F.1 F.2.1 dX3_addCar_42 ib_m2 ?_
    refine W.widen (k := 13) (n := 89) (Nat.le_of_ble_eq_true rfl) (Nat.le_of_ble_eq_true rfl) ?_
    exact y_iretA h F hXA hr hP hS mono.refl hlk dX3_addCar_44
  · have h := if_f _ hc h
    refine lv_iload_n F.1 F.2.1 dX3_addCar_10 rfl (lv_at hl 2 rfl) ?_
    refine lv_iconst (v := 2) F.1 F.2.1 dX3_addCar_11 ic_2 ?_
    refine lv_bipush (v := 30) F.1 F.2.1 dX3_addCar_12 ib_30 ?_
    refine x_goesZ (x_runSN (As := [.int a2, .int (2 : Int32), .int (30 : Int32)]) (rest := []) F hP hS (c_X11_within l D cT lo NB w ad0 a2 (2 : Int32) (30 : Int32)) cw_X11_within nl_X3_44 st_X11_within ⟨rfl, rfl, Nat.le_of_ble_eq_true rfl, Nat.le_of_ble_eq_true rfl⟩ hl.1 rfl (Nat.le_of_ble_eq_true rfl) dX3_addCar_14 ⟨Nat.le_of_ble_eq_true rfl, Nat.le_of_ble_eq_true rfl⟩) hS (fun H locs hz_14 hP hS _ => ?_)
    refine lv_if_eq (tgt := 42) F.1 F.2.1 dX3_addCar_17 (by decide) (fun hc => ?_) (fun hc => ?_)
    · have h := if_t _ hc h
      refine lv_bipush (v := -2) F.1 F.2.1 dX3_addCar_42 ib_m2 ?_
      refine W.widen (k := 13) (n := 89) (Nat.le_of_ble_eq_true rfl) (Nat.le_of_ble_eq_true rfl) ?_
      exact y_iretA h F hXA hr hP hS mono.refl hlk dX3_addCar_44
    · have h := if_f _ hc h
      refine lv_iload_n F.1 F.2.1 dX3_addCar_20 rfl (lv_at hl 3 rfl) ?_
      refine lv_iconst (v := 1) F.1 F.2.1 dX3_addCar_21 ic_1 ?_
      refine lv_sipush (v := 999) F.1 F.2.1 dX3_addCar_22 is_999 ?_
      refine x_goesZ (x_runSN (As := [.int a3, .int (1 : Int32), .int (999 : Int32)]) (rest := []) F hP hS (c_X11_within l D cT lo NB w ad0 a3 (1 : Int32) (999 : Int32)) cw_X11_within nl_X3_44 st_X11_within ⟨rfl, rfl, Nat.le_of_ble_eq_true rfl, Nat.le_of_ble_eq_true rfl⟩ hl.1 rfl (Nat.le_of_ble_eq_true rfl) dX3_addCar_25 ⟨Nat.le_of_ble_eq_true rfl, Nat.le_of_ble_eq_true rfl⟩) hS (fun H locs hz_25 hP hS _ => ?_)
      refine lv_if_eq (tgt := 42) F.1 F.2.1 dX3_addCar_28 (by decide) (fun hc => ?_) (fun hc => ?_)
      · have h := if_t _ hc h
        refine lv_bipush (v := -2) F.1 F.2.1 dX3_addCar_42 ib_m2 ?_
        refine W.widen (k := 13) (n := 89) (Nat.le_of_ble_eq_true rfl) (Nat.le_of_ble_eq_true rfl) ?_
        exact y_iretA h F hXA hr hP hS mono.refl hlk dX3_addCar_44
      · have h := if_f _ hc h
        refine lv_iload F.1 F.2.1 dX3_addCar_31 (lv_at hl 4 rfl) ?_
        refine lv_iconst (v := 0) F.1 F.2.1 dX3_addCar_33 ic_0 ?_
        refine lv_bipush (v := 20) F.1 F.2.1 dX3_addCar_34 ib_20 ?_
        refine x_goesZ (x_runSN (As := [.int a4, .int (0 : Int32), .int (20 : Int32)]) (rest := []) F hP hS (c_X11_within l D cT lo NB w ad0 a4 (0 : Int32) (20 : Int32)) cw_X11_within nl_X3_44 st_X11_within ⟨rfl, rfl, Nat.le_of_ble_eq_true rfl, Nat.le_of_ble_eq_true rfl⟩ hl.1 rfl (Nat.le_of_ble_eq_true rfl) dX3_addCar_36 ⟨Nat.le_of_ble_eq_true rfl, Nat.le_of_ble_eq_true rfl⟩) hS (fun H locs hz_36 hP hS _ => ?_)
        refine lv_if_ne (tgt := 45) F.1 F.2.1 dX3_addCar_39 (by decide) (fun hc => ?_) (fun hc => ?_)
        · have h := if_f _ hc h
          refine lv_aload_n F.1 F.2.1 dX3_addCar_45 rfl (lv_at hl 0 rfl) ?_
          refine y_geti h F hP k_3 (n2 (hP.al 3 rfl)) fl_X3_41 rfl dX3_addCar_46 (fun v_46 h => ?_)
          refine lv_iconst (v := 4) F.1 F.2.1 dX3_addCar_49 ic_4 ?_
          refine lv_icmp_lt (tgt := 56) F.1 F.2.1 dX3_addCar_50 (by decide) (fun hc => ?_) (fun hc => ?_)
          · have h := if_t _ hc h
            refine lv_aload_n F.1 F.2.1 dX3_addCar_56 rfl (lv_at hl 0 rfl) ?_
            refine x_getr F hP k_3 (hP.al 3 rfl) fl_X3_13 rfl r_3_1 dX3_addCar_57 ?_
            refine lv_aload_n F.1 F.2.1 dX3_addCar_60 rfl (lv_at hl 0 rfl) ?_
            refine y_geti h F hP k_3 (n2 (hP.al 3 rfl)) fl_X3_41 rfl dX3_addCar_61 (fun v_61 h => ?_)
            refine y_new (k := (rt 22 (v_61).toNatClampNeg)) (ci := 1) h F hP hS cl_X3_11 ib_X1 ini_X1 rfl inw_X1 tyX1_ok ftD_1 (Or.inl rfl) (Nat.le_of_ble_eq_true rfl) (Nat.le_of_ble_eq_true rfl) dX3_addCar_64 (fun w_64 ad H hm hw_rt_22_v_61_toNatClampNeg hk_rt_22_v_61_toNatClampNeg hx h hP' hS => ?_)
            have e9 := hx 3 (n2 (hP.al 3 rfl))
            try rw [← e9] at hl
            try rw [← e9]
            have e9 := hx 22 (n2 (hP.al 22 rfl))
            try rw [← e9] at hl
            try rw [← e9]
            have hP := hP'
            have hXA : ∀ k, wA w k ≠ 0 → ad k = ad0 k := fun k hk => (hx k (hM_w.1 k hk)).trans (hXA k hk)
            have hM_w := hm
            have hn_rt_22_v_61_toNatClampNeg : wA w_64 (rt 22 (v_61).toNatClampNeg) ≠ 0 := by rw [hw_rt_22_v_61_toNatClampNeg]; decide
            refine lv_dup F.1 F.2.1 dX3_addCar_67 rfl ?_
            refine lv_iload_n F.1 F.2.1 dX3_addCar_68 rfl (lv_at hl 1 rfl) ?_
            refine lv_iload_n F.1 F.2.1 dX3_addCar_69 rfl (lv_at hl 2 rfl) ?_
            refine lv_iload_n F.1 F.2.1 dX3_addCar_70 rfl (lv_at hl 3 rfl) ?_
            refine lv_iload F.1 F.2.1 dX3_addCar_71 (lv_at hl 4 rfl) ?_
            obtain ⟨w_73, hc_73, h⟩ := bo_s h
            refine x_goesA (x_runI (As := [.int a1, .int a2, .int a3, .int a4]) (rest := [.ref (ad (rt 22 (v_61).toNatClampNeg)), .int v_61, .ref (ad 22)]) F hP hS (c_X1_init l D cT lo NB w_64 ad (rt 22 (v_61).toNatClampNeg) hk_rt_22_v_61_toNatClampNeg hw_rt_22_v_61_toNatClampNeg a1 a2 a3 a4 w_73 hc_73) cw_X1_init lk_X3_48 rfl ii_X1_init ⟨rfl, rfl, Nat.le_of_ble_eq_true rfl, Nat.le_of_ble_eq_true rfl⟩ hl.1 rfl (Nat.le_of_ble_eq_true rfl) dX3_addCar_73 ⟨Nat.le_of_ble_eq_true rfl, Nat.le_of_ble_eq_true rfl⟩) hS (fun ad H locs hx hP' hS hm => ?_)
            have e9 := hx 3 (n2 (hP.al 3 rfl))
            try rw [← e9] at hl
            try rw [← e9]
            have e9 := hx (rt 22 (v_61).toNatClampNeg) hn_rt_22_v_61_toNatClampNeg
            try rw [← e9] at hl
            try rw [← e9]
            have e9 := hx 22 (n2 (hP.al 22 rfl))
            try rw [← e9] at hl
            try rw [← e9]
            have hP := hP'
            have hXA : ∀ k, wA w k ≠ 0 → ad k = ad0 k := fun k hk => (hx k (hM_w.1 k hk)).trans (hXA k hk)
            have hM_w := hM_w.trans hm
            have hn_rt_22_v_61_toNatClampNeg := hm.1 _ hn_rt_22_v_61_toNatClampNeg
            obtain ⟨ha_rt_22_v_61_toNatClampNeg, h⟩ := ck_s h
            refine y_aast (ci' := 1) (C := RX1) (T := TX1) (N := 17) (t0 := 4) h F hP hS k_22 (by decide) (by decide) (n2 (hP.al 22 rfl)) hk_rt_22_v_61_toNatClampNeg ha_rt_22_v_61_toNatClampNeg rfl rfl rfl dX3_addCar_76 (fun w_76 H locs hm h hP hS => ?_)
            have hM_w := hM_w.trans hm
            have ha_rt_22_v_61_toNatClampNeg := hm.2 _ ha_rt_22_v_61_toNatClampNeg
            refine lv_aload_n F.1 F.2.1 dX3_addCar_77 rfl (lv_at hl 0 rfl) ?_
            refine lv_dup F.1 F.2.1 dX3_addCar_78 rfl ?_
            refine y_geti h F hP k_3 (n2 (hP.al 3 rfl)) fl_X3_41 rfl dX3_addCar_79 (fun v_79 h => ?_)
            refine lv_dup_x1 F.1 F.2.1 dX3_addCar_82 rfl rfl ?_
            refine lv_iconst (v := 1) F.1 F.2.1 dX3_addCar_83 ic_1 ?_
            refine lv_iadd F.1 F.2.1 dX3_addCar_84 ?_
            refine y_puti h F hP hS k_3 (n2 (hP.al 3 rfl)) fl_X3_41 rfl dX3_addCar_85 (fun w_85 H locs hm h hP hS => ?_)
            have hM_w := hM_w.trans hm
            have ha_rt_22_v_61_toNatClampNeg := hm.2 _ ha_rt_22_v_61_toNatClampNeg
            refine W.widen (k := 13) (n := 89) (Nat.le_of_ble_eq_true rfl) (Nat.le_of_ble_eq_true rfl) ?_
            exact y_iretA h F hXA hr hP hS hM_w hlk dX3_addCar_88
          · have h := if_f _ hc h
            refine lv_bipush (v := -4) F.1 F.2.1 dX3_addCar_53 ib_m4 ?_
            refine W.widen (k := 13) (n := 89) (Nat.le_of_ble_eq_true rfl) (Nat.le_of_ble_eq_true rfl) ?_
            exact y_iretA h F hXA hr hP hS mono.refl hlk dX3_addCar_55
        · have h := if_t _ hc h
          refine lv_bipush (v := -2) F.1 F.2.1 dX3_addCar_42 ib_m2 ?_
          refine W.widen (k := 13) (n := 89) (Nat.le_of_ble_eq_true rfl) (Nat.le_of_ble_eq_true rfl) ?_
          exact y_iretA h F hXA hr hP hS mono.refl hlk dX3_addCar_44
def f_X4_init (w : Wd) : Option Wd :=
q_nw w 55 (1, 80) 2 (fun w_7 =>
q_pt w_7 8 2 1 (fun w_9 =>
q_pt w_9 8 0 1 (fun w_14 =>
q_pt w_14 8 1 1 (fun w_19 =>
q_rd w_19 8 4 4 (fun w_r22 =>
some w_r22)))))
set_option maxRecDepth 100000 in
set_option maxHeartbeats 4000000 in
theorem c_X4_init (l : Launch) (D : va_G) (cT : Nat → ClassId) (lo nb : Nat) (w : Wd) (ad0 : Nat → Nat) (ha0 : wA w 8 = 1) (ha1 : wA w 2 = 2) (ha2 : wA w 3 = 2) (w9 : Wd) (h : f_X4_init w = some w9) : Met l yX4_init (.code yX4_init cX4_init 3 none :: TW) { frames := 1, cells := 1, slots := 80, locals := 20 } (mPc D cT lo nb w ad0 [.ref (ad0 8), .ref (ad0 2), .ref (ad0 3)]) (mQA D cT lo nb w w9 ad0 none) 1 80 (fun q => lo ≤ q) := by
  unfold f_X4_init at h
  have hn_8 : wA w 8 ≠ 0 := by rw [ha0]; decide
  refine x_met (lv := [(0, .ref (ad0 8)), (1, .ref (ad0 2)), (2, .ref (ad0 3))]) (by decide +kernel) (Nat.le_of_ble_eq_true rfl) rfl ?_
  intro p e s m args below meth c ls F hr hlk hP hin hl
  have hx := F.1
  have hb := F.2.1
  have hS : va_S (fun q => lo ≤ q) s.heap s.heap [] := va_S.rf
  have hM_w : mono w w := mono.refl
  have hXA : ∀ k, wA w k ≠ 0 → ad0 k = ad0 k := fun _ _ => rfl
  refine lv_aload_n F.1 F.2.1 dX4_init_0 rfl (lv_at hl 0 rfl) ?_
  refine y_obj F lk_X4_3 vi_obj cd_obj hl.1 dX4_init_1 ⟨Nat.le_of_ble_eq_true rfl, Nat.le_of_ble_eq_true rfl⟩ ?_
  refine lv_aload_n F.1 F.2.1 dX4_init_4 rfl (lv_at hl 0 rfl) ?_
  refine lv_bipush (v := 80) F.1 F.2.1 dX4_init_5 ib_80 ?_
  refine y_newi (k := 55) h F hP hS ac_int (by decide) (by decide) (by decide) (Nat.le_of_ble_eq_true rfl) (Nat.le_of_ble_eq_true rfl) dX4_init_7 (fun w_7 ad H hm ha_55 _ hx h hP' hS => ?_)
  have e9 := hx 8 hn_8
  try rw [← e9] at hl
  try rw [← e9]
  have e9 := hx 2 (n2 ha1)
  try rw [← e9] at hl
  try rw [← e9]
  have e9 := hx 3 (n2 ha2)
  try rw [← e9] at hl
  try rw [← e9]
  have hP := hP'
  have hXA : ∀ k, wA w k ≠ 0 → ad k = ad0 k := fun k hk => (hx k (hM_w.1 k hk)).trans (hXA k hk)
  have hM_w := hm
  have hn_8 := hm.1 _ hn_8
  have ha1 := hm.2 _ ha1
  have ha2 := hm.2 _ ha2
  refine y_putFr h F hP hS k_8 hn_8 fl_X4_11 hin rfl rfl r_8_2 ha_55 (Or.inr ⟨_, rfl⟩) dX4_init_9 (fun w_9 H locs hm h hP hS => ?_)
  have hM_w := hM_w.trans hm
  have hn_8 := hm.1 _ hn_8
  have ha1 := hm.2 _ ha1
  have ha2 := hm.2 _ ha2
  have ha_55 := hm.2 _ ha_55
  refine lv_aload_n F.1 F.2.1 dX4_init_12 rfl (lv_at hl 0 rfl) ?_
  refine lv_aload_n F.1 F.2.1 dX4_init_13 rfl (lv_at hl 1 rfl) ?_
  refine y_putFr h F hP hS k_8 hn_8 fl_X4_15 hin rfl rfl r_8_0 ha1 (Or.inl ⟨_, rfl⟩) dX4_init_14 (fun w_14 H locs hm h hP hS => ?_)
  have hM_w := hM_w.trans hm
  have hn_8 := hm.1 _ hn_8
  have ha1 := hm.2 _ ha1
  have ha2 := hm.2 _ ha2
  have ha_55 := hm.2 _ ha_55
  refine lv_aload_n F.1 F.2.1 dX4_init_17 rfl (lv_at hl 0 rfl) ?_
  refine lv_aload_n F.1 F.2.1 dX4_init_18 rfl (lv_at hl 2 rfl) ?_
  refine y_putFr h F hP hS k_8 hn_8 fl_X4_19 hin rfl rfl r_8_1 ha2 (Or.inl ⟨_, rfl⟩) dX4_init_19 (fun w_19 H locs hm h hP hS => ?_)
  have hM_w := hM_w.trans hm
  have hn_8 := hm.1 _ hn_8
  have ha1 := hm.2 _ ha1
  have ha2 := hm.2 _ ha2
  have ha_55 := hm.2 _ ha_55
  refine y_ready h hP k_8 ftN_4 (fun w_r22 hm _ h hP => ?_)
  have hM_w := hM_w.trans hm
  refine W.widen (k := 1) (n := 80) (Nat.le_of_ble_eq_true rfl) (Nat.le_of_ble_eq_true rfl) ?_
  exact y_vretA h F hXA hr hP hS hM_w hlk dX4_init_22
def f_X6_init (w : Wd) : Option Wd :=
q_nm w 56 4 60 (fun w_8 =>
q_pt w_8 9 0 1 (fun w_12 =>
q_nw w_12 61 (1, 4) 2 (fun w_17 =>
q_pt w_17 9 1 1 (fun w_19 =>
q_nw w_19 62 (1, 4) 2 (fun w_24 =>
q_pt w_24 9 2 1 (fun w_26 =>
q_cr w_26 9 1 (
q_bo (f_J7_fill_53178 w_26 61 4 (-1 : Int32)) (fun w_34 =>
q_rd w_34 9 6 4 (fun w_r37 =>
some w_r37)))))))))
set_option maxRecDepth 100000 in
set_option maxHeartbeats 4000000 in
theorem c_X6_init (l : Launch) (D : va_G) (cT : Nat → ClassId) (lo nb : Nat) (w : Wd) (ad0 : Nat → Nat) (ha0 : wA w 9 = 1) (w9 : Wd) (h : f_X6_init w = some w9) : Met l yX6_init (.code yX6_init cX6_init 1 none :: TW) { frames := 1, cells := 7, slots := 252, locals := 23 } (mPc D cT lo nb w ad0 [.ref (ad0 9)]) (mQA D cT lo nb w w9 ad0 none) 7 252 (fun q => lo ≤ q) := by
  unfold f_X6_init at h
  have hn_9 : wA w 9 ≠ 0 := by rw [ha0]; decide
  refine x_met (lv := [(0, .ref (ad0 9))]) (by decide +kernel) (Nat.le_of_ble_eq_true rfl) rfl ?_
  intro p e s m args below meth c ls F hr hlk hP hin hl
  have hx := F.1
  have hb := F.2.1
  have hS : va_S (fun q => lo ≤ q) s.heap s.heap [] := va_S.rf
  have hM_w : mono w w := mono.refl
  have hXA : ∀ k, wA w k ≠ 0 → ad0 k = ad0 k := fun _ _ => rfl
  refine lv_aload_n F.1 F.2.1 dX6_init_0 rfl (lv_at hl 0 rfl) ?_
  refine y_obj F lk_X6_3 vi_obj cd_obj hl.1 dX6_init_1 ⟨Nat.le_of_ble_eq_true rfl, Nat.le_of_ble_eq_true rfl⟩ ?_
  refine lv_aload_n F.1 F.2.1 dX6_init_4 rfl (lv_at hl 0 rfl) ?_
  refine lv_iconst (v := 4) F.1 F.2.1 dX6_init_5 ic_4 ?_
  refine lv_bipush (v := 60) F.1 F.2.1 dX6_init_6 ib_60 ?_
  refine y_grid (k := 56) (N := 4) (M := 60) h F hP hS cl_X6_11 ac_int (by decide) (by decide) (by decide) (by decide) (by decide) (by decide) (Nat.le_of_ble_eq_true rfl) (Nat.le_of_ble_eq_true rfl) dX6_init_8 (fun w_8 ad H hm ha_56 _ hx h hP' hS => ?_)
  have e9 := hx 9 hn_9
  try rw [← e9] at hl
  try rw [← e9]
  have hP := hP'
  have hXA : ∀ k, wA w k ≠ 0 → ad k = ad0 k := fun k hk => (hx k (hM_w.1 k hk)).trans (hXA k hk)
  have hM_w := hm
  have hn_9 := hm.1 _ hn_9
  refine y_putFr h F hP hS k_9 hn_9 fl_X6_13 hin rfl rfl r_9_0 ha_56 (Or.inr ⟨_, rfl⟩) dX6_init_12 (fun w_12 H locs hm h hP hS => ?_)
  have hM_w := hM_w.trans hm
  have hn_9 := hm.1 _ hn_9
  have ha_56 := hm.2 _ ha_56
  refine lv_aload_n F.1 F.2.1 dX6_init_15 rfl (lv_at hl 0 rfl) ?_
  refine lv_iconst (v := 4) F.1 F.2.1 dX6_init_16 ic_4 ?_
  refine y_newi (k := 61) h F hP hS ac_int (by decide) (by decide) (by decide) (Nat.le_of_ble_eq_true rfl) (Nat.le_of_ble_eq_true rfl) dX6_init_17 (fun w_17 ad H hm ha_61 _ hx h hP' hS => ?_)
  have e9 := hx 9 hn_9
  try rw [← e9] at hl
  try rw [← e9]
  have hP := hP'
  have hXA : ∀ k, wA w k ≠ 0 → ad k = ad0 k := fun k hk => (hx k (hM_w.1 k hk)).trans (hXA k hk)
  have hM_w := hM_w.trans hm
  have hn_9 := hm.1 _ hn_9
  have ha_56 := hm.2 _ ha_56
  refine y_putFr h F hP hS k_9 hn_9 fl_X6_16 hin rfl rfl r_9_1 ha_61 (Or.inr ⟨_, rfl⟩) dX6_init_19 (fun w_19 H locs hm h hP hS => ?_)
  have hM_w := hM_w.trans hm
  have hn_9 := hm.1 _ hn_9
  have ha_56 := hm.2 _ ha_56
  have ha_61 := hm.2 _ ha_61
  refine lv_aload_n F.1 F.2.1 dX6_init_22 rfl (lv_at hl 0 rfl) ?_
  refine lv_iconst (v := 4) F.1 F.2.1 dX6_init_23 ic_4 ?_
  refine y_newi (k := 62) h F hP hS ac_int (by decide) (by decide) (by decide) (Nat.le_of_ble_eq_true rfl) (Nat.le_of_ble_eq_true rfl) dX6_init_24 (fun w_24 ad H hm ha_62 _ hx h hP' hS => ?_)
  have e9 := hx 9 hn_9
  try rw [← e9] at hl
  try rw [← e9]
  have hP := hP'
  have hXA : ∀ k, wA w k ≠ 0 → ad k = ad0 k := fun k hk => (hx k (hM_w.1 k hk)).trans (hXA k hk)
  have hM_w := hM_w.trans hm
  have hn_9 := hm.1 _ hn_9
  have ha_56 := hm.2 _ ha_56
  have ha_61 := hm.2 _ ha_61
  refine y_putFr h F hP hS k_9 hn_9 fl_X6_20 hin rfl rfl r_9_2 ha_62 (Or.inr ⟨_, rfl⟩) dX6_init_26 (fun w_26 H locs hm h hP hS => ?_)
  have hM_w := hM_w.trans hm
  have hn_9 := hm.1 _ hn_9
  have ha_56 := hm.2 _ ha_56
  have ha_61 := hm.2 _ ha_61
  have ha_62 := hm.2 _ ha_62
  refine lv_aload_n F.1 F.2.1 dX6_init_29 rfl (lv_at hl 0 rfl) ?_
  refine y_getrS h F hP k_9 hn_9 fl_X6_16 rfl r_9_1 dX6_init_30 (fun ha_61 h => ?_)
  refine lv_iconst (v := -1) F.1 F.2.1 dX6_init_33 ic_m1 ?_
  obtain ⟨w_34, hc_34, h⟩ := bo_s h
  refine x_goes (x_runS (As := [.ref (ad 61), .int (-1 : Int32)]) (rest := []) F hP hS (c_J7_fill_53178 l D cT lo nb w_26 ad 61 4 k_61 ha_61 (-1 : Int32) w_34 hc_34) cw_J7_fill_53178 lk_X6_23 st_J7_fill_53178 ⟨rfl, rfl, Nat.le_of_ble_eq_true rfl, Nat.le_of_ble_eq_true rfl⟩ hl.1 rfl (Nat.le_of_ble_eq_true rfl) dX6_init_34 ⟨Nat.le_of_ble_eq_true rfl, Nat.le_of_ble_eq_true rfl⟩) hS (fun H locs hP hS hm => ?_)
  have hM_w := hM_w.trans hm
  have hn_9 := hm.1 _ hn_9
  have ha_56 := hm.2 _ ha_56
  have ha_61 := hm.2 _ ha_61
  have ha_62 := hm.2 _ ha_62
  refine y_ready h hP k_9 ftN_6 (fun w_r37 hm _ h hP => ?_)
  have hM_w := hM_w.trans hm
  refine W.widen (k := 7) (n := 252) (Nat.le_of_ble_eq_true rfl) (Nat.le_of_ble_eq_true rfl) ?_
  exact y_vretA h F hXA hr hP hS hM_w hlk dX6_init_37
def f_X8_addHouse (w : Wd) (a1 : Int32) (a2 : Int32) (a3 : Int32) (a4 : Int32) (a5 : Int32) (a6 : Int32) (a7 : Int32) : Option (Int32 × Wd) :=
if (f_X11_isBox a1 a2 a3 a4) = 0 then
some ((-2 : Int32), w)
else
if (f_X11_within a5 (1 : Int32) (99 : Int32)) = 0 then
some ((-2 : Int32), w)
else
if (f_X11_within a6 (1 : Int32) (99 : Int32)) = 0 then
some ((-2 : Int32), w)
else
if (f_X11_within a7 (0 : Int32) (9 : Int32)) = 0 then
some ((-2 : Int32), w)
else
q_gt w 2 4 (fun v_48 =>
if v_48 < (20 : Int32) then
q_gt w 2 4 (fun v_64 =>
q_nw w (rt 10 (v_64).toNatClampNeg) (10, 0) 2 (fun w_67 =>
q_bo (f_X0_init w_67 (rt 10 (v_64).toNatClampNeg) a1 a2 a3 a4) (fun w_76 =>
q_st w_76 10 20 v_64 1 (fun w_79 =>
q_gt w_79 2 4 (fun v_85 =>
q_st w_79 11 20 v_85 a5 (fun w_90 =>
q_gt w_90 2 4 (fun v_96 =>
q_st w_90 12 20 v_96 a6 (fun w_101 =>
q_gt w_101 2 4 (fun v_107 =>
q_st w_101 13 20 v_107 a7 (fun w_112 =>
q_gt w_112 2 4 (fun v_115 =>
q_pt w_112 2 4 (v_115 + (1 : Int32)) (fun w_121 =>
some (v_115, w_121)))))))))))))
else
some ((-4 : Int32), w))
set_option maxRecDepth 100000 in
set_option maxHeartbeats 4000000 in
theorem c_X8_addHouse (l : Launch) (D : va_G) (cT : Nat → ClassId) (lo : Nat) (w : Wd) (ad0 : Nat → Nat) (a1 : Int32) (a2 : Int32) (a3 : Int32) (a4 : Int32) (a5 : Int32) (a6 : Int32) (a7 : Int32) (r : Int32) (w9 : Wd) (h : f_X8_addHouse w a1 a2 a3 a4 a5 a6 a7 = some (r, w9)) : Met l yX8_addHouse (.code yX8_addHouse cX8_addHouse 8 (some .int) :: TW) { frames := 2, cells := 1, slots := 4, locals := 45 } (mPc D cT lo NB w ad0 [.ref (ad0 2), .int a1, .int a2, .int a3, .int a4, .int a5, .int a6, .int a7]) (mQA D cT lo NB w w9 ad0 (some (.int r))) 1 4 (fun q => lo ≤ q) := by
  unfold f_X8_addHouse at h
  refine x_met (lv := [(0, .ref (ad0 2)), (1, .int a1), (2, .int a2), (3, .int a3), (4, .int a4), (5, .int a5), (6, .int a6), (7, .int a7)]) (by decide +kernel) (Nat.le_of_ble_eq_true rfl) rfl ?_
  intro p e s m args below meth c ls F hr hlk hP hin hl
  have hx := F.1
  have hb := F.2.1
  have hS : va_S (fun q => lo ≤ q) s.heap s.heap [] := va_S.rf
  have hM_w : mono w w := mono.refl
  have hXA : ∀ k, wA w k ≠ 0 → ad0 k = ad0 k := fun _ _ => rfl
  refine lv_iload_n F.1 F.2.1 dX8_addHouse_0 rfl (lv_at hl 1 rfl) ?_
  refine lv_iload_n F.1 F.2.1 dX8_addHouse_1 rfl (lv_at hl 2 rfl) ?_
  refine lv_iload_n F.1 F.2.1 dX8_addHouse_2 rfl (lv_at hl 3 rfl) ?_
  refine lv_iload F.1 F.2.1 dX8_addHouse_3 (lv_at hl 4 rfl) ?_
  refine x_goesZ (x_runSN (As := [.int a1, .int a2, .int a3, .int a4]) (rest := []) F hP hS (c_X11_isBox l D cT lo NB w ad0 a1 a2 a3 a4) cw_X11_isBox nl_X8_52 st_X11_isBox ⟨rfl, rfl, Nat.le_of_ble_eq_true rfl, Nat.le_of_ble_eq_true rfl⟩ hl.1 rfl (Nat.le_of_ble_eq_true rfl) dX8_addHouse_5 ⟨Nat.le_of_ble_eq_true rfl, Nat.le_of_ble_eq_true rfl⟩) hS (fun H locs hz_5 hP hS _ => ?_)
  refine lv_if_eq (tgt := 44) F.1 F.2.1 dX8_addHouse_8 (by decide) (fun hc => ?_) (fun hc => ?_)
  · have h := if_t _ hc h
    refine lv_bipush (v := -2) F.1 F.2.1 dX8_addHouse_44 ib_m2 ?_
    refine W.widen (k := 1) (n := 4) (Nat.le_of_ble_eq_true rfl) (Nat.le_of_ble_eq_true rfl) ?_
    exact y_iretA h F hXA hr hP hS mono.refl hlk dX8_addHouse_46
  · have h := if_f _ hc h
    refine lv_iload F.1 F.2.1 dX8_addHouse_11 (lv_at hl 5 rfl) ?_
    refine lv_iconst (v := 1) F.1 F.2.1 dX8_addHouse_13 ic_1 ?_
    refine lv_bipush (v := 99) F.1 F.2.1 dX8_addHouse_14 ib_99 ?_
    refine x_goesZ (x_runSN (As := [.int a5, .int (1 : Int32), .int (99 : Int32)]) (rest := []) F hP hS (c_X11_within l D cT lo NB w ad0 a5 (1 : Int32) (99 : Int32)) cw_X11_within nl_X8_56 st_X11_within ⟨rfl, rfl, Nat.le_of_ble_eq_true rfl, Nat.le_of_ble_eq_true rfl⟩ hl.1 rfl (Nat.le_of_ble_eq_true rfl) dX8_addHouse_16 ⟨Nat.le_of_ble_eq_true rfl, Nat.le_of_ble_eq_true rfl⟩) hS (fun H locs hz_16 hP hS _ => ?_)
    refine lv_if_eq (tgt := 44) F.1 F.2.1 dX8_addHouse_19 (by decide) (fun hc => ?_) (fun hc => ?_)
    · have h := if_t _ hc h
      refine lv_bipush (v := -2) F.1 F.2.1 dX8_addHouse_44 ib_m2 ?_
      refine W.widen (k := 1) (n := 4) (Nat.le_of_ble_eq_true rfl) (Nat.le_of_ble_eq_true rfl) ?_
      exact y_iretA h F hXA hr hP hS mono.refl hlk dX8_addHouse_46
    · have h := if_f _ hc h
      refine lv_iload F.1 F.2.1 dX8_addHouse_22 (lv_at hl 6 rfl) ?_
      refine lv_iconst (v := 1) F.1 F.2.1 dX8_addHouse_24 ic_1 ?_
      refine lv_bipush (v := 99) F.1 F.2.1 dX8_addHouse_25 ib_99 ?_
      refine x_goesZ (x_runSN (As := [.int a6, .int (1 : Int32), .int (99 : Int32)]) (rest := []) F hP hS (c_X11_within l D cT lo NB w ad0 a6 (1 : Int32) (99 : Int32)) cw_X11_within nl_X8_56 st_X11_within ⟨rfl, rfl, Nat.le_of_ble_eq_true rfl, Nat.le_of_ble_eq_true rfl⟩ hl.1 rfl (Nat.le_of_ble_eq_true rfl) dX8_addHouse_27 ⟨Nat.le_of_ble_eq_true rfl, Nat.le_of_ble_eq_true rfl⟩) hS (fun H locs hz_27 hP hS _ => ?_)
      refine lv_if_eq (tgt := 44) F.1 F.2.1 dX8_addHouse_30 (by decide) (fun hc => ?_) (fun hc => ?_)
      · have h := if_t _ hc h
        refine lv_bipush (v := -2) F.1 F.2.1 dX8_addHouse_44 ib_m2 ?_
        refine W.widen (k := 1) (n := 4) (Nat.le_of_ble_eq_true rfl) (Nat.le_of_ble_eq_true rfl) ?_
        exact y_iretA h F hXA hr hP hS mono.refl hlk dX8_addHouse_46
      · have h := if_f _ hc h
        refine lv_iload F.1 F.2.1 dX8_addHouse_33 (lv_at hl 7 rfl) ?_
        refine lv_iconst (v := 0) F.1 F.2.1 dX8_addHouse_35 ic_0 ?_
        refine lv_bipush (v := 9) F.1 F.2.1 dX8_addHouse_36 ib_9 ?_
        refine x_goesZ (x_runSN (As := [.int a7, .int (0 : Int32), .int (9 : Int32)]) (rest := []) F hP hS (c_X11_within l D cT lo NB w ad0 a7 (0 : Int32) (9 : Int32)) cw_X11_within nl_X8_56 st_X11_within ⟨rfl, rfl, Nat.le_of_ble_eq_true rfl, Nat.le_of_ble_eq_true rfl⟩ hl.1 rfl (Nat.le_of_ble_eq_true rfl) dX8_addHouse_38 ⟨Nat.le_of_ble_eq_true rfl, Nat.le_of_ble_eq_true rfl⟩) hS (fun H locs hz_38 hP hS _ => ?_)
        refine lv_if_ne (tgt := 47) F.1 F.2.1 dX8_addHouse_41 (by decide) (fun hc => ?_) (fun hc => ?_)
        · have h := if_f _ hc h
          refine lv_aload_n F.1 F.2.1 dX8_addHouse_47 rfl (lv_at hl 0 rfl) ?_
          refine y_geti h F hP k_2 (n2 (hP.al 2 rfl)) fl_X8_60 rfl dX8_addHouse_48 (fun v_48 h => ?_)
          refine lv_bipush (v := 20) F.1 F.2.1 dX8_addHouse_51 ib_20 ?_
          refine lv_icmp_lt (tgt := 59) F.1 F.2.1 dX8_addHouse_53 (by decide) (fun hc => ?_) (fun hc => ?_)
          · have h := if_t _ hc h
            refine lv_aload_n F.1 F.2.1 dX8_addHouse_59 rfl (lv_at hl 0 rfl) ?_
            refine x_getr F hP k_2 (hP.al 2 rfl) fl_X8_13 rfl r_2_0 dX8_addHouse_60 ?_
            refine lv_aload_n F.1 F.2.1 dX8_addHouse_63 rfl (lv_at hl 0 rfl) ?_
            refine y_geti h F hP k_2 (n2 (hP.al 2 rfl)) fl_X8_60 rfl dX8_addHouse_64 (fun v_64 h => ?_)
            refine y_new (k := (rt 10 (v_64).toNatClampNeg)) (ci := 0) h F hP hS cl_X8_11 ib_X0 ini_X0 rfl inw_X0 tyX0_ok ftD_0 (Or.inr ⟨rfl, ftZ_0⟩) (Nat.le_of_ble_eq_true rfl) (Nat.le_of_ble_eq_true rfl) dX8_addHouse_67 (fun w_67 ad H hm ha_rt_10_v_64_toNatClampNeg hk_rt_10_v_64_toNatClampNeg hx h hP' hS => ?_)
            have e9 := hx 2 (n2 (hP.al 2 rfl))
            try rw [← e9] at hl
            try rw [← e9]
            have e9 := hx 10 (n2 (hP.al 10 rfl))
            try rw [← e9] at hl
            try rw [← e9]
            have hP := hP'
            have hXA : ∀ k, wA w k ≠ 0 → ad k = ad0 k := fun k hk => (hx k (hM_w.1 k hk)).trans (hXA k hk)
            have hM_w := hm
            refine lv_dup F.1 F.2.1 dX8_addHouse_70 rfl ?_
            refine lv_iload_n F.1 F.2.1 dX8_addHouse_71 rfl (lv_at hl 1 rfl) ?_
            refine lv_iload_n F.1 F.2.1 dX8_addHouse_72 rfl (lv_at hl 2 rfl) ?_
            refine lv_iload_n F.1 F.2.1 dX8_addHouse_73 rfl (lv_at hl 3 rfl) ?_
            refine lv_iload F.1 F.2.1 dX8_addHouse_74 (lv_at hl 4 rfl) ?_
            obtain ⟨w_76, hc_76, h⟩ := bo_s h
            refine x_goes (x_runI (As := [.int a1, .int a2, .int a3, .int a4]) (rest := [.ref (ad (rt 10 (v_64).toNatClampNeg)), .int v_64, .ref (ad 10)]) F hP hS (c_X0_init l D cT lo NB w_67 ad (rt 10 (v_64).toNatClampNeg) hk_rt_10_v_64_toNatClampNeg ha_rt_10_v_64_toNatClampNeg a1 a2 a3 a4 w_76 hc_76) cw_X0_init lk_X8_64 rfl ii_X0_init ⟨rfl, rfl, Nat.le_of_ble_eq_true rfl, Nat.le_of_ble_eq_true rfl⟩ hl.1 rfl (Nat.le_of_ble_eq_true rfl) dX8_addHouse_76 ⟨Nat.le_of_ble_eq_true rfl, Nat.le_of_ble_eq_true rfl⟩) hS (fun H locs hP hS hm => ?_)
            have hM_w := hM_w.trans hm
            have ha_rt_10_v_64_toNatClampNeg := hm.2 _ ha_rt_10_v_64_toNatClampNeg
            refine y_aast (ci' := 0) (C := RX0) (T := TX0) (N := 4) (t0 := 3) h F hP hS k_10 (by decide) (by decide) (n2 (hP.al 10 rfl)) hk_rt_10_v_64_toNatClampNeg ha_rt_10_v_64_toNatClampNeg rfl rfl rfl dX8_addHouse_79 (fun w_79 H locs hm h hP hS => ?_)
            have hM_w := hM_w.trans hm
            have ha_rt_10_v_64_toNatClampNeg := hm.2 _ ha_rt_10_v_64_toNatClampNeg
            refine lv_aload_n F.1 F.2.1 dX8_addHouse_80 rfl (lv_at hl 0 rfl) ?_
            refine x_getr F hP k_2 (hP.al 2 rfl) fl_X8_17 rfl r_2_1 dX8_addHouse_81 ?_
            refine lv_aload_n F.1 F.2.1 dX8_addHouse_84 rfl (lv_at hl 0 rfl) ?_
            refine y_geti h F hP k_2 (n2 (hP.al 2 rfl)) fl_X8_60 rfl dX8_addHouse_85 (fun v_85 h => ?_)
            refine lv_iload F.1 F.2.1 dX8_addHouse_88 (lv_at hl 5 rfl) ?_
            refine y_iast h F hP hS k_11 (n2 (hP.al 11 rfl)) dX8_addHouse_90 (fun w_90 H locs hm h hP hS => ?_)
            have hM_w := hM_w.trans hm
            have ha_rt_10_v_64_toNatClampNeg := hm.2 _ ha_rt_10_v_64_toNatClampNeg
            refine lv_aload_n F.1 F.2.1 dX8_addHouse_91 rfl (lv_at hl 0 rfl) ?_
            refine x_getr F hP k_2 (hP.al 2 rfl) fl_X8_21 rfl r_2_2 dX8_addHouse_92 ?_
            refine lv_aload_n F.1 F.2.1 dX8_addHouse_95 rfl (lv_at hl 0 rfl) ?_
            refine y_geti h F hP k_2 (n2 (hP.al 2 rfl)) fl_X8_60 rfl dX8_addHouse_96 (fun v_96 h => ?_)
            refine lv_iload F.1 F.2.1 dX8_addHouse_99 (lv_at hl 6 rfl) ?_
            refine y_iast h F hP hS k_12 (n2 (hP.al 12 rfl)) dX8_addHouse_101 (fun w_101 H locs hm h hP hS => ?_)
            have hM_w := hM_w.trans hm
            have ha_rt_10_v_64_toNatClampNeg := hm.2 _ ha_rt_10_v_64_toNatClampNeg
            refine lv_aload_n F.1 F.2.1 dX8_addHouse_102 rfl (lv_at hl 0 rfl) ?_
            refine x_getr F hP k_2 (hP.al 2 rfl) fl_X8_24 rfl r_2_3 dX8_addHouse_103 ?_
            refine lv_aload_n F.1 F.2.1 dX8_addHouse_106 rfl (lv_at hl 0 rfl) ?_
            refine y_geti h F hP k_2 (n2 (hP.al 2 rfl)) fl_X8_60 rfl dX8_addHouse_107 (fun v_107 h => ?_)
            refine lv_iload F.1 F.2.1 dX8_addHouse_110 (lv_at hl 7 rfl) ?_
            refine y_iast h F hP hS k_13 (n2 (hP.al 13 rfl)) dX8_addHouse_112 (fun w_112 H locs hm h hP hS => ?_)
            have hM_w := hM_w.trans hm
            have ha_rt_10_v_64_toNatClampNeg := hm.2 _ ha_rt_10_v_64_toNatClampNeg
            refine lv_aload_n F.1 F.2.1 dX8_addHouse_113 rfl (lv_at hl 0 rfl) ?_
            refine lv_dup F.1 F.2.1 dX8_addHouse_114 rfl ?_
            refine y_geti h F hP k_2 (n2 (hP.al 2 rfl)) fl_X8_60 rfl dX8_addHouse_115 (fun v_115 h => ?_)
            refine lv_dup_x1 F.1 F.2.1 dX8_addHouse_118 rfl rfl ?_
            refine lv_iconst (v := 1) F.1 F.2.1 dX8_addHouse_119 ic_1 ?_
            refine lv_iadd F.1 F.2.1 dX8_addHouse_120 ?_
            refine y_puti h F hP hS k_2 (n2 (hP.al 2 rfl)) fl_X8_60 rfl dX8_addHouse_121 (fun w_121 H locs hm h hP hS => ?_)
            have hM_w := hM_w.trans hm
            have ha_rt_10_v_64_toNatClampNeg := hm.2 _ ha_rt_10_v_64_toNatClampNeg
            refine W.widen (k := 1) (n := 4) (Nat.le_of_ble_eq_true rfl) (Nat.le_of_ble_eq_true rfl) ?_
            exact y_iretA h F hXA hr hP hS hM_w hlk dX8_addHouse_124
          · have h := if_f _ hc h
            refine lv_bipush (v := -4) F.1 F.2.1 dX8_addHouse_56 ib_m4 ?_
            refine W.widen (k := 1) (n := 4) (Nat.le_of_ble_eq_true rfl) (Nat.le_of_ble_eq_true rfl) ?_
            exact y_iretA h F hXA hr hP hS mono.refl hlk dX8_addHouse_58
        · have h := if_t _ hc h
          refine lv_bipush (v := -2) F.1 F.2.1 dX8_addHouse_44 ib_m2 ?_
          refine W.widen (k := 1) (n := 4) (Nat.le_of_ble_eq_true rfl) (Nat.le_of_ble_eq_true rfl) ?_
          exact y_iretA h F hXA hr hP hS mono.refl hlk dX8_addHouse_46
def f_X6_buildHouses (w : Wd) (a1 : Int32) : Option (Int32 × Wd) :=
if (f_X6_isSheet a1) = 0 then
some ((0 : Int32), w)
else
q_ld w 62 4 a1 (fun v_24 =>
if v_24 < (7 : Int32) then
some ((0 : Int32), w)
else
q_ldq w 56 4 a1 (fun q_43 =>
q_ld w q_43 60 (0 : Int32) (fun v_51 =>
q_ld w q_43 60 (1 : Int32) (fun v_58 =>
q_ld w q_43 60 (2 : Int32) (fun v_65 =>
q_ld w q_43 60 (3 : Int32) (fun v_72 =>
q_ld w q_43 60 (4 : Int32) (fun v_79 =>
q_ld w q_43 60 (5 : Int32) (fun v_86 =>
q_ld w q_43 60 (6 : Int32) (fun v_94 =>
q_bi (f_X8_addHouse w v_51 v_58 v_65 v_72 v_79 v_86 v_94) (fun v_95 w_95 =>
if 0 ≤ v_95 then
q_ld w_95 62 4 a1 (fun v_24 =>
if v_24 < (14 : Int32) then
some ((1 : Int32), w_95)
else
q_ldq w_95 56 4 a1 (fun q_43 =>
q_ld w_95 q_43 60 (7 : Int32) (fun v_51 =>
q_ld w_95 q_43 60 (8 : Int32) (fun v_58 =>
q_ld w_95 q_43 60 (9 : Int32) (fun v_65 =>
q_ld w_95 q_43 60 (10 : Int32) (fun v_72 =>
q_ld w_95 q_43 60 (11 : Int32) (fun v_79 =>
q_ld w_95 q_43 60 (12 : Int32) (fun v_86 =>
q_ld w_95 q_43 60 (13 : Int32) (fun v_94 =>
q_bi (f_X8_addHouse w_95 v_51 v_58 v_65 v_72 v_79 v_86 v_94) (fun v_95_2 w_95_2 =>
if 0 ≤ v_95_2 then
q_ld w_95_2 62 4 a1 (fun v_24 =>
if v_24 < (21 : Int32) then
some ((2 : Int32), w_95_2)
else
q_ldq w_95_2 56 4 a1 (fun q_43 =>
q_ld w_95_2 q_43 60 (14 : Int32) (fun v_51 =>
q_ld w_95_2 q_43 60 (15 : Int32) (fun v_58 =>
q_ld w_95_2 q_43 60 (16 : Int32) (fun v_65 =>
q_ld w_95_2 q_43 60 (17 : Int32) (fun v_72 =>
q_ld w_95_2 q_43 60 (18 : Int32) (fun v_79 =>
q_ld w_95_2 q_43 60 (19 : Int32) (fun v_86 =>
q_ld w_95_2 q_43 60 (20 : Int32) (fun v_94 =>
q_bi (f_X8_addHouse w_95_2 v_51 v_58 v_65 v_72 v_79 v_86 v_94) (fun v_95_3 w_95_3 =>
if 0 ≤ v_95_3 then
q_ld w_95_3 62 4 a1 (fun v_24 =>
if v_24 < (28 : Int32) then
some ((3 : Int32), w_95_3)
else
q_ldq w_95_3 56 4 a1 (fun q_43 =>
q_ld w_95_3 q_43 60 (21 : Int32) (fun v_51 =>
q_ld w_95_3 q_43 60 (22 : Int32) (fun v_58 =>
q_ld w_95_3 q_43 60 (23 : Int32) (fun v_65 =>
q_ld w_95_3 q_43 60 (24 : Int32) (fun v_72 =>
q_ld w_95_3 q_43 60 (25 : Int32) (fun v_79 =>
q_ld w_95_3 q_43 60 (26 : Int32) (fun v_86 =>
q_ld w_95_3 q_43 60 (27 : Int32) (fun v_94 =>
q_bi (f_X8_addHouse w_95_3 v_51 v_58 v_65 v_72 v_79 v_86 v_94) (fun v_95_4 w_95_4 =>
if 0 ≤ v_95_4 then
q_ld w_95_4 62 4 a1 (fun v_24 =>
if v_24 < (35 : Int32) then
some ((4 : Int32), w_95_4)
else
q_ldq w_95_4 56 4 a1 (fun q_43 =>
q_ld w_95_4 q_43 60 (28 : Int32) (fun v_51 =>
q_ld w_95_4 q_43 60 (29 : Int32) (fun v_58 =>
q_ld w_95_4 q_43 60 (30 : Int32) (fun v_65 =>
q_ld w_95_4 q_43 60 (31 : Int32) (fun v_72 =>
q_ld w_95_4 q_43 60 (32 : Int32) (fun v_79 =>
q_ld w_95_4 q_43 60 (33 : Int32) (fun v_86 =>
q_ld w_95_4 q_43 60 (34 : Int32) (fun v_94 =>
q_bi (f_X8_addHouse w_95_4 v_51 v_58 v_65 v_72 v_79 v_86 v_94) (fun v_95_5 w_95_5 =>
if 0 ≤ v_95_5 then
q_ld w_95_5 62 4 a1 (fun v_24 =>
if v_24 < (42 : Int32) then
some ((5 : Int32), w_95_5)
else
q_ldq w_95_5 56 4 a1 (fun q_43 =>
q_ld w_95_5 q_43 60 (35 : Int32) (fun v_51 =>
q_ld w_95_5 q_43 60 (36 : Int32) (fun v_58 =>
q_ld w_95_5 q_43 60 (37 : Int32) (fun v_65 =>
q_ld w_95_5 q_43 60 (38 : Int32) (fun v_72 =>
q_ld w_95_5 q_43 60 (39 : Int32) (fun v_79 =>
q_ld w_95_5 q_43 60 (40 : Int32) (fun v_86 =>
q_ld w_95_5 q_43 60 (41 : Int32) (fun v_94 =>
q_bi (f_X8_addHouse w_95_5 v_51 v_58 v_65 v_72 v_79 v_86 v_94) (fun v_95_6 w_95_6 =>
if 0 ≤ v_95_6 then
q_ld w_95_6 62 4 a1 (fun v_24 =>
if v_24 < (49 : Int32) then
some ((6 : Int32), w_95_6)
else
q_ldq w_95_6 56 4 a1 (fun q_43 =>
q_ld w_95_6 q_43 60 (42 : Int32) (fun v_51 =>
q_ld w_95_6 q_43 60 (43 : Int32) (fun v_58 =>
q_ld w_95_6 q_43 60 (44 : Int32) (fun v_65 =>
q_ld w_95_6 q_43 60 (45 : Int32) (fun v_72 =>
q_ld w_95_6 q_43 60 (46 : Int32) (fun v_79 =>
q_ld w_95_6 q_43 60 (47 : Int32) (fun v_86 =>
q_ld w_95_6 q_43 60 (48 : Int32) (fun v_94 =>
q_bi (f_X8_addHouse w_95_6 v_51 v_58 v_65 v_72 v_79 v_86 v_94) (fun v_95_7 w_95_7 =>
if 0 ≤ v_95_7 then
q_ld w_95_7 62 4 a1 (fun v_24 =>
if v_24 < (56 : Int32) then
some ((7 : Int32), w_95_7)
else
q_ldq w_95_7 56 4 a1 (fun q_43 =>
q_ld w_95_7 q_43 60 (49 : Int32) (fun v_51 =>
q_ld w_95_7 q_43 60 (50 : Int32) (fun v_58 =>
q_ld w_95_7 q_43 60 (51 : Int32) (fun v_65 =>
q_ld w_95_7 q_43 60 (52 : Int32) (fun v_72 =>
q_ld w_95_7 q_43 60 (53 : Int32) (fun v_79 =>
q_ld w_95_7 q_43 60 (54 : Int32) (fun v_86 =>
q_ld w_95_7 q_43 60 (55 : Int32) (fun v_94 =>
q_bi (f_X8_addHouse w_95_7 v_51 v_58 v_65 v_72 v_79 v_86 v_94) (fun v_95_8 w_95_8 =>
if 0 ≤ v_95_8 then
q_ld w_95_8 62 4 a1 (fun v_24 =>
if v_24 < (63 : Int32) then
some ((8 : Int32), w_95_8)
else
some ((8 : Int32), w_95_8))
else
some ((7 : Int32), w_95_8)))))))))))
else
some ((6 : Int32), w_95_7)))))))))))
else
some ((5 : Int32), w_95_6)))))))))))
else
some ((4 : Int32), w_95_5)))))))))))
else
some ((3 : Int32), w_95_4)))))))))))
else
some ((2 : Int32), w_95_3)))))))))))
else
some ((1 : Int32), w_95_2)))))))))))
else
some ((0 : Int32), w_95)))))))))))
set_option maxRecDepth 100000 in
set_option maxHeartbeats 4000000 in
theorem c_X6_buildHouses (l : Launch) (D : va_G) (cT : Nat → ClassId) (lo : Nat) (w : Wd) (ad0 : Nat → Nat) (a1 : Int32) (r : Int32) (w9 : Wd) (h : f_X6_buildHouses w a1 = some (r, w9)) : Met l yX6_buildHouses (.code yX6_buildHouses cX6_buildHouses 7 (some .int) :: TW) { frames := 3, cells := 8, slots := 32, locals := 72 } (mPc D cT lo NB w ad0 [.ref (ad0 9), .int a1, .ref (ad0 2)]) (mQA D cT lo NB w w9 ad0 (some (.int r))) 8 32 (fun q => lo ≤ q) := by
  unfold f_X6_buildHouses at h
  refine x_met (lv := [(0, .ref (ad0 9)), (1, .int a1), (2, .ref (ad0 2))]) (by decide +kernel) (Nat.le_of_ble_eq_true rfl) rfl ?_
  intro p e s m args below meth c ls F hr hlk hP hin hl
  have hx := F.1
  have hb := F.2.1
  have hS : va_S (fun q => lo ≤ q) s.heap s.heap [] := va_S.rf
  have hM_w : mono w w := mono.refl
  have hXA : ∀ k, wA w k ≠ 0 → ad0 k = ad0 k := fun _ _ => rfl
  refine lv_iload_n F.1 F.2.1 dX6_buildHouses_0 rfl (lv_at hl 1 rfl) ?_
  refine x_goesZ (x_runS (As := [.int a1]) (rest := []) F hP hS (c_X6_isSheet l D cT lo NB w ad0 a1) cw_X6_isSheet lk_X6_37 st_X6_isSheet ⟨rfl, rfl, Nat.le_of_ble_eq_true rfl, Nat.le_of_ble_eq_true rfl⟩ hl.1 rfl (Nat.le_of_ble_eq_true rfl) dX6_buildHouses_1 ⟨Nat.le_of_ble_eq_true rfl, Nat.le_of_ble_eq_true rfl⟩) hS (fun H locs hz_1 hP hS _ => ?_)
  refine lv_if_ne (tgt := 9) F.1 F.2.1 dX6_buildHouses_4 (by decide) (fun hc => ?_) (fun hc => ?_)
  · have h := if_f _ hc h
    refine lv_iconst (v := 0) F.1 F.2.1 dX6_buildHouses_9 ic_0 ?_
    refine lv_istore_n (lv' := [(3, .int (0 : Int32)), (0, .ref (ad0 9)), (1, .int a1), (2, .ref (ad0 2))]) F.1 F.2.1 dX6_buildHouses_10 rfl hl (Nat.le_of_ble_eq_true rfl) rfl (fun ls hl => ?_)
    refine lv_iconst (v := 0) F.1 F.2.1 dX6_buildHouses_11 ic_0 ?_
    refine lv_istore (lv' := [(4, .int (0 : Int32)), (3, .int (0 : Int32)), (0, .ref (ad0 9)), (1, .int a1), (2, .ref (ad0 2))]) F.1 F.2.1 dX6_buildHouses_12 hl (Nat.le_of_ble_eq_true rfl) rfl (fun ls hl => ?_)
    refine lv_iload F.1 F.2.1 dX6_buildHouses_14 (lv_at hl 0 rfl) ?_
    refine lv_bipush (v := 7) F.1 F.2.1 dX6_buildHouses_16 ib_7 ?_
    refine lv_iadd F.1 F.2.1 dX6_buildHouses_18 ?_
    refine y_eqi (v := 7) (by decide) ?_
    refine lv_aload_n F.1 F.2.1 dX6_buildHouses_19 rfl (lv_at hl 2 rfl) ?_
    refine x_getr F hP k_9 (hP.al 9 rfl) fl_X6_20 rfl r_9_2 dX6_buildHouses_20 ?_
    refine lv_iload_n F.1 F.2.1 dX6_buildHouses_23 rfl (lv_at hl 3 rfl) ?_
    refine y_iald h F hP k_62 (n2 (hP.al 62 rfl)) dX6_buildHouses_24 (fun v_24 h => ?_)
    refine lv_icmp_gt (tgt := 116) F.1 F.2.1 dX6_buildHouses_25 (by decide) (fun hc => ?_) (fun hc => ?_)
    · have h := if_t _ hc h
      refine lv_iload_n F.1 F.2.1 dX6_buildHouses_116 rfl (lv_at hl 1 rfl) ?_
      refine W.widen (k := 8) (n := 32) (Nat.le_of_ble_eq_true rfl) (Nat.le_of_ble_eq_true rfl) ?_
      exact y_iretA h F hXA hr hP hS mono.refl hlk dX6_buildHouses_117
    · have h := if_f _ hc h
      refine lv_iload F.1 F.2.1 dX6_buildHouses_28 (lv_at hl 0 rfl) ?_
      refine lv_bipush (v := 7) F.1 F.2.1 dX6_buildHouses_30 ib_7 ?_
      refine lv_iadd F.1 F.2.1 dX6_buildHouses_32 ?_
      refine y_eqi (v := 7) (by decide) ?_
      refine lv_bipush (v := 60) F.1 F.2.1 dX6_buildHouses_33 ib_60 ?_
      refine lv_icmp_gt (tgt := 116) F.1 F.2.1 dX6_buildHouses_35 (by decide) (fun hc => ?_) (fun hc => ?_)
      · exact absurd hc (by decide)
      · refine lv_aload_n F.1 F.2.1 dX6_buildHouses_38 rfl (lv_at hl 2 rfl) ?_
        refine x_getr F hP k_9 (hP.al 9 rfl) fl_X6_13 rfl r_9_0 dX6_buildHouses_39 ?_
        refine lv_iload_n F.1 F.2.1 dX6_buildHouses_42 rfl (lv_at hl 3 rfl) ?_
        refine y_aald h F hP k_56 (by decide) (by decide) (n2 (hP.al 56 rfl)) ek_56 dX6_buildHouses_43 (fun q_43 hk_q_43 ha_q_43 h => ?_)
        refine lv_astore (lv' := [(5, .ref (ad0 q_43)), (4, .int (0 : Int32)), (3, .int (0 : Int32)), (0, .ref (ad0 9)), (1, .int a1), (2, .ref (ad0 2))]) F.1 F.2.1 dX6_buildHouses_44 hl (Nat.le_of_ble_eq_true rfl) rfl (fun ls hl => ?_)
        refine lv_aload_n F.1 F.2.1 dX6_buildHouses_46 rfl (lv_at hl 5 rfl) ?_
        refine lv_aload F.1 F.2.1 dX6_buildHouses_47 (lv_at hl 0 rfl) ?_
        refine lv_iload F.1 F.2.1 dX6_buildHouses_49 (lv_at hl 1 rfl) ?_
        refine y_iald h F hP hk_q_43 (n2 ha_q_43) dX6_buildHouses_51 (fun v_51 h => ?_)
        refine lv_aload F.1 F.2.1 dX6_buildHouses_52 (lv_at hl 0 rfl) ?_
        refine lv_iload F.1 F.2.1 dX6_buildHouses_54 (lv_at hl 1 rfl) ?_
        refine lv_iconst (v := 1) F.1 F.2.1 dX6_buildHouses_56 ic_1 ?_
        refine lv_iadd F.1 F.2.1 dX6_buildHouses_57 ?_
        refine y_eqi (v := 1) (by decide) ?_
        refine y_iald h F hP hk_q_43 (n2 ha_q_43) dX6_buildHouses_58 (fun v_58 h => ?_)
        refine lv_aload F.1 F.2.1 dX6_buildHouses_59 (lv_at hl 0 rfl) ?_
        refine lv_iload F.1 F.2.1 dX6_buildHouses_61 (lv_at hl 1 rfl) ?_
        refine lv_iconst (v := 2) F.1 F.2.1 dX6_buildHouses_63 ic_2 ?_
        refine lv_iadd F.1 F.2.1 dX6_buildHouses_64 ?_
        refine y_eqi (v := 2) (by decide) ?_
        refine y_iald h F hP hk_q_43 (n2 ha_q_43) dX6_buildHouses_65 (fun v_65 h => ?_)
        refine lv_aload F.1 F.2.1 dX6_buildHouses_66 (lv_at hl 0 rfl) ?_
        refine lv_iload F.1 F.2.1 dX6_buildHouses_68 (lv_at hl 1 rfl) ?_
        refine lv_iconst (v := 3) F.1 F.2.1 dX6_buildHouses_70 ic_3 ?_
        refine lv_iadd F.1 F.2.1 dX6_buildHouses_71 ?_
        refine y_eqi (v := 3) (by decide) ?_
        refine y_iald h F hP hk_q_43 (n2 ha_q_43) dX6_buildHouses_72 (fun v_72 h => ?_)
        refine lv_aload F.1 F.2.1 dX6_buildHouses_73 (lv_at hl 0 rfl) ?_
        refine lv_iload F.1 F.2.1 dX6_buildHouses_75 (lv_at hl 1 rfl) ?_
        refine lv_iconst (v := 4) F.1 F.2.1 dX6_buildHouses_77 ic_4 ?_
        refine lv_iadd F.1 F.2.1 dX6_buildHouses_78 ?_
        refine y_eqi (v := 4) (by decide) ?_
        refine y_iald h F hP hk_q_43 (n2 ha_q_43) dX6_buildHouses_79 (fun v_79 h => ?_)
        refine lv_aload F.1 F.2.1 dX6_buildHouses_80 (lv_at hl 0 rfl) ?_
        refine lv_iload F.1 F.2.1 dX6_buildHouses_82 (lv_at hl 1 rfl) ?_
        refine lv_iconst (v := 5) F.1 F.2.1 dX6_buildHouses_84 ic_5 ?_
        refine lv_iadd F.1 F.2.1 dX6_buildHouses_85 ?_
        refine y_eqi (v := 5) (by decide) ?_
        refine y_iald h F hP hk_q_43 (n2 ha_q_43) dX6_buildHouses_86 (fun v_86 h => ?_)
        refine lv_aload F.1 F.2.1 dX6_buildHouses_87 (lv_at hl 0 rfl) ?_
        refine lv_iload F.1 F.2.1 dX6_buildHouses_89 (lv_at hl 1 rfl) ?_
        refine lv_bipush (v := 6) F.1 F.2.1 dX6_buildHouses_91 ib_6 ?_
        refine lv_iadd F.1 F.2.1 dX6_buildHouses_93 ?_
        refine y_eqi (v := 6) (by decide) ?_
        refine y_iald h F hP hk_q_43 (n2 ha_q_43) dX6_buildHouses_94 (fun v_94 h => ?_)
        obtain ⟨v_95, w_95, hc_95, h⟩ := bi_s h
        refine x_goesA (x_runV (As := [.int v_51, .int v_58, .int v_65, .int v_72, .int v_79, .int v_86, .int v_94]) (rest := []) F hP hS (c_X8_addHouse l D cT lo w ad0 v_51 v_58 v_65 v_72 v_79 v_86 v_94 v_95 w_95 hc_95) cw_X8_addHouse lk_X6_69 vi_X8_addHouse k_2 (n2 (hP.al 2 rfl)) rfl ⟨rfl, rfl, Nat.le_of_ble_eq_true rfl, Nat.le_of_ble_eq_true rfl⟩ hl.1 rfl (Nat.le_of_ble_eq_true rfl) dX6_buildHouses_95 ⟨Nat.le_of_ble_eq_true rfl, Nat.le_of_ble_eq_true rfl⟩) hS (fun ad H locs hx hP' hS hm => ?_)
        have e9 := hx 9 (n2 (hP.al 9 rfl))
        try rw [← e9] at hl
        try rw [← e9]
        have e9 := hx 2 (n2 (hP.al 2 rfl))
        try rw [← e9] at hl
        try rw [← e9]
        have e9 := hx q_43 (n2 ha_q_43)
        try rw [← e9] at hl
        try rw [← e9]
        have hP := hP'
        have hXA : ∀ k, wA w k ≠ 0 → ad k = ad0 k := fun k hk => (hx k (hM_w.1 k hk)).trans (hXA k hk)
        have hM_w := hm
        have ha_q_43 := hm.2 _ ha_q_43
        refine lv_istore (lv' := [(6, .int v_95), (5, .ref (ad q_43)), (4, .int (0 : Int32)), (3, .int (0 : Int32)), (0, .ref (ad 9)), (1, .int a1), (2, .ref (ad 2))]) F.1 F.2.1 dX6_buildHouses_98 hl (Nat.le_of_ble_eq_true rfl) rfl (fun ls hl => ?_)
        refine lv_iload F.1 F.2.1 dX6_buildHouses_100 (lv_at hl 0 rfl) ?_
        refine lv_if_ge (tgt := 107) F.1 F.2.1 dX6_buildHouses_102 (by decide) (fun hc => ?_) (fun hc => ?_)
        · have h := if_t _ hc h
          refine lv_iinc (v := 1) (lv' := [(3, .int (1 : Int32)), (6, .int v_95), (5, .ref (ad q_43)), (4, .int (0 : Int32)), (0, .ref (ad 9)), (1, .int a1), (2, .ref (ad 2))]) F.1 F.2.1 dX6_buildHouses_107 hl (k := 3) rfl (by decide) (Nat.le_of_ble_eq_true rfl) rfl (fun ls hl => ?_)
          refine lv_iinc (v := 7) (lv' := [(4, .int (7 : Int32)), (3, .int (1 : Int32)), (6, .int v_95), (5, .ref (ad q_43)), (0, .ref (ad 9)), (1, .int a1), (2, .ref (ad 2))]) F.1 F.2.1 dX6_buildHouses_110 hl (k := 3) rfl (by decide) (Nat.le_of_ble_eq_true rfl) rfl (fun ls hl => ?_)
          refine lv_goto (tgt := 14) F.1 F.2.1 dX6_buildHouses_113 (by decide) ?_
          refine lv_iload F.1 F.2.1 dX6_buildHouses_14 (lv_at hl 0 rfl) ?_
          refine lv_bipush (v := 7) F.1 F.2.1 dX6_buildHouses_16 ib_7 ?_
          refine lv_iadd F.1 F.2.1 dX6_buildHouses_18 ?_
          refine y_eqi (v := 14) (by decide) ?_
          refine lv_aload_n F.1 F.2.1 dX6_buildHouses_19 rfl (lv_at hl 4 rfl) ?_
          refine x_getr F hP k_9 (hP.al 9 rfl) fl_X6_20 rfl r_9_2 dX6_buildHouses_20 ?_
          refine lv_iload_n F.1 F.2.1 dX6_buildHouses_23 rfl (lv_at hl 5 rfl) ?_
          refine y_iald h F hP k_62 (n2 (hP.al 62 rfl)) dX6_buildHouses_24 (fun v_24 h => ?_)
          refine lv_icmp_gt (tgt := 116) F.1 F.2.1 dX6_buildHouses_25 (by decide) (fun hc => ?_) (fun hc => ?_)
          · have h := if_t _ hc h
            refine lv_iload_n F.1 F.2.1 dX6_buildHouses_116 rfl (lv_at hl 1 rfl) ?_
            refine W.widen (k := 8) (n := 32) (Nat.le_of_ble_eq_true rfl) (Nat.le_of_ble_eq_true rfl) ?_
            exact y_iretA h F hXA hr hP hS hM_w hlk dX6_buildHouses_117
          · have h := if_f _ hc h
            refine lv_iload F.1 F.2.1 dX6_buildHouses_28 (lv_at hl 0 rfl) ?_
            refine lv_bipush (v := 7) F.1 F.2.1 dX6_buildHouses_30 ib_7 ?_
            refine lv_iadd F.1 F.2.1 dX6_buildHouses_32 ?_
            refine y_eqi (v := 14) (by decide) ?_
            refine lv_bipush (v := 60) F.1 F.2.1 dX6_buildHouses_33 ib_60 ?_
            refine lv_icmp_gt (tgt := 116) F.1 F.2.1 dX6_buildHouses_35 (by decide) (fun hc => ?_) (fun hc => ?_)
            · exact absurd hc (by decide)
            · refine lv_aload_n F.1 F.2.1 dX6_buildHouses_38 rfl (lv_at hl 4 rfl) ?_
              refine x_getr F hP k_9 (hP.al 9 rfl) fl_X6_13 rfl r_9_0 dX6_buildHouses_39 ?_
              refine lv_iload_n F.1 F.2.1 dX6_buildHouses_42 rfl (lv_at hl 5 rfl) ?_
              refine y_aald h F hP k_56 (by decide) (by decide) (n2 (hP.al 56 rfl)) ek_56 dX6_buildHouses_43 (fun q_43 hk_q_43 ha_q_43 h => ?_)
              refine lv_astore (lv' := [(5, .ref (ad q_43)), (4, .int (7 : Int32)), (3, .int (1 : Int32)), (6, .int v_95), (0, .ref (ad 9)), (1, .int a1), (2, .ref (ad 2))]) F.1 F.2.1 dX6_buildHouses_44 hl (Nat.le_of_ble_eq_true rfl) rfl (fun ls hl => ?_)
              refine lv_aload_n F.1 F.2.1 dX6_buildHouses_46 rfl (lv_at hl 6 rfl) ?_
              refine lv_aload F.1 F.2.1 dX6_buildHouses_47 (lv_at hl 0 rfl) ?_
              refine lv_iload F.1 F.2.1 dX6_buildHouses_49 (lv_at hl 1 rfl) ?_
              refine y_iald h F hP hk_q_43 (n2 ha_q_43) dX6_buildHouses_51 (fun v_51 h => ?_)
              refine lv_aload F.1 F.2.1 dX6_buildHouses_52 (lv_at hl 0 rfl) ?_
              refine lv_iload F.1 F.2.1 dX6_buildHouses_54 (lv_at hl 1 rfl) ?_
              refine lv_iconst (v := 1) F.1 F.2.1 dX6_buildHouses_56 ic_1 ?_
              refine lv_iadd F.1 F.2.1 dX6_buildHouses_57 ?_
              refine y_eqi (v := 8) (by decide) ?_
              refine y_iald h F hP hk_q_43 (n2 ha_q_43) dX6_buildHouses_58 (fun v_58 h => ?_)
              refine lv_aload F.1 F.2.1 dX6_buildHouses_59 (lv_at hl 0 rfl) ?_
              refine lv_iload F.1 F.2.1 dX6_buildHouses_61 (lv_at hl 1 rfl) ?_
              refine lv_iconst (v := 2) F.1 F.2.1 dX6_buildHouses_63 ic_2 ?_
              refine lv_iadd F.1 F.2.1 dX6_buildHouses_64 ?_
              refine y_eqi (v := 9) (by decide) ?_
              refine y_iald h F hP hk_q_43 (n2 ha_q_43) dX6_buildHouses_65 (fun v_65 h => ?_)
              refine lv_aload F.1 F.2.1 dX6_buildHouses_66 (lv_at hl 0 rfl) ?_
              refine lv_iload F.1 F.2.1 dX6_buildHouses_68 (lv_at hl 1 rfl) ?_
              refine lv_iconst (v := 3) F.1 F.2.1 dX6_buildHouses_70 ic_3 ?_
              refine lv_iadd F.1 F.2.1 dX6_buildHouses_71 ?_
              refine y_eqi (v := 10) (by decide) ?_
              refine y_iald h F hP hk_q_43 (n2 ha_q_43) dX6_buildHouses_72 (fun v_72 h => ?_)
              refine lv_aload F.1 F.2.1 dX6_buildHouses_73 (lv_at hl 0 rfl) ?_
              refine lv_iload F.1 F.2.1 dX6_buildHouses_75 (lv_at hl 1 rfl) ?_
              refine lv_iconst (v := 4) F.1 F.2.1 dX6_buildHouses_77 ic_4 ?_
              refine lv_iadd F.1 F.2.1 dX6_buildHouses_78 ?_
              refine y_eqi (v := 11) (by decide) ?_
              refine y_iald h F hP hk_q_43 (n2 ha_q_43) dX6_buildHouses_79 (fun v_79 h => ?_)
              refine lv_aload F.1 F.2.1 dX6_buildHouses_80 (lv_at hl 0 rfl) ?_
              refine lv_iload F.1 F.2.1 dX6_buildHouses_82 (lv_at hl 1 rfl) ?_
              refine lv_iconst (v := 5) F.1 F.2.1 dX6_buildHouses_84 ic_5 ?_
              refine lv_iadd F.1 F.2.1 dX6_buildHouses_85 ?_
              refine y_eqi (v := 12) (by decide) ?_
              refine y_iald h F hP hk_q_43 (n2 ha_q_43) dX6_buildHouses_86 (fun v_86 h => ?_)
              refine lv_aload F.1 F.2.1 dX6_buildHouses_87 (lv_at hl 0 rfl) ?_
              refine lv_iload F.1 F.2.1 dX6_buildHouses_89 (lv_at hl 1 rfl) ?_
              refine lv_bipush (v := 6) F.1 F.2.1 dX6_buildHouses_91 ib_6 ?_
              refine lv_iadd F.1 F.2.1 dX6_buildHouses_93 ?_
              refine y_eqi (v := 13) (by decide) ?_
              refine y_iald h F hP hk_q_43 (n2 ha_q_43) dX6_buildHouses_94 (fun v_94 h => ?_)
              obtain ⟨v_95_2, w_95_2, hc_95_2, h⟩ := bi_s h
              refine x_goesA (x_runV (As := [.int v_51, .int v_58, .int v_65, .int v_72, .int v_79, .int v_86, .int v_94]) (rest := []) F hP hS (c_X8_addHouse l D cT lo w_95 ad v_51 v_58 v_65 v_72 v_79 v_86 v_94 v_95_2 w_95_2 hc_95_2) cw_X8_addHouse lk_X6_69 vi_X8_addHouse k_2 (n2 (hP.al 2 rfl)) rfl ⟨rfl, rfl, Nat.le_of_ble_eq_true rfl, Nat.le_of_ble_eq_true rfl⟩ hl.1 rfl (Nat.le_of_ble_eq_true rfl) dX6_buildHouses_95 ⟨Nat.le_of_ble_eq_true rfl, Nat.le_of_ble_eq_true rfl⟩) hS (fun ad H locs hx hP' hS hm => ?_)
              have e9 := hx 9 (n2 (hP.al 9 rfl))
              try rw [← e9] at hl
              try rw [← e9]
              have e9 := hx 2 (n2 (hP.al 2 rfl))
              try rw [← e9] at hl
              try rw [← e9]
              have e9 := hx q_43 (n2 ha_q_43)
              try rw [← e9] at hl
              try rw [← e9]
              have hP := hP'
              have hXA : ∀ k, wA w k ≠ 0 → ad k = ad0 k := fun k hk => (hx k (hM_w.1 k hk)).trans (hXA k hk)
              have hM_w := hM_w.trans hm
              have ha_q_43 := hm.2 _ ha_q_43
              refine lv_istore (lv' := [(6, .int v_95_2), (5, .ref (ad q_43)), (4, .int (7 : Int32)), (3, .int (1 : Int32)), (0, .ref (ad 9)), (1, .int a1), (2, .ref (ad 2))]) F.1 F.2.1 dX6_buildHouses_98 hl (Nat.le_of_ble_eq_true rfl) rfl (fun ls hl => ?_)
              refine lv_iload F.1 F.2.1 dX6_buildHouses_100 (lv_at hl 0 rfl) ?_
              refine lv_if_ge (tgt := 107) F.1 F.2.1 dX6_buildHouses_102 (by decide) (fun hc => ?_) (fun hc => ?_)
              · have h := if_t _ hc h
                refine lv_iinc (v := 2) (lv' := [(3, .int (2 : Int32)), (6, .int v_95_2), (5, .ref (ad q_43)), (4, .int (7 : Int32)), (0, .ref (ad 9)), (1, .int a1), (2, .ref (ad 2))]) F.1 F.2.1 dX6_buildHouses_107 hl (k := 3) rfl (by decide) (Nat.le_of_ble_eq_true rfl) rfl (fun ls hl => ?_)
                refine lv_iinc (v := 14) (lv' := [(4, .int (14 : Int32)), (3, .int (2 : Int32)), (6, .int v_95_2), (5, .ref (ad q_43)), (0, .ref (ad 9)), (1, .int a1), (2, .ref (ad 2))]) F.1 F.2.1 dX6_buildHouses_110 hl (k := 3) rfl (by decide) (Nat.le_of_ble_eq_true rfl) rfl (fun ls hl => ?_)
                refine lv_goto (tgt := 14) F.1 F.2.1 dX6_buildHouses_113 (by decide) ?_
                refine lv_iload F.1 F.2.1 dX6_buildHouses_14 (lv_at hl 0 rfl) ?_
                refine lv_bipush (v := 7) F.1 F.2.1 dX6_buildHouses_16 ib_7 ?_
                refine lv_iadd F.1 F.2.1 dX6_buildHouses_18 ?_
                refine y_eqi (v := 21) (by decide) ?_
                refine lv_aload_n F.1 F.2.1 dX6_buildHouses_19 rfl (lv_at hl 4 rfl) ?_
                refine x_getr F hP k_9 (hP.al 9 rfl) fl_X6_20 rfl r_9_2 dX6_buildHouses_20 ?_
                refine lv_iload_n F.1 F.2.1 dX6_buildHouses_23 rfl (lv_at hl 5 rfl) ?_
                refine y_iald h F hP k_62 (n2 (hP.al 62 rfl)) dX6_buildHouses_24 (fun v_24 h => ?_)
                refine lv_icmp_gt (tgt := 116) F.1 F.2.1 dX6_buildHouses_25 (by decide) (fun hc => ?_) (fun hc => ?_)
                · have h := if_t _ hc h
                  refine lv_iload_n F.1 F.2.1 dX6_buildHouses_116 rfl (lv_at hl 1 rfl) ?_
                  refine W.widen (k := 8) (n := 32) (Nat.le_of_ble_eq_true rfl) (Nat.le_of_ble_eq_true rfl) ?_
                  exact y_iretA h F hXA hr hP hS hM_w hlk dX6_buildHouses_117
                · have h := if_f _ hc h
                  refine lv_iload F.1 F.2.1 dX6_buildHouses_28 (lv_at hl 0 rfl) ?_
                  refine lv_bipush (v := 7) F.1 F.2.1 dX6_buildHouses_30 ib_7 ?_
                  refine lv_iadd F.1 F.2.1 dX6_buildHouses_32 ?_
                  refine y_eqi (v := 21) (by decide) ?_
                  refine lv_bipush (v := 60) F.1 F.2.1 dX6_buildHouses_33 ib_60 ?_
                  refine lv_icmp_gt (tgt := 116) F.1 F.2.1 dX6_buildHouses_35 (by decide) (fun hc => ?_) (fun hc => ?_)
                  · exact absurd hc (by decide)
                  · refine lv_aload_n F.1 F.2.1 dX6_buildHouses_38 rfl (lv_at hl 4 rfl) ?_
                    refine x_getr F hP k_9 (hP.al 9 rfl) fl_X6_13 rfl r_9_0 dX6_buildHouses_39 ?_
                    refine lv_iload_n F.1 F.2.1 dX6_buildHouses_42 rfl (lv_at hl 5 rfl) ?_
                    refine y_aald h F hP k_56 (by decide) (by decide) (n2 (hP.al 56 rfl)) ek_56 dX6_buildHouses_43 (fun q_43 hk_q_43 ha_q_43 h => ?_)
                    refine lv_astore (lv' := [(5, .ref (ad q_43)), (4, .int (14 : Int32)), (3, .int (2 : Int32)), (6, .int v_95_2), (0, .ref (ad 9)), (1, .int a1), (2, .ref (ad 2))]) F.1 F.2.1 dX6_buildHouses_44 hl (Nat.le_of_ble_eq_true rfl) rfl (fun ls hl => ?_)
                    refine lv_aload_n F.1 F.2.1 dX6_buildHouses_46 rfl (lv_at hl 6 rfl) ?_
                    refine lv_aload F.1 F.2.1 dX6_buildHouses_47 (lv_at hl 0 rfl) ?_
                    refine lv_iload F.1 F.2.1 dX6_buildHouses_49 (lv_at hl 1 rfl) ?_
                    refine y_iald h F hP hk_q_43 (n2 ha_q_43) dX6_buildHouses_51 (fun v_51 h => ?_)
                    refine lv_aload F.1 F.2.1 dX6_buildHouses_52 (lv_at hl 0 rfl) ?_
                    refine lv_iload F.1 F.2.1 dX6_buildHouses_54 (lv_at hl 1 rfl) ?_
                    refine lv_iconst (v := 1) F.1 F.2.1 dX6_buildHouses_56 ic_1 ?_
                    refine lv_iadd F.1 F.2.1 dX6_buildHouses_57 ?_
                    refine y_eqi (v := 15) (by decide) ?_
                    refine y_iald h F hP hk_q_43 (n2 ha_q_43) dX6_buildHouses_58 (fun v_58 h => ?_)
                    refine lv_aload F.1 F.2.1 dX6_buildHouses_59 (lv_at hl 0 rfl) ?_
                    refine lv_iload F.1 F.2.1 dX6_buildHouses_61 (lv_at hl 1 rfl) ?_
                    refine lv_iconst (v := 2) F.1 F.2.1 dX6_buildHouses_63 ic_2 ?_
                    refine lv_iadd F.1 F.2.1 dX6_buildHouses_64 ?_
                    refine y_eqi (v := 16) (by decide) ?_
                    refine y_iald h F hP hk_q_43 (n2 ha_q_43) dX6_buildHouses_65 (fun v_65 h => ?_)
                    refine lv_aload F.1 F.2.1 dX6_buildHouses_66 (lv_at hl 0 rfl) ?_
                    refine lv_iload F.1 F.2.1 dX6_buildHouses_68 (lv_at hl 1 rfl) ?_
                    refine lv_iconst (v := 3) F.1 F.2.1 dX6_buildHouses_70 ic_3 ?_
                    refine lv_iadd F.1 F.2.1 dX6_buildHouses_71 ?_
                    refine y_eqi (v := 17) (by decide) ?_
                    refine y_iald h F hP hk_q_43 (n2 ha_q_43) dX6_buildHouses_72 (fun v_72 h => ?_)
                    refine lv_aload F.1 F.2.1 dX6_buildHouses_73 (lv_at hl 0 rfl) ?_
                    refine lv_iload F.1 F.2.1 dX6_buildHouses_75 (lv_at hl 1 rfl) ?_
                    refine lv_iconst (v := 4) F.1 F.2.1 dX6_buildHouses_77 ic_4 ?_
                    refine lv_iadd F.1 F.2.1 dX6_buildHouses_78 ?_
                    refine y_eqi (v := 18) (by decide) ?_
                    refine y_iald h F hP hk_q_43 (n2 ha_q_43) dX6_buildHouses_79 (fun v_79 h => ?_)
                    refine lv_aload F.1 F.2.1 dX6_buildHouses_80 (lv_at hl 0 rfl) ?_
                    refine lv_iload F.1 F.2.1 dX6_buildHouses_82 (lv_at hl 1 rfl) ?_
                    refine lv_iconst (v := 5) F.1 F.2.1 dX6_buildHouses_84 ic_5 ?_
                    refine lv_iadd F.1 F.2.1 dX6_buildHouses_85 ?_
                    refine y_eqi (v := 19) (by decide) ?_
                    refine y_iald h F hP hk_q_43 (n2 ha_q_43) dX6_buildHouses_86 (fun v_86 h => ?_)
                    refine lv_aload F.1 F.2.1 dX6_buildHouses_87 (lv_at hl 0 rfl) ?_
                    refine lv_iload F.1 F.2.1 dX6_buildHouses_89 (lv_at hl 1 rfl) ?_
                    refine lv_bipush (v := 6) F.1 F.2.1 dX6_buildHouses_91 ib_6 ?_
                    refine lv_iadd F.1 F.2.1 dX6_buildHouses_93 ?_
                    refine y_eqi (v := 20) (by decide) ?_
                    refine y_iald h F hP hk_q_43 (n2 ha_q_43) dX6_buildHouses_94 (fun v_94 h => ?_)
                    obtain ⟨v_95_3, w_95_3, hc_95_3, h⟩ := bi_s h
                    refine x_goesA (x_runV (As := [.int v_51, .int v_58, .int v_65, .int v_72, .int v_79, .int v_86, .int v_94]) (rest := []) F hP hS (c_X8_addHouse l D cT lo w_95_2 ad v_51 v_58 v_65 v_72 v_79 v_86 v_94 v_95_3 w_95_3 hc_95_3) cw_X8_addHouse lk_X6_69 vi_X8_addHouse k_2 (n2 (hP.al 2 rfl)) rfl ⟨rfl, rfl, Nat.le_of_ble_eq_true rfl, Nat.le_of_ble_eq_true rfl⟩ hl.1 rfl (Nat.le_of_ble_eq_true rfl) dX6_buildHouses_95 ⟨Nat.le_of_ble_eq_true rfl, Nat.le_of_ble_eq_true rfl⟩) hS (fun ad H locs hx hP' hS hm => ?_)
                    have e9 := hx 9 (n2 (hP.al 9 rfl))
                    try rw [← e9] at hl
                    try rw [← e9]
                    have e9 := hx 2 (n2 (hP.al 2 rfl))
                    try rw [← e9] at hl
                    try rw [← e9]
                    have e9 := hx q_43 (n2 ha_q_43)
                    try rw [← e9] at hl
                    try rw [← e9]
                    have hP := hP'
                    have hXA : ∀ k, wA w k ≠ 0 → ad k = ad0 k := fun k hk => (hx k (hM_w.1 k hk)).trans (hXA k hk)
                    have hM_w := hM_w.trans hm
                    have ha_q_43 := hm.2 _ ha_q_43
                    refine lv_istore (lv' := [(6, .int v_95_3), (5, .ref (ad q_43)), (4, .int (14 : Int32)), (3, .int (2 : Int32)), (0, .ref (ad 9)), (1, .int a1), (2, .ref (ad 2))]) F.1 F.2.1 dX6_buildHouses_98 hl (Nat.le_of_ble_eq_true rfl) rfl (fun ls hl => ?_)
                    refine lv_iload F.1 F.2.1 dX6_buildHouses_100 (lv_at hl 0 rfl) ?_
                    refine lv_if_ge (tgt := 107) F.1 F.2.1 dX6_buildHouses_102 (by decide) (fun hc => ?_) (fun hc => ?_)
                    · have h := if_t _ hc h
                      refine lv_iinc (v := 3) (lv' := [(3, .int (3 : Int32)), (6, .int v_95_3), (5, .ref (ad q_43)), (4, .int (14 : Int32)), (0, .ref (ad 9)), (1, .int a1), (2, .ref (ad 2))]) F.1 F.2.1 dX6_buildHouses_107 hl (k := 3) rfl (by decide) (Nat.le_of_ble_eq_true rfl) rfl (fun ls hl => ?_)
                      refine lv_iinc (v := 21) (lv' := [(4, .int (21 : Int32)), (3, .int (3 : Int32)), (6, .int v_95_3), (5, .ref (ad q_43)), (0, .ref (ad 9)), (1, .int a1), (2, .ref (ad 2))]) F.1 F.2.1 dX6_buildHouses_110 hl (k := 3) rfl (by decide) (Nat.le_of_ble_eq_true rfl) rfl (fun ls hl => ?_)
                      refine lv_goto (tgt := 14) F.1 F.2.1 dX6_buildHouses_113 (by decide) ?_
                      refine lv_iload F.1 F.2.1 dX6_buildHouses_14 (lv_at hl 0 rfl) ?_
                      refine lv_bipush (v := 7) F.1 F.2.1 dX6_buildHouses_16 ib_7 ?_
                      refine lv_iadd F.1 F.2.1 dX6_buildHouses_18 ?_
                      refine y_eqi (v := 28) (by decide) ?_
                      refine lv_aload_n F.1 F.2.1 dX6_buildHouses_19 rfl (lv_at hl 4 rfl) ?_
                      refine x_getr F hP k_9 (hP.al 9 rfl) fl_X6_20 rfl r_9_2 dX6_buildHouses_20 ?_
                      refine lv_iload_n F.1 F.2.1 dX6_buildHouses_23 rfl (lv_at hl 5 rfl) ?_
                      refine y_iald h F hP k_62 (n2 (hP.al 62 rfl)) dX6_buildHouses_24 (fun v_24 h => ?_)
                      refine lv_icmp_gt (tgt := 116) F.1 F.2.1 dX6_buildHouses_25 (by decide) (fun hc => ?_) (fun hc => ?_)
                      · have h := if_t _ hc h
                        refine lv_iload_n F.1 F.2.1 dX6_buildHouses_116 rfl (lv_at hl 1 rfl) ?_
                        refine W.widen (k := 8) (n := 32) (Nat.le_of_ble_eq_true rfl) (Nat.le_of_ble_eq_true rfl) ?_
                        exact y_iretA h F hXA hr hP hS hM_w hlk dX6_buildHouses_117
                      · have h := if_f _ hc h
                        refine lv_iload F.1 F.2.1 dX6_buildHouses_28 (lv_at hl 0 rfl) ?_
                        refine lv_bipush (v := 7) F.1 F.2.1 dX6_buildHouses_30 ib_7 ?_
                        refine lv_iadd F.1 F.2.1 dX6_buildHouses_32 ?_
                        refine y_eqi (v := 28) (by decide) ?_
                        refine lv_bipush (v := 60) F.1 F.2.1 dX6_buildHouses_33 ib_60 ?_
                        refine lv_icmp_gt (tgt := 116) F.1 F.2.1 dX6_buildHouses_35 (by decide) (fun hc => ?_) (fun hc => ?_)
                        · exact absurd hc (by decide)
                        · refine lv_aload_n F.1 F.2.1 dX6_buildHouses_38 rfl (lv_at hl 4 rfl) ?_
                          refine x_getr F hP k_9 (hP.al 9 rfl) fl_X6_13 rfl r_9_0 dX6_buildHouses_39 ?_
                          refine lv_iload_n F.1 F.2.1 dX6_buildHouses_42 rfl (lv_at hl 5 rfl) ?_
                          refine y_aald h F hP k_56 (by decide) (by decide) (n2 (hP.al 56 rfl)) ek_56 dX6_buildHouses_43 (fun q_43 hk_q_43 ha_q_43 h => ?_)
                          refine lv_astore (lv' := [(5, .ref (ad q_43)), (4, .int (21 : Int32)), (3, .int (3 : Int32)), (6, .int v_95_3), (0, .ref (ad 9)), (1, .int a1), (2, .ref (ad 2))]) F.1 F.2.1 dX6_buildHouses_44 hl (Nat.le_of_ble_eq_true rfl) rfl (fun ls hl => ?_)
                          refine lv_aload_n F.1 F.2.1 dX6_buildHouses_46 rfl (lv_at hl 6 rfl) ?_
                          refine lv_aload F.1 F.2.1 dX6_buildHouses_47 (lv_at hl 0 rfl) ?_
                          refine lv_iload F.1 F.2.1 dX6_buildHouses_49 (lv_at hl 1 rfl) ?_
                          refine y_iald h F hP hk_q_43 (n2 ha_q_43) dX6_buildHouses_51 (fun v_51 h => ?_)
                          refine lv_aload F.1 F.2.1 dX6_buildHouses_52 (lv_at hl 0 rfl) ?_
                          refine lv_iload F.1 F.2.1 dX6_buildHouses_54 (lv_at hl 1 rfl) ?_
                          refine lv_iconst (v := 1) F.1 F.2.1 dX6_buildHouses_56 ic_1 ?_
                          refine lv_iadd F.1 F.2.1 dX6_buildHouses_57 ?_
                          refine y_eqi (v := 22) (by decide) ?_
                          refine y_iald h F hP hk_q_43 (n2 ha_q_43) dX6_buildHouses_58 (fun v_58 h => ?_)
                          refine lv_aload F.1 F.2.1 dX6_buildHouses_59 (lv_at hl 0 rfl) ?_
                          refine lv_iload F.1 F.2.1 dX6_buildHouses_61 (lv_at hl 1 rfl) ?_
                          refine lv_iconst (v := 2) F.1 F.2.1 dX6_buildHouses_63 ic_2 ?_
                          refine lv_iadd F.1 F.2.1 dX6_buildHouses_64 ?_
                          refine y_eqi (v := 23) (by decide) ?_
                          refine y_iald h F hP hk_q_43 (n2 ha_q_43) dX6_buildHouses_65 (fun v_65 h => ?_)
                          refine lv_aload F.1 F.2.1 dX6_buildHouses_66 (lv_at hl 0 rfl) ?_
                          refine lv_iload F.1 F.2.1 dX6_buildHouses_68 (lv_at hl 1 rfl) ?_
                          refine lv_iconst (v := 3) F.1 F.2.1 dX6_buildHouses_70 ic_3 ?_
                          refine lv_iadd F.1 F.2.1 dX6_buildHouses_71 ?_
                          refine y_eqi (v := 24) (by decide) ?_
                          refine y_iald h F hP hk_q_43 (n2 ha_q_43) dX6_buildHouses_72 (fun v_72 h => ?_)
                          refine lv_aload F.1 F.2.1 dX6_buildHouses_73 (lv_at hl 0 rfl) ?_
                          refine lv_iload F.1 F.2.1 dX6_buildHouses_75 (lv_at hl 1 rfl) ?_
                          refine lv_iconst (v := 4) F.1 F.2.1 dX6_buildHouses_77 ic_4 ?_
                          refine lv_iadd F.1 F.2.1 dX6_buildHouses_78 ?_
                          refine y_eqi (v := 25) (by decide) ?_
                          refine y_iald h F hP hk_q_43 (n2 ha_q_43) dX6_buildHouses_79 (fun v_79 h => ?_)
                          refine lv_aload F.1 F.2.1 dX6_buildHouses_80 (lv_at hl 0 rfl) ?_
                          refine lv_iload F.1 F.2.1 dX6_buildHouses_82 (lv_at hl 1 rfl) ?_
                          refine lv_iconst (v := 5) F.1 F.2.1 dX6_buildHouses_84 ic_5 ?_
                          refine lv_iadd F.1 F.2.1 dX6_buildHouses_85 ?_
                          refine y_eqi (v := 26) (by decide) ?_
                          refine y_iald h F hP hk_q_43 (n2 ha_q_43) dX6_buildHouses_86 (fun v_86 h => ?_)
                          refine lv_aload F.1 F.2.1 dX6_buildHouses_87 (lv_at hl 0 rfl) ?_
                          refine lv_iload F.1 F.2.1 dX6_buildHouses_89 (lv_at hl 1 rfl) ?_
                          refine lv_bipush (v := 6) F.1 F.2.1 dX6_buildHouses_91 ib_6 ?_
                          refine lv_iadd F.1 F.2.1 dX6_buildHouses_93 ?_
                          refine y_eqi (v := 27) (by decide) ?_
                          refine y_iald h F hP hk_q_43 (n2 ha_q_43) dX6_buildHouses_94 (fun v_94 h => ?_)
                          obtain ⟨v_95_4, w_95_4, hc_95_4, h⟩ := bi_s h
                          refine x_goesA (x_runV (As := [.int v_51, .int v_58, .int v_65, .int v_72, .int v_79, .int v_86, .int v_94]) (rest := []) F hP hS (c_X8_addHouse l D cT lo w_95_3 ad v_51 v_58 v_65 v_72 v_79 v_86 v_94 v_95_4 w_95_4 hc_95_4) cw_X8_addHouse lk_X6_69 vi_X8_addHouse k_2 (n2 (hP.al 2 rfl)) rfl ⟨rfl, rfl, Nat.le_of_ble_eq_true rfl, Nat.le_of_ble_eq_true rfl⟩ hl.1 rfl (Nat.le_of_ble_eq_true rfl) dX6_buildHouses_95 ⟨Nat.le_of_ble_eq_true rfl, Nat.le_of_ble_eq_true rfl⟩) hS (fun ad H locs hx hP' hS hm => ?_)
                          have e9 := hx 9 (n2 (hP.al 9 rfl))
                          try rw [← e9] at hl
                          try rw [← e9]
                          have e9 := hx 2 (n2 (hP.al 2 rfl))
                          try rw [← e9] at hl
                          try rw [← e9]
                          have e9 := hx q_43 (n2 ha_q_43)
                          try rw [← e9] at hl
                          try rw [← e9]
                          have hP := hP'
                          have hXA : ∀ k, wA w k ≠ 0 → ad k = ad0 k := fun k hk => (hx k (hM_w.1 k hk)).trans (hXA k hk)
                          have hM_w := hM_w.trans hm
                          have ha_q_43 := hm.2 _ ha_q_43
                          refine lv_istore (lv' := [(6, .int v_95_4), (5, .ref (ad q_43)), (4, .int (21 : Int32)), (3, .int (3 : Int32)), (0, .ref (ad 9)), (1, .int a1), (2, .ref (ad 2))]) F.1 F.2.1 dX6_buildHouses_98 hl (Nat.le_of_ble_eq_true rfl) rfl (fun ls hl => ?_)
                          refine lv_iload F.1 F.2.1 dX6_buildHouses_100 (lv_at hl 0 rfl) ?_
                          refine lv_if_ge (tgt := 107) F.1 F.2.1 dX6_buildHouses_102 (by decide) (fun hc => ?_) (fun hc => ?_)
                          · have h := if_t _ hc h
                            refine lv_iinc (v := 4) (lv' := [(3, .int (4 : Int32)), (6, .int v_95_4), (5, .ref (ad q_43)), (4, .int (21 : Int32)), (0, .ref (ad 9)), (1, .int a1), (2, .ref (ad 2))]) F.1 F.2.1 dX6_buildHouses_107 hl (k := 3) rfl (by decide) (Nat.le_of_ble_eq_true rfl) rfl (fun ls hl => ?_)
                            refine lv_iinc (v := 28) (lv' := [(4, .int (28 : Int32)), (3, .int (4 : Int32)), (6, .int v_95_4), (5, .ref (ad q_43)), (0, .ref (ad 9)), (1, .int a1), (2, .ref (ad 2))]) F.1 F.2.1 dX6_buildHouses_110 hl (k := 3) rfl (by decide) (Nat.le_of_ble_eq_true rfl) rfl (fun ls hl => ?_)
                            refine lv_goto (tgt := 14) F.1 F.2.1 dX6_buildHouses_113 (by decide) ?_
                            refine lv_iload F.1 F.2.1 dX6_buildHouses_14 (lv_at hl 0 rfl) ?_
                            refine lv_bipush (v := 7) F.1 F.2.1 dX6_buildHouses_16 ib_7 ?_
                            refine lv_iadd F.1 F.2.1 dX6_buildHouses_18 ?_
                            refine y_eqi (v := 35) (by decide) ?_
                            refine lv_aload_n F.1 F.2.1 dX6_buildHouses_19 rfl (lv_at hl 4 rfl) ?_
                            refine x_getr F hP k_9 (hP.al 9 rfl) fl_X6_20 rfl r_9_2 dX6_buildHouses_20 ?_
                            refine lv_iload_n F.1 F.2.1 dX6_buildHouses_23 rfl (lv_at hl 5 rfl) ?_
                            refine y_iald h F hP k_62 (n2 (hP.al 62 rfl)) dX6_buildHouses_24 (fun v_24 h => ?_)
                            refine lv_icmp_gt (tgt := 116) F.1 F.2.1 dX6_buildHouses_25 (by decide) (fun hc => ?_) (fun hc => ?_)
                            · have h := if_t _ hc h
                              refine lv_iload_n F.1 F.2.1 dX6_buildHouses_116 rfl (lv_at hl 1 rfl) ?_
                              refine W.widen (k := 8) (n := 32) (Nat.le_of_ble_eq_true rfl) (Nat.le_of_ble_eq_true rfl) ?_
                              exact y_iretA h F hXA hr hP hS hM_w hlk dX6_buildHouses_117
                            · have h := if_f _ hc h
                              refine lv_iload F.1 F.2.1 dX6_buildHouses_28 (lv_at hl 0 rfl) ?_
                              refine lv_bipush (v := 7) F.1 F.2.1 dX6_buildHouses_30 ib_7 ?_
                              refine lv_iadd F.1 F.2.1 dX6_buildHouses_32 ?_
                              refine y_eqi (v := 35) (by decide) ?_
                              refine lv_bipush (v := 60) F.1 F.2.1 dX6_buildHouses_33 ib_60 ?_
                              refine lv_icmp_gt (tgt := 116) F.1 F.2.1 dX6_buildHouses_35 (by decide) (fun hc => ?_) (fun hc => ?_)
                              · exact absurd hc (by decide)
                              · refine lv_aload_n F.1 F.2.1 dX6_buildHouses_38 rfl (lv_at hl 4 rfl) ?_
                                refine x_getr F hP k_9 (hP.al 9 rfl) fl_X6_13 rfl r_9_0 dX6_buildHouses_39 ?_
                                refine lv_iload_n F.1 F.2.1 dX6_buildHouses_42 rfl (lv_at hl 5 rfl) ?_
                                refine y_aald h F hP k_56 (by decide) (by decide) (n2 (hP.al 56 rfl)) ek_56 dX6_buildHouses_43 (fun q_43 hk_q_43 ha_q_43 h => ?_)
                                refine lv_astore (lv' := [(5, .ref (ad q_43)), (4, .int (28 : Int32)), (3, .int (4 : Int32)), (6, .int v_95_4), (0, .ref (ad 9)), (1, .int a1), (2, .ref (ad 2))]) F.1 F.2.1 dX6_buildHouses_44 hl (Nat.le_of_ble_eq_true rfl) rfl (fun ls hl => ?_)
                                refine lv_aload_n F.1 F.2.1 dX6_buildHouses_46 rfl (lv_at hl 6 rfl) ?_
                                refine lv_aload F.1 F.2.1 dX6_buildHouses_47 (lv_at hl 0 rfl) ?_
                                refine lv_iload F.1 F.2.1 dX6_buildHouses_49 (lv_at hl 1 rfl) ?_
                                refine y_iald h F hP hk_q_43 (n2 ha_q_43) dX6_buildHouses_51 (fun v_51 h => ?_)
                                refine lv_aload F.1 F.2.1 dX6_buildHouses_52 (lv_at hl 0 rfl) ?_
                                refine lv_iload F.1 F.2.1 dX6_buildHouses_54 (lv_at hl 1 rfl) ?_
                                refine lv_iconst (v := 1) F.1 F.2.1 dX6_buildHouses_56 ic_1 ?_
                                refine lv_iadd F.1 F.2.1 dX6_buildHouses_57 ?_
                                refine y_eqi (v := 29) (by decide) ?_
                                refine y_iald h F hP hk_q_43 (n2 ha_q_43) dX6_buildHouses_58 (fun v_58 h => ?_)
                                refine lv_aload F.1 F.2.1 dX6_buildHouses_59 (lv_at hl 0 rfl) ?_
                                refine lv_iload F.1 F.2.1 dX6_buildHouses_61 (lv_at hl 1 rfl) ?_
                                refine lv_iconst (v := 2) F.1 F.2.1 dX6_buildHouses_63 ic_2 ?_
                                refine lv_iadd F.1 F.2.1 dX6_buildHouses_64 ?_
                                refine y_eqi (v := 30) (by decide) ?_
                                refine y_iald h F hP hk_q_43 (n2 ha_q_43) dX6_buildHouses_65 (fun v_65 h => ?_)
                                refine lv_aload F.1 F.2.1 dX6_buildHouses_66 (lv_at hl 0 rfl) ?_
                                refine lv_iload F.1 F.2.1 dX6_buildHouses_68 (lv_at hl 1 rfl) ?_
                                refine lv_iconst (v := 3) F.1 F.2.1 dX6_buildHouses_70 ic_3 ?_
                                refine lv_iadd F.1 F.2.1 dX6_buildHouses_71 ?_
                                refine y_eqi (v := 31) (by decide) ?_
                                refine y_iald h F hP hk_q_43 (n2 ha_q_43) dX6_buildHouses_72 (fun v_72 h => ?_)
                                refine lv_aload F.1 F.2.1 dX6_buildHouses_73 (lv_at hl 0 rfl) ?_
                                refine lv_iload F.1 F.2.1 dX6_buildHouses_75 (lv_at hl 1 rfl) ?_
                                refine lv_iconst (v := 4) F.1 F.2.1 dX6_buildHouses_77 ic_4 ?_
                                refine lv_iadd F.1 F.2.1 dX6_buildHouses_78 ?_
                                refine y_eqi (v := 32) (by decide) ?_
                                refine y_iald h F hP hk_q_43 (n2 ha_q_43) dX6_buildHouses_79 (fun v_79 h => ?_)
                                refine lv_aload F.1 F.2.1 dX6_buildHouses_80 (lv_at hl 0 rfl) ?_
                                refine lv_iload F.1 F.2.1 dX6_buildHouses_82 (lv_at hl 1 rfl) ?_
                                refine lv_iconst (v := 5) F.1 F.2.1 dX6_buildHouses_84 ic_5 ?_
                                refine lv_iadd F.1 F.2.1 dX6_buildHouses_85 ?_
                                refine y_eqi (v := 33) (by decide) ?_
                                refine y_iald h F hP hk_q_43 (n2 ha_q_43) dX6_buildHouses_86 (fun v_86 h => ?_)
                                refine lv_aload F.1 F.2.1 dX6_buildHouses_87 (lv_at hl 0 rfl) ?_
                                refine lv_iload F.1 F.2.1 dX6_buildHouses_89 (lv_at hl 1 rfl) ?_
                                refine lv_bipush (v := 6) F.1 F.2.1 dX6_buildHouses_91 ib_6 ?_
                                refine lv_iadd F.1 F.2.1 dX6_buildHouses_93 ?_
                                refine y_eqi (v := 34) (by decide) ?_
                                refine y_iald h F hP hk_q_43 (n2 ha_q_43) dX6_buildHouses_94 (fun v_94 h => ?_)
                                obtain ⟨v_95_5, w_95_5, hc_95_5, h⟩ := bi_s h
                                refine x_goesA (x_runV (As := [.int v_51, .int v_58, .int v_65, .int v_72, .int v_79, .int v_86, .int v_94]) (rest := []) F hP hS (c_X8_addHouse l D cT lo w_95_4 ad v_51 v_58 v_65 v_72 v_79 v_86 v_94 v_95_5 w_95_5 hc_95_5) cw_X8_addHouse lk_X6_69 vi_X8_addHouse k_2 (n2 (hP.al 2 rfl)) rfl ⟨rfl, rfl, Nat.le_of_ble_eq_true rfl, Nat.le_of_ble_eq_true rfl⟩ hl.1 rfl (Nat.le_of_ble_eq_true rfl) dX6_buildHouses_95 ⟨Nat.le_of_ble_eq_true rfl, Nat.le_of_ble_eq_true rfl⟩) hS (fun ad H locs hx hP' hS hm => ?_)
                                have e9 := hx 9 (n2 (hP.al 9 rfl))
                                try rw [← e9] at hl
                                try rw [← e9]
                                have e9 := hx 2 (n2 (hP.al 2 rfl))
                                try rw [← e9] at hl
                                try rw [← e9]
                                have e9 := hx q_43 (n2 ha_q_43)
                                try rw [← e9] at hl
                                try rw [← e9]
                                have hP := hP'
                                have hXA : ∀ k, wA w k ≠ 0 → ad k = ad0 k := fun k hk => (hx k (hM_w.1 k hk)).trans (hXA k hk)
                                have hM_w := hM_w.trans hm
                                have ha_q_43 := hm.2 _ ha_q_43
                                refine lv_istore (lv' := [(6, .int v_95_5), (5, .ref (ad q_43)), (4, .int (28 : Int32)), (3, .int (4 : Int32)), (0, .ref (ad 9)), (1, .int a1), (2, .ref (ad 2))]) F.1 F.2.1 dX6_buildHouses_98 hl (Nat.le_of_ble_eq_true rfl) rfl (fun ls hl => ?_)
                                refine lv_iload F.1 F.2.1 dX6_buildHouses_100 (lv_at hl 0 rfl) ?_
                                refine lv_if_ge (tgt := 107) F.1 F.2.1 dX6_buildHouses_102 (by decide) (fun hc => ?_) (fun hc => ?_)
                                · have h := if_t _ hc h
                                  refine lv_iinc (v := 5) (lv' := [(3, .int (5 : Int32)), (6, .int v_95_5), (5, .ref (ad q_43)), (4, .int (28 : Int32)), (0, .ref (ad 9)), (1, .int a1), (2, .ref (ad 2))]) F.1 F.2.1 dX6_buildHouses_107 hl (k := 3) rfl (by decide) (Nat.le_of_ble_eq_true rfl) rfl (fun ls hl => ?_)
                                  refine lv_iinc (v := 35) (lv' := [(4, .int (35 : Int32)), (3, .int (5 : Int32)), (6, .int v_95_5), (5, .ref (ad q_43)), (0, .ref (ad 9)), (1, .int a1), (2, .ref (ad 2))]) F.1 F.2.1 dX6_buildHouses_110 hl (k := 3) rfl (by decide) (Nat.le_of_ble_eq_true rfl) rfl (fun ls hl => ?_)
                                  refine lv_goto (tgt := 14) F.1 F.2.1 dX6_buildHouses_113 (by decide) ?_
                                  refine lv_iload F.1 F.2.1 dX6_buildHouses_14 (lv_at hl 0 rfl) ?_
                                  refine lv_bipush (v := 7) F.1 F.2.1 dX6_buildHouses_16 ib_7 ?_
                                  refine lv_iadd F.1 F.2.1 dX6_buildHouses_18 ?_
                                  refine y_eqi (v := 42) (by decide) ?_
                                  refine lv_aload_n F.1 F.2.1 dX6_buildHouses_19 rfl (lv_at hl 4 rfl) ?_
                                  refine x_getr F hP k_9 (hP.al 9 rfl) fl_X6_20 rfl r_9_2 dX6_buildHouses_20 ?_
                                  refine lv_iload_n F.1 F.2.1 dX6_buildHouses_23 rfl (lv_at hl 5 rfl) ?_
                                  refine y_iald h F hP k_62 (n2 (hP.al 62 rfl)) dX6_buildHouses_24 (fun v_24 h => ?_)
                                  refine lv_icmp_gt (tgt := 116) F.1 F.2.1 dX6_buildHouses_25 (by decide) (fun hc => ?_) (fun hc => ?_)
                                  · have h := if_t _ hc h
                                    refine lv_iload_n F.1 F.2.1 dX6_buildHouses_116 rfl (lv_at hl 1 rfl) ?_
                                    refine W.widen (k := 8) (n := 32) (Nat.le_of_ble_eq_true rfl) (Nat.le_of_ble_eq_true rfl) ?_
                                    exact y_iretA h F hXA hr hP hS hM_w hlk dX6_buildHouses_117
                                  · have h := if_f _ hc h
                                    refine lv_iload F.1 F.2.1 dX6_buildHouses_28 (lv_at hl 0 rfl) ?_
                                    refine lv_bipush (v := 7) F.1 F.2.1 dX6_buildHouses_30 ib_7 ?_
                                    refine lv_iadd F.1 F.2.1 dX6_buildHouses_32 ?_
                                    refine y_eqi (v := 42) (by decide) ?_
                                    refine lv_bipush (v := 60) F.1 F.2.1 dX6_buildHouses_33 ib_60 ?_
                                    refine lv_icmp_gt (tgt := 116) F.1 F.2.1 dX6_buildHouses_35 (by decide) (fun hc => ?_) (fun hc => ?_)
                                    · exact absurd hc (by decide)
                                    · refine lv_aload_n F.1 F.2.1 dX6_buildHouses_38 rfl (lv_at hl 4 rfl) ?_
                                      refine x_getr F hP k_9 (hP.al 9 rfl) fl_X6_13 rfl r_9_0 dX6_buildHouses_39 ?_
                                      refine lv_iload_n F.1 F.2.1 dX6_buildHouses_42 rfl (lv_at hl 5 rfl) ?_
                                      refine y_aald h F hP k_56 (by decide) (by decide) (n2 (hP.al 56 rfl)) ek_56 dX6_buildHouses_43 (fun q_43 hk_q_43 ha_q_43 h => ?_)
                                      refine lv_astore (lv' := [(5, .ref (ad q_43)), (4, .int (35 : Int32)), (3, .int (5 : Int32)), (6, .int v_95_5), (0, .ref (ad 9)), (1, .int a1), (2, .ref (ad 2))]) F.1 F.2.1 dX6_buildHouses_44 hl (Nat.le_of_ble_eq_true rfl) rfl (fun ls hl => ?_)
                                      refine lv_aload_n F.1 F.2.1 dX6_buildHouses_46 rfl (lv_at hl 6 rfl) ?_
                                      refine lv_aload F.1 F.2.1 dX6_buildHouses_47 (lv_at hl 0 rfl) ?_
                                      refine lv_iload F.1 F.2.1 dX6_buildHouses_49 (lv_at hl 1 rfl) ?_
                                      refine y_iald h F hP hk_q_43 (n2 ha_q_43) dX6_buildHouses_51 (fun v_51 h => ?_)
                                      refine lv_aload F.1 F.2.1 dX6_buildHouses_52 (lv_at hl 0 rfl) ?_
                                      refine lv_iload F.1 F.2.1 dX6_buildHouses_54 (lv_at hl 1 rfl) ?_
                                      refine lv_iconst (v := 1) F.1 F.2.1 dX6_buildHouses_56 ic_1 ?_
                                      refine lv_iadd F.1 F.2.1 dX6_buildHouses_57 ?_
                                      refine y_eqi (v := 36) (by decide) ?_
                                      refine y_iald h F hP hk_q_43 (n2 ha_q_43) dX6_buildHouses_58 (fun v_58 h => ?_)
                                      refine lv_aload F.1 F.2.1 dX6_buildHouses_59 (lv_at hl 0 rfl) ?_
                                      refine lv_iload F.1 F.2.1 dX6_buildHouses_61 (lv_at hl 1 rfl) ?_
                                      refine lv_iconst (v := 2) F.1 F.2.1 dX6_buildHouses_63 ic_2 ?_
                                      refine lv_iadd F.1 F.2.1 dX6_buildHouses_64 ?_
                                      refine y_eqi (v := 37) (by decide) ?_
                                      refine y_iald h F hP hk_q_43 (n2 ha_q_43) dX6_buildHouses_65 (fun v_65 h => ?_)
                                      refine lv_aload F.1 F.2.1 dX6_buildHouses_66 (lv_at hl 0 rfl) ?_
                                      refine lv_iload F.1 F.2.1 dX6_buildHouses_68 (lv_at hl 1 rfl) ?_
                                      refine lv_iconst (v := 3) F.1 F.2.1 dX6_buildHouses_70 ic_3 ?_
                                      refine lv_iadd F.1 F.2.1 dX6_buildHouses_71 ?_
                                      refine y_eqi (v := 38) (by decide) ?_
                                      refine y_iald h F hP hk_q_43 (n2 ha_q_43) dX6_buildHouses_72 (fun v_72 h => ?_)
                                      refine lv_aload F.1 F.2.1 dX6_buildHouses_73 (lv_at hl 0 rfl) ?_
                                      refine lv_iload F.1 F.2.1 dX6_buildHouses_75 (lv_at hl 1 rfl) ?_
                                      refine lv_iconst (v := 4) F.1 F.2.1 dX6_buildHouses_77 ic_4 ?_
                                      refine lv_iadd F.1 F.2.1 dX6_buildHouses_78 ?_
                                      refine y_eqi (v := 39) (by decide) ?_
                                      refine y_iald h F hP hk_q_43 (n2 ha_q_43) dX6_buildHouses_79 (fun v_79 h => ?_)
                                      refine lv_aload F.1 F.2.1 dX6_buildHouses_80 (lv_at hl 0 rfl) ?_
                                      refine lv_iload F.1 F.2.1 dX6_buildHouses_82 (lv_at hl 1 rfl) ?_
                                      refine lv_iconst (v := 5) F.1 F.2.1 dX6_buildHouses_84 ic_5 ?_
                                      refine lv_iadd F.1 F.2.1 dX6_buildHouses_85 ?_
                                      refine y_eqi (v := 40) (by decide) ?_
                                      refine y_iald h F hP hk_q_43 (n2 ha_q_43) dX6_buildHouses_86 (fun v_86 h => ?_)
                                      refine lv_aload F.1 F.2.1 dX6_buildHouses_87 (lv_at hl 0 rfl) ?_
                                      refine lv_iload F.1 F.2.1 dX6_buildHouses_89 (lv_at hl 1 rfl) ?_
                                      refine lv_bipush (v := 6) F.1 F.2.1 dX6_buildHouses_91 ib_6 ?_
                                      refine lv_iadd F.1 F.2.1 dX6_buildHouses_93 ?_
                                      refine y_eqi (v := 41) (by decide) ?_
                                      refine y_iald h F hP hk_q_43 (n2 ha_q_43) dX6_buildHouses_94 (fun v_94 h => ?_)
                                      obtain ⟨v_95_6, w_95_6, hc_95_6, h⟩ := bi_s h
                                      refine x_goesA (x_runV (As := [.int v_51, .int v_58, .int v_65, .int v_72, .int v_79, .int v_86, .int v_94]) (rest := []) F hP hS (c_X8_addHouse l D cT lo w_95_5 ad v_51 v_58 v_65 v_72 v_79 v_86 v_94 v_95_6 w_95_6 hc_95_6) cw_X8_addHouse lk_X6_69 vi_X8_addHouse k_2 (n2 (hP.al 2 rfl)) rfl ⟨rfl, rfl, Nat.le_of_ble_eq_true rfl, Nat.le_of_ble_eq_true rfl⟩ hl.1 rfl (Nat.le_of_ble_eq_true rfl) dX6_buildHouses_95 ⟨Nat.le_of_ble_eq_true rfl, Nat.le_of_ble_eq_true rfl⟩) hS (fun ad H locs hx hP' hS hm => ?_)
                                      have e9 := hx 9 (n2 (hP.al 9 rfl))
                                      try rw [← e9] at hl
                                      try rw [← e9]
                                      have e9 := hx 2 (n2 (hP.al 2 rfl))
                                      try rw [← e9] at hl
                                      try rw [← e9]
                                      have e9 := hx q_43 (n2 ha_q_43)
                                      try rw [← e9] at hl
                                      try rw [← e9]
                                      have hP := hP'
                                      have hXA : ∀ k, wA w k ≠ 0 → ad k = ad0 k := fun k hk => (hx k (hM_w.1 k hk)).trans (hXA k hk)
                                      have hM_w := hM_w.trans hm
                                      have ha_q_43 := hm.2 _ ha_q_43
                                      refine lv_istore (lv' := [(6, .int v_95_6), (5, .ref (ad q_43)), (4, .int (35 : Int32)), (3, .int (5 : Int32)), (0, .ref (ad 9)), (1, .int a1), (2, .ref (ad 2))]) F.1 F.2.1 dX6_buildHouses_98 hl (Nat.le_of_ble_eq_true rfl) rfl (fun ls hl => ?_)
                                      refine lv_iload F.1 F.2.1 dX6_buildHouses_100 (lv_at hl 0 rfl) ?_
                                      refine lv_if_ge (tgt := 107) F.1 F.2.1 dX6_buildHouses_102 (by decide) (fun hc => ?_) (fun hc => ?_)
                                      · have h := if_t _ hc h
                                        refine lv_iinc (v := 6) (lv' := [(3, .int (6 : Int32)), (6, .int v_95_6), (5, .ref (ad q_43)), (4, .int (35 : Int32)), (0, .ref (ad 9)), (1, .int a1), (2, .ref (ad 2))]) F.1 F.2.1 dX6_buildHouses_107 hl (k := 3) rfl (by decide) (Nat.le_of_ble_eq_true rfl) rfl (fun ls hl => ?_)
                                        refine lv_iinc (v := 42) (lv' := [(4, .int (42 : Int32)), (3, .int (6 : Int32)), (6, .int v_95_6), (5, .ref (ad q_43)), (0, .ref (ad 9)), (1, .int a1), (2, .ref (ad 2))]) F.1 F.2.1 dX6_buildHouses_110 hl (k := 3) rfl (by decide) (Nat.le_of_ble_eq_true rfl) rfl (fun ls hl => ?_)
                                        refine lv_goto (tgt := 14) F.1 F.2.1 dX6_buildHouses_113 (by decide) ?_
                                        refine lv_iload F.1 F.2.1 dX6_buildHouses_14 (lv_at hl 0 rfl) ?_
                                        refine lv_bipush (v := 7) F.1 F.2.1 dX6_buildHouses_16 ib_7 ?_
                                        refine lv_iadd F.1 F.2.1 dX6_buildHouses_18 ?_
                                        refine y_eqi (v := 49) (by decide) ?_
                                        refine lv_aload_n F.1 F.2.1 dX6_buildHouses_19 rfl (lv_at hl 4 rfl) ?_
                                        refine x_getr F hP k_9 (hP.al 9 rfl) fl_X6_20 rfl r_9_2 dX6_buildHouses_20 ?_
                                        refine lv_iload_n F.1 F.2.1 dX6_buildHouses_23 rfl (lv_at hl 5 rfl) ?_
                                        refine y_iald h F hP k_62 (n2 (hP.al 62 rfl)) dX6_buildHouses_24 (fun v_24 h => ?_)
                                        refine lv_icmp_gt (tgt := 116) F.1 F.2.1 dX6_buildHouses_25 (by decide) (fun hc => ?_) (fun hc => ?_)
                                        · have h := if_t _ hc h
                                          refine lv_iload_n F.1 F.2.1 dX6_buildHouses_116 rfl (lv_at hl 1 rfl) ?_
                                          refine W.widen (k := 8) (n := 32) (Nat.le_of_ble_eq_true rfl) (Nat.le_of_ble_eq_true rfl) ?_
                                          exact y_iretA h F hXA hr hP hS hM_w hlk dX6_buildHouses_117
                                        · have h := if_f _ hc h
                                          refine lv_iload F.1 F.2.1 dX6_buildHouses_28 (lv_at hl 0 rfl) ?_
                                          refine lv_bipush (v := 7) F.1 F.2.1 dX6_buildHouses_30 ib_7 ?_
                                          refine lv_iadd F.1 F.2.1 dX6_buildHouses_32 ?_
                                          refine y_eqi (v := 49) (by decide) ?_
                                          refine lv_bipush (v := 60) F.1 F.2.1 dX6_buildHouses_33 ib_60 ?_
                                          refine lv_icmp_gt (tgt := 116) F.1 F.2.1 dX6_buildHouses_35 (by decide) (fun hc => ?_) (fun hc => ?_)
                                          · exact absurd hc (by decide)
                                          · refine lv_aload_n F.1 F.2.1 dX6_buildHouses_38 rfl (lv_at hl 4 rfl) ?_
                                            refine x_getr F hP k_9 (hP.al 9 rfl) fl_X6_13 rfl r_9_0 dX6_buildHouses_39 ?_
                                            refine lv_iload_n F.1 F.2.1 dX6_buildHouses_42 rfl (lv_at hl 5 rfl) ?_
                                            refine y_aald h F hP k_56 (by decide) (by decide) (n2 (hP.al 56 rfl)) ek_56 dX6_buildHouses_43 (fun q_43 hk_q_43 ha_q_43 h => ?_)
                                            refine lv_astore (lv' := [(5, .ref (ad q_43)), (4, .int (42 : Int32)), (3, .int (6 : Int32)), (6, .int v_95_6), (0, .ref (ad 9)), (1, .int a1), (2, .ref (ad 2))]) F.1 F.2.1 dX6_buildHouses_44 hl (Nat.le_of_ble_eq_true rfl) rfl (fun ls hl => ?_)
                                            refine lv_aload_n F.1 F.2.1 dX6_buildHouses_46 rfl (lv_at hl 6 rfl) ?_
                                            refine lv_aload F.1 F.2.1 dX6_buildHouses_47 (lv_at hl 0 rfl) ?_
                                            refine lv_iload F.1 F.2.1 dX6_buildHouses_49 (lv_at hl 1 rfl) ?_
                                            refine y_iald h F hP hk_q_43 (n2 ha_q_43) dX6_buildHouses_51 (fun v_51 h => ?_)
                                            refine lv_aload F.1 F.2.1 dX6_buildHouses_52 (lv_at hl 0 rfl) ?_
                                            refine lv_iload F.1 F.2.1 dX6_buildHouses_54 (lv_at hl 1 rfl) ?_
                                            refine lv_iconst (v := 1) F.1 F.2.1 dX6_buildHouses_56 ic_1 ?_
                                            refine lv_iadd F.1 F.2.1 dX6_buildHouses_57 ?_
                                            refine y_eqi (v := 43) (by decide) ?_
                                            refine y_iald h F hP hk_q_43 (n2 ha_q_43) dX6_buildHouses_58 (fun v_58 h => ?_)
                                            refine lv_aload F.1 F.2.1 dX6_buildHouses_59 (lv_at hl 0 rfl) ?_
                                            refine lv_iload F.1 F.2.1 dX6_buildHouses_61 (lv_at hl 1 rfl) ?_
                                            refine lv_iconst (v := 2) F.1 F.2.1 dX6_buildHouses_63 ic_2 ?_
                                            refine lv_iadd F.1 F.2.1 dX6_buildHouses_64 ?_
                                            refine y_eqi (v := 44) (by decide) ?_
                                            refine y_iald h F hP hk_q_43 (n2 ha_q_43) dX6_buildHouses_65 (fun v_65 h => ?_)
                                            refine lv_aload F.1 F.2.1 dX6_buildHouses_66 (lv_at hl 0 rfl) ?_
                                            refine lv_iload F.1 F.2.1 dX6_buildHouses_68 (lv_at hl 1 rfl) ?_
                                            refine lv_iconst (v := 3) F.1 F.2.1 dX6_buildHouses_70 ic_3 ?_
                                            refine lv_iadd F.1 F.2.1 dX6_buildHouses_71 ?_
                                            refine y_eqi (v := 45) (by decide) ?_
                                            refine y_iald h F hP hk_q_43 (n2 ha_q_43) dX6_buildHouses_72 (fun v_72 h => ?_)
                                            refine lv_aload F.1 F.2.1 dX6_buildHouses_73 (lv_at hl 0 rfl) ?_
                                            refine lv_iload F.1 F.2.1 dX6_buildHouses_75 (lv_at hl 1 rfl) ?_
                                            refine lv_iconst (v := 4) F.1 F.2.1 dX6_buildHouses_77 ic_4 ?_
                                            refine lv_iadd F.1 F.2.1 dX6_buildHouses_78 ?_
                                            refine y_eqi (v := 46) (by decide) ?_
                                            refine y_iald h F hP hk_q_43 (n2 ha_q_43) dX6_buildHouses_79 (fun v_79 h => ?_)
                                            refine lv_aload F.1 F.2.1 dX6_buildHouses_80 (lv_at hl 0 rfl) ?_
                                            refine lv_iload F.1 F.2.1 dX6_buildHouses_82 (lv_at hl 1 rfl) ?_
                                            refine lv_iconst (v := 5) F.1 F.2.1 dX6_buildHouses_84 ic_5 ?_
                                            refine lv_iadd F.1 F.2.1 dX6_buildHouses_85 ?_
                                            refine y_eqi (v := 47) (by decide) ?_
                                            refine y_iald h F hP hk_q_43 (n2 ha_q_43) dX6_buildHouses_86 (fun v_86 h => ?_)
                                            refine lv_aload F.1 F.2.1 dX6_buildHouses_87 (lv_at hl 0 rfl) ?_
                                            refine lv_iload F.1 F.2.1 dX6_buildHouses_89 (lv_at hl 1 rfl) ?_
                                            refine lv_bipush (v := 6) F.1 F.2.1 dX6_buildHouses_91 ib_6 ?_
                                            refine lv_iadd F.1 F.2.1 dX6_buildHouses_93 ?_
                                            refine y_eqi (v := 48) (by decide) ?_
                                            refine y_iald h F hP hk_q_43 (n2 ha_q_43) dX6_buildHouses_94 (fun v_94 h => ?_)
                                            obtain ⟨v_95_7, w_95_7, hc_95_7, h⟩ := bi_s h
                                            refine x_goesA (x_runV (As := [.int v_51, .int v_58, .int v_65, .int v_72, .int v_79, .int v_86, .int v_94]) (rest := []) F hP hS (c_X8_addHouse l D cT lo w_95_6 ad v_51 v_58 v_65 v_72 v_79 v_86 v_94 v_95_7 w_95_7 hc_95_7) cw_X8_addHouse lk_X6_69 vi_X8_addHouse k_2 (n2 (hP.al 2 rfl)) rfl ⟨rfl, rfl, Nat.le_of_ble_eq_true rfl, Nat.le_of_ble_eq_true rfl⟩ hl.1 rfl (Nat.le_of_ble_eq_true rfl) dX6_buildHouses_95 ⟨Nat.le_of_ble_eq_true rfl, Nat.le_of_ble_eq_true rfl⟩) hS (fun ad H locs hx hP' hS hm => ?_)
                                            have e9 := hx 9 (n2 (hP.al 9 rfl))
                                            try rw [← e9] at hl
                                            try rw [← e9]
                                            have e9 := hx 2 (n2 (hP.al 2 rfl))
                                            try rw [← e9] at hl
                                            try rw [← e9]
                                            have e9 := hx q_43 (n2 ha_q_43)
                                            try rw [← e9] at hl
                                            try rw [← e9]
                                            have hP := hP'
                                            have hXA : ∀ k, wA w k ≠ 0 → ad k = ad0 k := fun k hk => (hx k (hM_w.1 k hk)).trans (hXA k hk)
                                            have hM_w := hM_w.trans hm
                                            have ha_q_43 := hm.2 _ ha_q_43
                                            refine lv_istore (lv' := [(6, .int v_95_7), (5, .ref (ad q_43)), (4, .int (42 : Int32)), (3, .int (6 : Int32)), (0, .ref (ad 9)), (1, .int a1), (2, .ref (ad 2))]) F.1 F.2.1 dX6_buildHouses_98 hl (Nat.le_of_ble_eq_true rfl) rfl (fun ls hl => ?_)
                                            refine lv_iload F.1 F.2.1 dX6_buildHouses_100 (lv_at hl 0 rfl) ?_
                                            refine lv_if_ge (tgt := 107) F.1 F.2.1 dX6_buildHouses_102 (by decide) (fun hc => ?_) (fun hc => ?_)
                                            · have h := if_t _ hc h
                                              refine lv_iinc (v := 7) (lv' := [(3, .int (7 : Int32)), (6, .int v_95_7), (5, .ref (ad q_43)), (4, .int (42 : Int32)), (0, .ref (ad 9)), (1, .int a1), (2, .ref (ad 2))]) F.1 F.2.1 dX6_buildHouses_107 hl (k := 3) rfl (by decide) (Nat.le_of_ble_eq_true rfl) rfl (fun ls hl => ?_)
                                              refine lv_iinc (v := 49) (lv' := [(4, .int (49 : Int32)), (3, .int (7 : Int32)), (6, .int v_95_7), (5, .ref (ad q_43)), (0, .ref (ad 9)), (1, .int a1), (2, .ref (ad 2))]) F.1 F.2.1 dX6_buildHouses_110 hl (k := 3) rfl (by decide) (Nat.le_of_ble_eq_true rfl) rfl (fun ls hl => ?_)
                                              refine lv_goto (tgt := 14) F.1 F.2.1 dX6_buildHouses_113 (by decide) ?_
                                              refine lv_iload F.1 F.2.1 dX6_buildHouses_14 (lv_at hl 0 rfl) ?_
                                              refine lv_bipush (v := 7) F.1 F.2.1 dX6_buildHouses_16 ib_7 ?_
                                              refine lv_iadd F.1 F.2.1 dX6_buildHouses_18 ?_
                                              refine y_eqi (v := 56) (by decide) ?_
                                              refine lv_aload_n F.1 F.2.1 dX6_buildHouses_19 rfl (lv_at hl 4 rfl) ?_
                                              refine x_getr F hP k_9 (hP.al 9 rfl) fl_X6_20 rfl r_9_2 dX6_buildHouses_20 ?_
                                              refine lv_iload_n F.1 F.2.1 dX6_buildHouses_23 rfl (lv_at hl 5 rfl) ?_
                                              refine y_iald h F hP k_62 (n2 (hP.al 62 rfl)) dX6_buildHouses_24 (fun v_24 h => ?_)
                                              refine lv_icmp_gt (tgt := 116) F.1 F.2.1 dX6_buildHouses_25 (by decide) (fun hc => ?_) (fun hc => ?_)
                                              · have h := if_t _ hc h
                                                refine lv_iload_n F.1 F.2.1 dX6_buildHouses_116 rfl (lv_at hl 1 rfl) ?_
                                                refine W.widen (k := 8) (n := 32) (Nat.le_of_ble_eq_true rfl) (Nat.le_of_ble_eq_true rfl) ?_
                                                exact y_iretA h F hXA hr hP hS hM_w hlk dX6_buildHouses_117
                                              · have h := if_f _ hc h
                                                refine lv_iload F.1 F.2.1 dX6_buildHouses_28 (lv_at hl 0 rfl) ?_
                                                refine lv_bipush (v := 7) F.1 F.2.1 dX6_buildHouses_30 ib_7 ?_
                                                refine lv_iadd F.1 F.2.1 dX6_buildHouses_32 ?_
                                                refine y_eqi (v := 56) (by decide) ?_
                                                refine lv_bipush (v := 60) F.1 F.2.1 dX6_buildHouses_33 ib_60 ?_
                                                refine lv_icmp_gt (tgt := 116) F.1 F.2.1 dX6_buildHouses_35 (by decide) (fun hc => ?_) (fun hc => ?_)
                                                · exact absurd hc (by decide)
                                                · refine lv_aload_n F.1 F.2.1 dX6_buildHouses_38 rfl (lv_at hl 4 rfl) ?_
                                                  refine x_getr F hP k_9 (hP.al 9 rfl) fl_X6_13 rfl r_9_0 dX6_buildHouses_39 ?_
                                                  refine lv_iload_n F.1 F.2.1 dX6_buildHouses_42 rfl (lv_at hl 5 rfl) ?_
                                                  refine y_aald h F hP k_56 (by decide) (by decide) (n2 (hP.al 56 rfl)) ek_56 dX6_buildHouses_43 (fun q_43 hk_q_43 ha_q_43 h => ?_)
                                                  refine lv_astore (lv' := [(5, .ref (ad q_43)), (4, .int (49 : Int32)), (3, .int (7 : Int32)), (6, .int v_95_7), (0, .ref (ad 9)), (1, .int a1), (2, .ref (ad 2))]) F.1 F.2.1 dX6_buildHouses_44 hl (Nat.le_of_ble_eq_true rfl) rfl (fun ls hl => ?_)
                                                  refine lv_aload_n F.1 F.2.1 dX6_buildHouses_46 rfl (lv_at hl 6 rfl) ?_
                                                  refine lv_aload F.1 F.2.1 dX6_buildHouses_47 (lv_at hl 0 rfl) ?_
                                                  refine lv_iload F.1 F.2.1 dX6_buildHouses_49 (lv_at hl 1 rfl) ?_
                                                  refine y_iald h F hP hk_q_43 (n2 ha_q_43) dX6_buildHouses_51 (fun v_51 h => ?_)
                                                  refine lv_aload F.1 F.2.1 dX6_buildHouses_52 (lv_at hl 0 rfl) ?_
                                                  refine lv_iload F.1 F.2.1 dX6_buildHouses_54 (lv_at hl 1 rfl) ?_
                                                  refine lv_iconst (v := 1) F.1 F.2.1 dX6_buildHouses_56 ic_1 ?_
                                                  refine lv_iadd F.1 F.2.1 dX6_buildHouses_57 ?_
                                                  refine y_eqi (v := 50) (by decide) ?_
                                                  refine y_iald h F hP hk_q_43 (n2 ha_q_43) dX6_buildHouses_58 (fun v_58 h => ?_)
                                                  refine lv_aload F.1 F.2.1 dX6_buildHouses_59 (lv_at hl 0 rfl) ?_
                                                  refine lv_iload F.1 F.2.1 dX6_buildHouses_61 (lv_at hl 1 rfl) ?_
                                                  refine lv_iconst (v := 2) F.1 F.2.1 dX6_buildHouses_63 ic_2 ?_
                                                  refine lv_iadd F.1 F.2.1 dX6_buildHouses_64 ?_
                                                  refine y_eqi (v := 51) (by decide) ?_
                                                  refine y_iald h F hP hk_q_43 (n2 ha_q_43) dX6_buildHouses_65 (fun v_65 h => ?_)
                                                  refine lv_aload F.1 F.2.1 dX6_buildHouses_66 (lv_at hl 0 rfl) ?_
                                                  refine lv_iload F.1 F.2.1 dX6_buildHouses_68 (lv_at hl 1 rfl) ?_
                                                  refine lv_iconst (v := 3) F.1 F.2.1 dX6_buildHouses_70 ic_3 ?_
                                                  refine lv_iadd F.1 F.2.1 dX6_buildHouses_71 ?_
                                                  refine y_eqi (v := 52) (by decide) ?_
                                                  refine y_iald h F hP hk_q_43 (n2 ha_q_43) dX6_buildHouses_72 (fun v_72 h => ?_)
                                                  refine lv_aload F.1 F.2.1 dX6_buildHouses_73 (lv_at hl 0 rfl) ?_
                                                  refine lv_iload F.1 F.2.1 dX6_buildHouses_75 (lv_at hl 1 rfl) ?_
                                                  refine lv_iconst (v := 4) F.1 F.2.1 dX6_buildHouses_77 ic_4 ?_
                                                  refine lv_iadd F.1 F.2.1 dX6_buildHouses_78 ?_
                                                  refine y_eqi (v := 53) (by decide) ?_
                                                  refine y_iald h F hP hk_q_43 (n2 ha_q_43) dX6_buildHouses_79 (fun v_79 h => ?_)
                                                  refine lv_aload F.1 F.2.1 dX6_buildHouses_80 (lv_at hl 0 rfl) ?_
                                                  refine lv_iload F.1 F.2.1 dX6_buildHouses_82 (lv_at hl 1 rfl) ?_
                                                  refine lv_iconst (v := 5) F.1 F.2.1 dX6_buildHouses_84 ic_5 ?_
                                                  refine lv_iadd F.1 F.2.1 dX6_buildHouses_85 ?_
                                                  refine y_eqi (v := 54) (by decide) ?_
                                                  refine y_iald h F hP hk_q_43 (n2 ha_q_43) dX6_buildHouses_86 (fun v_86 h => ?_)
                                                  refine lv_aload F.1 F.2.1 dX6_buildHouses_87 (lv_at hl 0 rfl) ?_
                                                  refine lv_iload F.1 F.2.1 dX6_buildHouses_89 (lv_at hl 1 rfl) ?_
                                                  refine lv_bipush (v := 6) F.1 F.2.1 dX6_buildHouses_91 ib_6 ?_
                                                  refine lv_iadd F.1 F.2.1 dX6_buildHouses_93 ?_
                                                  refine y_eqi (v := 55) (by decide) ?_
                                                  refine y_iald h F hP hk_q_43 (n2 ha_q_43) dX6_buildHouses_94 (fun v_94 h => ?_)
                                                  obtain ⟨v_95_8, w_95_8, hc_95_8, h⟩ := bi_s h
                                                  refine x_goesA (x_runV (As := [.int v_51, .int v_58, .int v_65, .int v_72, .int v_79, .int v_86, .int v_94]) (rest := []) F hP hS (c_X8_addHouse l D cT lo w_95_7 ad v_51 v_58 v_65 v_72 v_79 v_86 v_94 v_95_8 w_95_8 hc_95_8) cw_X8_addHouse lk_X6_69 vi_X8_addHouse k_2 (n2 (hP.al 2 rfl)) rfl ⟨rfl, rfl, Nat.le_of_ble_eq_true rfl, Nat.le_of_ble_eq_true rfl⟩ hl.1 rfl (Nat.le_of_ble_eq_true rfl) dX6_buildHouses_95 ⟨Nat.le_of_ble_eq_true rfl, Nat.le_of_ble_eq_true rfl⟩) hS (fun ad H locs hx hP' hS hm => ?_)
                                                  have e9 := hx 9 (n2 (hP.al 9 rfl))
                                                  try rw [← e9] at hl
                                                  try rw [← e9]
                                                  have e9 := hx 2 (n2 (hP.al 2 rfl))
                                                  try rw [← e9] at hl
                                                  try rw [← e9]
                                                  have e9 := hx q_43 (n2 ha_q_43)
                                                  try rw [← e9] at hl
                                                  try rw [← e9]
                                                  have hP := hP'
                                                  have hXA : ∀ k, wA w k ≠ 0 → ad k = ad0 k := fun k hk => (hx k (hM_w.1 k hk)).trans (hXA k hk)
                                                  have hM_w := hM_w.trans hm
                                                  have ha_q_43 := hm.2 _ ha_q_43
                                                  refine lv_istore (lv' := [(6, .int v_95_8), (5, .ref (ad q_43)), (4, .int (49 : Int32)), (3, .int (7 : Int32)), (0, .ref (ad 9)), (1, .int a1), (2, .ref (ad 2))]) F.1 F.2.1 dX6_buildHouses_98 hl (Nat.le_of_ble_eq_true rfl) rfl (fun ls hl => ?_)
                                                  refine lv_iload F.1 F.2.1 dX6_buildHouses_100 (lv_at hl 0 rfl) ?_
                                                  refine lv_if_ge (tgt := 107) F.1 F.2.1 dX6_buildHouses_102 (by decide) (fun hc => ?_) (fun hc => ?_)
                                                  · have h := if_t _ hc h
                                                    refine lv_iinc (v := 8) (lv' := [(3, .int (8 : Int32)), (6, .int v_95_8), (5, .ref (ad q_43)), (4, .int (49 : Int32)), (0, .ref (ad 9)), (1, .int a1), (2, .ref (ad 2))]) F.1 F.2.1 dX6_buildHouses_107 hl (k := 3) rfl (by decide) (Nat.le_of_ble_eq_true rfl) rfl (fun ls hl => ?_)
                                                    refine lv_iinc (v := 56) (lv' := [(4, .int (56 : Int32)), (3, .int (8 : Int32)), (6, .int v_95_8), (5, .ref (ad q_43)), (0, .ref (ad 9)), (1, .int a1), (2, .ref (ad 2))]) F.1 F.2.1 dX6_buildHouses_110 hl (k := 3) rfl (by decide) (Nat.le_of_ble_eq_true rfl) rfl (fun ls hl => ?_)
                                                    refine lv_goto (tgt := 14) F.1 F.2.1 dX6_buildHouses_113 (by decide) ?_
                                                    refine lv_iload F.1 F.2.1 dX6_buildHouses_14 (lv_at hl 0 rfl) ?_
                                                    refine lv_bipush (v := 7) F.1 F.2.1 dX6_buildHouses_16 ib_7 ?_
                                                    refine lv_iadd F.1 F.2.1 dX6_buildHouses_18 ?_
                                                    refine y_eqi (v := 63) (by decide) ?_
                                                    refine lv_aload_n F.1 F.2.1 dX6_buildHouses_19 rfl (lv_at hl 4 rfl) ?_
                                                    refine x_getr F hP k_9 (hP.al 9 rfl) fl_X6_20 rfl r_9_2 dX6_buildHouses_20 ?_
                                                    refine lv_iload_n F.1 F.2.1 dX6_buildHouses_23 rfl (lv_at hl 5 rfl) ?_
                                                    refine y_iald h F hP k_62 (n2 (hP.al 62 rfl)) dX6_buildHouses_24 (fun v_24 h => ?_)
                                                    refine lv_icmp_gt (tgt := 116) F.1 F.2.1 dX6_buildHouses_25 (by decide) (fun hc => ?_) (fun hc => ?_)
                                                    · have h := if_t _ hc h
                                                      refine lv_iload_n F.1 F.2.1 dX6_buildHouses_116 rfl (lv_at hl 1 rfl) ?_
                                                      refine W.widen (k := 8) (n := 32) (Nat.le_of_ble_eq_true rfl) (Nat.le_of_ble_eq_true rfl) ?_
                                                      exact y_iretA h F hXA hr hP hS hM_w hlk dX6_buildHouses_117
                                                    · have h := if_f _ hc h
                                                      refine lv_iload F.1 F.2.1 dX6_buildHouses_28 (lv_at hl 0 rfl) ?_
                                                      refine lv_bipush (v := 7) F.1 F.2.1 dX6_buildHouses_30 ib_7 ?_
                                                      refine lv_iadd F.1 F.2.1 dX6_buildHouses_32 ?_
                                                      refine y_eqi (v := 63) (by decide) ?_
                                                      refine lv_bipush (v := 60) F.1 F.2.1 dX6_buildHouses_33 ib_60 ?_
                                                      refine lv_icmp_gt (tgt := 116) F.1 F.2.1 dX6_buildHouses_35 (by decide) (fun hc => ?_) (fun hc => ?_)
                                                      · refine lv_iload_n F.1 F.2.1 dX6_buildHouses_116 rfl (lv_at hl 1 rfl) ?_
                                                        refine W.widen (k := 8) (n := 32) (Nat.le_of_ble_eq_true rfl) (Nat.le_of_ble_eq_true rfl) ?_
                                                        exact y_iretA h F hXA hr hP hS hM_w hlk dX6_buildHouses_117
                                                      · exact absurd hc (by decide)
                                                  · have h := if_f _ hc h
                                                    refine lv_iload_n F.1 F.2.1 dX6_buildHouses_105 rfl (lv_at hl 3 rfl) ?_
                                                    refine W.widen (k := 8) (n := 32) (Nat.le_of_ble_eq_true rfl) (Nat.le_of_ble_eq_true rfl) ?_
                                                    exact y_iretA h F hXA hr hP hS hM_w hlk dX6_buildHouses_106
                                            · have h := if_f _ hc h
                                              refine lv_iload_n F.1 F.2.1 dX6_buildHouses_105 rfl (lv_at hl 3 rfl) ?_
                                              refine W.widen (k := 8) (n := 32) (Nat.le_of_ble_eq_true rfl) (Nat.le_of_ble_eq_true rfl) ?_
                                              exact y_iretA h F hXA hr hP hS hM_w hlk dX6_buildHouses_106
                                      · have h := if_f _ hc h
                                        refine lv_iload_n F.1 F.2.1 dX6_buildHouses_105 rfl (lv_at hl 3 rfl) ?_
                                        refine W.widen (k := 8) (n := 32) (Nat.le_of_ble_eq_true rfl) (Nat.le_of_ble_eq_true rfl) ?_
                                        exact y_iretA h F hXA hr hP hS hM_w hlk dX6_buildHouses_106
                                · have h := if_f _ hc h
                                  refine lv_iload_n F.1 F.2.1 dX6_buildHouses_105 rfl (lv_at hl 3 rfl) ?_
                                  refine W.widen (k := 8) (n := 32) (Nat.le_of_ble_eq_true rfl) (Nat.le_of_ble_eq_true rfl) ?_
                                  exact y_iretA h F hXA hr hP hS hM_w hlk dX6_buildHouses_106
                          · have h := if_f _ hc h
                            refine lv_iload_n F.1 F.2.1 dX6_buildHouses_105 rfl (lv_at hl 3 rfl) ?_
                            refine W.widen (k := 8) (n := 32) (Nat.le_of_ble_eq_true rfl) (Nat.le_of_ble_eq_true rfl) ?_
                            exact y_iretA h F hXA hr hP hS hM_w hlk dX6_buildHouses_106
                    · have h := if_f _ hc h
                      refine lv_iload_n F.1 F.2.1 dX6_buildHouses_105 rfl (lv_at hl 3 rfl) ?_
                      refine W.widen (k := 8) (n := 32) (Nat.le_of_ble_eq_true rfl) (Nat.le_of_ble_eq_true rfl) ?_
                      exact y_iretA h F hXA hr hP hS hM_w hlk dX6_buildHouses_106
              · have h := if_f _ hc h
                refine lv_iload_n F.1 F.2.1 dX6_buildHouses_105 rfl (lv_at hl 3 rfl) ?_
                refine W.widen (k := 8) (n := 32) (Nat.le_of_ble_eq_true rfl) (Nat.le_of_ble_eq_true rfl) ?_
                exact y_iretA h F hXA hr hP hS hM_w hlk dX6_buildHouses_106
        · have h := if_f _ hc h
          refine lv_iload_n F.1 F.2.1 dX6_buildHouses_105 rfl (lv_at hl 3 rfl) ?_
          refine W.widen (k := 8) (n := 32) (Nat.le_of_ble_eq_true rfl) (Nat.le_of_ble_eq_true rfl) ?_
          exact y_iretA h F hXA hr hP hS hM_w hlk dX6_buildHouses_106
  · have h := if_t _ hc h
    refine lv_iconst (v := 0) F.1 F.2.1 dX6_buildHouses_7 ic_0 ?_
    refine W.widen (k := 8) (n := 32) (Nat.le_of_ble_eq_true rfl) (Nat.le_of_ble_eq_true rfl) ?_
    exact y_iretA h F hXA hr hP hS mono.refl hlk dX6_buildHouses_8
def f_X7_init (w : Wd) : Option Wd :=
q_nw w 29 (1, 4) 2 (fun w_6 =>
q_pt w_6 5 0 1 (fun w_8 =>
q_nw w_8 30 (1, 6) 2 (fun w_14 =>
q_pt w_14 5 2 1 (fun w_16 =>
q_pt w_16 5 4 (2 : Int32) (fun w_21 =>
q_nm w_21 31 7 256 (fun w_30 =>
q_pt w_30 5 5 1 (fun w_34 =>
q_nw w_34 39 (1, 6) 2 (fun w_40 =>
q_pt w_40 5 6 1 (fun w_42 =>
q_rd w_42 5 7 8 (fun w_r45 =>
some w_r45))))))))))
set_option maxRecDepth 100000 in
set_option maxHeartbeats 4000000 in
theorem c_X7_init (l : Launch) (D : va_G) (cT : Nat → ClassId) (lo nb : Nat) (w : Wd) (ad0 : Nat → Nat) (ha0 : wA w 5 = 1) (w9 : Wd) (h : f_X7_init w = some w9) : Met l yX7_init (.code yX7_init cX7_init 1 none :: TW) { frames := 1, cells := 11, slots := 1815, locals := 20 } (mPc D cT lo nb w ad0 [.ref (ad0 5)]) (mQA D cT lo nb w w9 ad0 none) 11 1815 (fun q => lo ≤ q) := by
  unfold f_X7_init at h
  have hn_5 : wA w 5 ≠ 0 := by rw [ha0]; decide
  refine x_met (lv := [(0, .ref (ad0 5))]) (by decide +kernel) (Nat.le_of_ble_eq_true rfl) rfl ?_
  intro p e s m args below meth c ls F hr hlk hP hin hl
  have hx := F.1
  have hb := F.2.1
  have hS : va_S (fun q => lo ≤ q) s.heap s.heap [] := va_S.rf
  have hM_w : mono w w := mono.refl
  have hXA : ∀ k, wA w k ≠ 0 → ad0 k = ad0 k := fun _ _ => rfl
  refine lv_aload_n F.1 F.2.1 dX7_init_0 rfl (lv_at hl 0 rfl) ?_
  refine y_obj F lk_X7_3 vi_obj cd_obj hl.1 dX7_init_1 ⟨Nat.le_of_ble_eq_true rfl, Nat.le_of_ble_eq_true rfl⟩ ?_
  refine lv_aload_n F.1 F.2.1 dX7_init_4 rfl (lv_at hl 0 rfl) ?_
  refine lv_iconst (v := 4) F.1 F.2.1 dX7_init_5 ic_4 ?_
  refine y_newi (k := 29) h F hP hS ac_int (by decide) (by decide) (by decide) (Nat.le_of_ble_eq_true rfl) (Nat.le_of_ble_eq_true rfl) dX7_init_6 (fun w_6 ad H hm ha_29 _ hx h hP' hS => ?_)
  have e9 := hx 5 hn_5
  try rw [← e9] at hl
  try rw [← e9]
  have hP := hP'
  have hXA : ∀ k, wA w k ≠ 0 → ad k = ad0 k := fun k hk => (hx k (hM_w.1 k hk)).trans (hXA k hk)
  have hM_w := hm
  have hn_5 := hm.1 _ hn_5
  refine y_putFr h F hP hS k_5 hn_5 fl_X7_11 hin rfl rfl r_5_0 ha_29 (Or.inr ⟨_, rfl⟩) dX7_init_8 (fun w_8 H locs hm h hP hS => ?_)
  have hM_w := hM_w.trans hm
  have hn_5 := hm.1 _ hn_5
  have ha_29 := hm.2 _ ha_29
  refine lv_aload_n F.1 F.2.1 dX7_init_11 rfl (lv_at hl 0 rfl) ?_
  refine lv_bipush (v := 6) F.1 F.2.1 dX7_init_12 ib_6 ?_
  refine y_newi (k := 30) h F hP hS ac_int (by decide) (by decide) (by decide) (Nat.le_of_ble_eq_true rfl) (Nat.le_of_ble_eq_true rfl) dX7_init_14 (fun w_14 ad H hm ha_30 _ hx h hP' hS => ?_)
  have e9 := hx 5 hn_5
  try rw [← e9] at hl
  try rw [← e9]
  have hP := hP'
  have hXA : ∀ k, wA w k ≠ 0 → ad k = ad0 k := fun k hk => (hx k (hM_w.1 k hk)).trans (hXA k hk)
  have hM_w := hM_w.trans hm
  have hn_5 := hm.1 _ hn_5
  have ha_29 := hm.2 _ ha_29
  refine y_putFr h F hP hS k_5 hn_5 fl_X7_15 hin rfl rfl r_5_2 ha_30 (Or.inr ⟨_, rfl⟩) dX7_init_16 (fun w_16 H locs hm h hP hS => ?_)
  have hM_w := hM_w.trans hm
  have hn_5 := hm.1 _ hn_5
  have ha_29 := hm.2 _ ha_29
  have ha_30 := hm.2 _ ha_30
  refine lv_aload_n F.1 F.2.1 dX7_init_19 rfl (lv_at hl 0 rfl) ?_
  refine lv_iconst (v := 2) F.1 F.2.1 dX7_init_20 ic_2 ?_
  refine y_puti h F hP hS k_5 hn_5 fl_X7_18 rfl dX7_init_21 (fun w_21 H locs hm h hP hS => ?_)
  have hM_w := hM_w.trans hm
  have hn_5 := hm.1 _ hn_5
  have ha_29 := hm.2 _ ha_29
  have ha_30 := hm.2 _ ha_30
  refine lv_aload_n F.1 F.2.1 dX7_init_24 rfl (lv_at hl 0 rfl) ?_
  refine lv_bipush (v := 7) F.1 F.2.1 dX7_init_25 ib_7 ?_
  refine lv_sipush (v := 256) F.1 F.2.1 dX7_init_27 is_256 ?_
  refine y_grid (k := 31) (N := 7) (M := 256) h F hP hS cl_X7_22 ac_int (by decide) (by decide) (by decide) (by decide) (by decide) (by decide) (Nat.le_of_ble_eq_true rfl) (Nat.le_of_ble_eq_true rfl) dX7_init_30 (fun w_30 ad H hm ha_31 _ hx h hP' hS => ?_)
  have e9 := hx 5 hn_5
  try rw [← e9] at hl
  try rw [← e9]
  have hP := hP'
  have hXA : ∀ k, wA w k ≠ 0 → ad k = ad0 k := fun k hk => (hx k (hM_w.1 k hk)).trans (hXA k hk)
  have hM_w := hM_w.trans hm
  have hn_5 := hm.1 _ hn_5
  have ha_29 := hm.2 _ ha_29
  have ha_30 := hm.2 _ ha_30
  refine y_putFr h F hP hS k_5 hn_5 fl_X7_24 hin rfl rfl r_5_5 ha_31 (Or.inr ⟨_, rfl⟩) dX7_init_34 (fun w_34 H locs hm h hP hS => ?_)
  have hM_w := hM_w.trans hm
  have hn_5 := hm.1 _ hn_5
  have ha_29 := hm.2 _ ha_29
  have ha_30 := hm.2 _ ha_30
  have ha_31 := hm.2 _ ha_31
  refine lv_aload_n F.1 F.2.1 dX7_init_37 rfl (lv_at hl 0 rfl) ?_
  refine lv_bipush (v := 6) F.1 F.2.1 dX7_init_38 ib_6 ?_
  refine y_newi (k := 39) h F hP hS ac_int (by decide) (by decide) (by decide) (Nat.le_of_ble_eq_true rfl) (Nat.le_of_ble_eq_true rfl) dX7_init_40 (fun w_40 ad H hm ha_39 _ hx h hP' hS => ?_)
  have e9 := hx 5 hn_5
  try rw [← e9] at hl
  try rw [← e9]
  have hP := hP'
  have hXA : ∀ k, wA w k ≠ 0 → ad k = ad0 k := fun k hk => (hx k (hM_w.1 k hk)).trans (hXA k hk)
  have hM_w := hM_w.trans hm
  have hn_5 := hm.1 _ hn_5
  have ha_29 := hm.2 _ ha_29
  have ha_30 := hm.2 _ ha_30
  have ha_31 := hm.2 _ ha_31
  refine y_putFr h F hP hS k_5 hn_5 fl_X7_27 hin rfl rfl r_5_6 ha_39 (Or.inr ⟨_, rfl⟩) dX7_init_42 (fun w_42 H locs hm h hP hS => ?_)
  have hM_w := hM_w.trans hm
  have hn_5 := hm.1 _ hn_5
  have ha_29 := hm.2 _ ha_29
  have ha_30 := hm.2 _ ha_30
  have ha_31 := hm.2 _ ha_31
  have ha_39 := hm.2 _ ha_39
  refine y_ready h hP k_5 ftN_7 (fun w_r45 hm _ h hP => ?_)
  have hM_w := hM_w.trans hm
  refine W.widen (k := 11) (n := 1815) (Nat.le_of_ble_eq_true rfl) (Nat.le_of_ble_eq_true rfl) ?_
  exact y_vretA h F hXA hr hP hS hM_w hlk dX7_init_45
def f_X8_init (w : Wd) : Option Wd :=
q_nw w 10 (4, 20) 2 (fun w_7 =>
q_pt w_7 2 0 1 (fun w_10 =>
q_nw w_10 11 (1, 20) 2 (fun w_16 =>
q_pt w_16 2 1 1 (fun w_18 =>
q_nw w_18 12 (1, 20) 2 (fun w_24 =>
q_pt w_24 2 2 1 (fun w_26 =>
q_nw w_26 13 (1, 20) 2 (fun w_32 =>
q_pt w_32 2 3 1 (fun w_34 =>
q_nw w_34 14 (4, 10) 2 (fun w_40 =>
q_pt w_40 2 5 1 (fun w_43 =>
q_nw w_43 15 (4, 10) 2 (fun w_49 =>
q_pt w_49 2 7 1 (fun w_52 =>
q_nw w_52 16 (1, 10) 2 (fun w_58 =>
q_pt w_58 2 8 1 (fun w_60 =>
q_nw w_60 17 (2, 10) 2 (fun w_66 =>
q_pt w_66 2 9 1 (fun w_68 =>
q_nw w_68 18 (4, 10) 2 (fun w_74 =>
q_pt w_74 2 11 1 (fun w_77 =>
q_nw w_77 19 (1, 10) 2 (fun w_83 =>
q_pt w_83 2 12 1 (fun w_85 =>
q_nw w_85 20 (1, 10) 2 (fun w_91 =>
q_pt w_91 2 13 1 (fun w_93 =>
q_nw w_93 21 (2, 10) 2 (fun w_99 =>
q_pt w_99 2 14 1 (fun w_101 =>
q_rd w_101 2 8 16 (fun w_r104 =>
some w_r104)))))))))))))))))))))))))
set_option maxRecDepth 100000 in
set_option maxHeartbeats 4000000 in
theorem c_X8_init (l : Launch) (D : va_G) (cT : Nat → ClassId) (lo nb : Nat) (w : Wd) (ad0 : Nat → Nat) (ha0 : wA w 2 = 1) (w9 : Wd) (h : f_X8_init w = some w9) : Met l yX8_init (.code yX8_init cX8_init 1 none :: TW) { frames := 1, cells := 12, slots := 160, locals := 20 } (mPc D cT lo nb w ad0 [.ref (ad0 2)]) (mQA D cT lo nb w w9 ad0 none) 12 160 (fun q => lo ≤ q) := by
  unfold f_X8_init at h
  have hn_2 : wA w 2 ≠ 0 := by rw [ha0]; decide
  refine x_met (lv := [(0, .ref (ad0 2))]) (by decide +kernel) (Nat.le_of_ble_eq_true rfl) rfl ?_
  intro p e s m args below meth c ls F hr hlk hP hin hl
  have hx := F.1
  have hb := F.2.1
  have hS : va_S (fun q => lo ≤ q) s.heap s.heap [] := va_S.rf
  have hM_w : mono w w := mono.refl
  have hXA : ∀ k, wA w k ≠ 0 → ad0 k = ad0 k := fun _ _ => rfl
  refine lv_aload_n F.1 F.2.1 dX8_init_0 rfl (lv_at hl 0 rfl) ?_
  refine y_obj F lk_X8_3 vi_obj cd_obj hl.1 dX8_init_1 ⟨Nat.le_of_ble_eq_true rfl, Nat.le_of_ble_eq_true rfl⟩ ?_
  refine lv_aload_n F.1 F.2.1 dX8_init_4 rfl (lv_at hl 0 rfl) ?_
  refine lv_bipush (v := 20) F.1 F.2.1 dX8_init_5 ib_20 ?_
  refine y_newq (k := 10) (t0 := 3) h F hP hS cl_X8_11 ao_X0 rfl (by decide) (by decide) (by decide) (by decide) (by decide) (Nat.le_of_ble_eq_true rfl) (Nat.le_of_ble_eq_true rfl) dX8_init_7 (fun w_7 ad H hm ha_10 _ hx h hP' hS => ?_)
  have e9 := hx 2 hn_2
  try rw [← e9] at hl
  try rw [← e9]
  have hP := hP'
  have hXA : ∀ k, wA w k ≠ 0 → ad k = ad0 k := fun k hk => (hx k (hM_w.1 k hk)).trans (hXA k hk)
  have hM_w := hm
  have hn_2 := hm.1 _ hn_2
  refine y_putFr h F hP hS k_2 hn_2 fl_X8_13 hin rfl rfl r_2_0 ha_10 (Or.inr ⟨_, rfl⟩) dX8_init_10 (fun w_10 H locs hm h hP hS => ?_)
  have hM_w := hM_w.trans hm
  have hn_2 := hm.1 _ hn_2
  have ha_10 := hm.2 _ ha_10
  refine lv_aload_n F.1 F.2.1 dX8_init_13 rfl (lv_at hl 0 rfl) ?_
  refine lv_bipush (v := 20) F.1 F.2.1 dX8_init_14 ib_20 ?_
  refine y_newi (k := 11) h F hP hS ac_int (by decide) (by decide) (by decide) (Nat.le_of_ble_eq_true rfl) (Nat.le_of_ble_eq_true rfl) dX8_init_16 (fun w_16 ad H hm ha_11 _ hx h hP' hS => ?_)
  have e9 := hx 2 hn_2
  try rw [← e9] at hl
  try rw [← e9]
  have hP := hP'
  have hXA : ∀ k, wA w k ≠ 0 → ad k = ad0 k := fun k hk => (hx k (hM_w.1 k hk)).trans (hXA k hk)
  have hM_w := hM_w.trans hm
  have hn_2 := hm.1 _ hn_2
  have ha_10 := hm.2 _ ha_10
  refine y_putFr h F hP hS k_2 hn_2 fl_X8_17 hin rfl rfl r_2_1 ha_11 (Or.inr ⟨_, rfl⟩) dX8_init_18 (fun w_18 H locs hm h hP hS => ?_)
  have hM_w := hM_w.trans hm
  have hn_2 := hm.1 _ hn_2
  have ha_10 := hm.2 _ ha_10
  have ha_11 := hm.2 _ ha_11
  refine lv_aload_n F.1 F.2.1 dX8_init_21 rfl (lv_at hl 0 rfl) ?_
  refine lv_bipush (v := 20) F.1 F.2.1 dX8_init_22 ib_20 ?_
  refine y_newi (k := 12) h F hP hS ac_int (by decide) (by decide) (by decide) (Nat.le_of_ble_eq_true rfl) (Nat.le_of_ble_eq_true rfl) dX8_init_24 (fun w_24 ad H hm ha_12 _ hx h hP' hS => ?_)
  have e9 := hx 2 hn_2
  try rw [← e9] at hl
  try rw [← e9]
  have hP := hP'
  have hXA : ∀ k, wA w k ≠ 0 → ad k = ad0 k := fun k hk => (hx k (hM_w.1 k hk)).trans (hXA k hk)
  have hM_w := hM_w.trans hm
  have hn_2 := hm.1 _ hn_2
  have ha_10 := hm.2 _ ha_10
  have ha_11 := hm.2 _ ha_11
  refine y_putFr h F hP hS k_2 hn_2 fl_X8_21 hin rfl rfl r_2_2 ha_12 (Or.inr ⟨_, rfl⟩) dX8_init_26 (fun w_26 H locs hm h hP hS => ?_)
  have hM_w := hM_w.trans hm
  have hn_2 := hm.1 _ hn_2
  have ha_10 := hm.2 _ ha_10
  have ha_11 := hm.2 _ ha_11
  have ha_12 := hm.2 _ ha_12
  refine lv_aload_n F.1 F.2.1 dX8_init_29 rfl (lv_at hl 0 rfl) ?_
  refine lv_bipush (v := 20) F.1 F.2.1 dX8_init_30 ib_20 ?_
  refine y_newi (k := 13) h F hP hS ac_int (by decide) (by decide) (by decide) (Nat.le_of_ble_eq_true rfl) (Nat.le_of_ble_eq_true rfl) dX8_init_32 (fun w_32 ad H hm ha_13 _ hx h hP' hS => ?_)
  have e9 := hx 2 hn_2
  try rw [← e9] at hl
  try rw [← e9]
  have hP := hP'
  have hXA : ∀ k, wA w k ≠ 0 → ad k = ad0 k := fun k hk => (hx k (hM_w.1 k hk)).trans (hXA k hk)
  have hM_w := hM_w.trans hm
  have hn_2 := hm.1 _ hn_2
  have ha_10 := hm.2 _ ha_10
  have ha_11 := hm.2 _ ha_11
  have ha_12 := hm.2 _ ha_12
  refine y_putFr h F hP hS k_2 hn_2 fl_X8_24 hin rfl rfl r_2_3 ha_13 (Or.inr ⟨_, rfl⟩) dX8_init_34 (fun w_34 H locs hm h hP hS => ?_)
  have hM_w := hM_w.trans hm
  have hn_2 := hm.1 _ hn_2
  have ha_10 := hm.2 _ ha_10
  have ha_11 := hm.2 _ ha_11
  have ha_12 := hm.2 _ ha_12
  have ha_13 := hm.2 _ ha_13
  refine lv_aload_n F.1 F.2.1 dX8_init_37 rfl (lv_at hl 0 rfl) ?_
  refine lv_bipush (v := 10) F.1 F.2.1 dX8_init_38 ib_10 ?_
  refine y_newq (k := 14) (t0 := 3) h F hP hS cl_X8_11 ao_X0 rfl (by decide) (by decide) (by decide) (by decide) (by decide) (Nat.le_of_ble_eq_true rfl) (Nat.le_of_ble_eq_true rfl) dX8_init_40 (fun w_40 ad H hm ha_14 _ hx h hP' hS => ?_)
  have e9 := hx 2 hn_2
  try rw [← e9] at hl
  try rw [← e9]
  have hP := hP'
  have hXA : ∀ k, wA w k ≠ 0 → ad k = ad0 k := fun k hk => (hx k (hM_w.1 k hk)).trans (hXA k hk)
  have hM_w := hM_w.trans hm
  have hn_2 := hm.1 _ hn_2
  have ha_10 := hm.2 _ ha_10
  have ha_11 := hm.2 _ ha_11
  have ha_12 := hm.2 _ ha_12
  have ha_13 := hm.2 _ ha_13
  refine y_putFr h F hP hS k_2 hn_2 fl_X8_27 hin rfl rfl r_2_5 ha_14 (Or.inr ⟨_, rfl⟩) dX8_init_43 (fun w_43 H locs hm h hP hS => ?_)
  have hM_w := hM_w.trans hm
  have hn_2 := hm.1 _ hn_2
  have ha_10 := hm.2 _ ha_10
  have ha_11 := hm.2 _ ha_11
  have ha_12 := hm.2 _ ha_12
  have ha_13 := hm.2 _ ha_13
  have ha_14 := hm.2 _ ha_14
  refine lv_aload_n F.1 F.2.1 dX8_init_46 rfl (lv_at hl 0 rfl) ?_
  refine lv_bipush (v := 10) F.1 F.2.1 dX8_init_47 ib_10 ?_
  refine y_newq (k := 15) (t0 := 3) h F hP hS cl_X8_11 ao_X0 rfl (by decide) (by decide) (by decide) (by decide) (by decide) (Nat.le_of_ble_eq_true rfl) (Nat.le_of_ble_eq_true rfl) dX8_init_49 (fun w_49 ad H hm ha_15 _ hx h hP' hS => ?_)
  have e9 := hx 2 hn_2
  try rw [← e9] at hl
  try rw [← e9]
  have hP := hP'
  have hXA : ∀ k, wA w k ≠ 0 → ad k = ad0 k := fun k hk => (hx k (hM_w.1 k hk)).trans (hXA k hk)
  have hM_w := hM_w.trans hm
  have hn_2 := hm.1 _ hn_2
  have ha_10 := hm.2 _ ha_10
  have ha_11 := hm.2 _ ha_11
  have ha_12 := hm.2 _ ha_12
  have ha_13 := hm.2 _ ha_13
  have ha_14 := hm.2 _ ha_14
  refine y_putFr h F hP hS k_2 hn_2 fl_X8_30 hin rfl rfl r_2_7 ha_15 (Or.inr ⟨_, rfl⟩) dX8_init_52 (fun w_52 H locs hm h hP hS => ?_)
  have hM_w := hM_w.trans hm
  have hn_2 := hm.1 _ hn_2
  have ha_10 := hm.2 _ ha_10
  have ha_11 := hm.2 _ ha_11
  have ha_12 := hm.2 _ ha_12
  have ha_13 := hm.2 _ ha_13
  have ha_14 := hm.2 _ ha_14
  have ha_15 := hm.2 _ ha_15
  refine lv_aload_n F.1 F.2.1 dX8_init_55 rfl (lv_at hl 0 rfl) ?_
  refine lv_bipush (v := 10) F.1 F.2.1 dX8_init_56 ib_10 ?_
  refine y_newi (k := 16) h F hP hS ac_int (by decide) (by decide) (by decide) (Nat.le_of_ble_eq_true rfl) (Nat.le_of_ble_eq_true rfl) dX8_init_58 (fun w_58 ad H hm ha_16 _ hx h hP' hS => ?_)
  have e9 := hx 2 hn_2
  try rw [← e9] at hl
  try rw [← e9]
  have hP := hP'
  have hXA : ∀ k, wA w k ≠ 0 → ad k = ad0 k := fun k hk => (hx k (hM_w.1 k hk)).trans (hXA k hk)
  have hM_w := hM_w.trans hm
  have hn_2 := hm.1 _ hn_2
  have ha_10 := hm.2 _ ha_10
  have ha_11 := hm.2 _ ha_11
  have ha_12 := hm.2 _ ha_12
  have ha_13 := hm.2 _ ha_13
  have ha_14 := hm.2 _ ha_14
  have ha_15 := hm.2 _ ha_15
  refine y_putFr h F hP hS k_2 hn_2 fl_X8_33 hin rfl rfl r_2_8 ha_16 (Or.inr ⟨_, rfl⟩) dX8_init_60 (fun w_60 H locs hm h hP hS => ?_)
  have hM_w := hM_w.trans hm
  have hn_2 := hm.1 _ hn_2
  have ha_10 := hm.2 _ ha_10
  have ha_11 := hm.2 _ ha_11
  have ha_12 := hm.2 _ ha_12
  have ha_13 := hm.2 _ ha_13
  have ha_14 := hm.2 _ ha_14
  have ha_15 := hm.2 _ ha_15
  have ha_16 := hm.2 _ ha_16
  refine lv_aload_n F.1 F.2.1 dX8_init_63 rfl (lv_at hl 0 rfl) ?_
  refine lv_bipush (v := 10) F.1 F.2.1 dX8_init_64 ib_10 ?_
  refine y_newz (k := 17) h F hP hS ac_boolean (by decide) (by decide) (by decide) (Nat.le_of_ble_eq_true rfl) (Nat.le_of_ble_eq_true rfl) dX8_init_66 (fun w_66 ad H hm ha_17 _ hx h hP' hS => ?_)
  have e9 := hx 2 hn_2
  try rw [← e9] at hl
  try rw [← e9]
  have hP := hP'
  have hXA : ∀ k, wA w k ≠ 0 → ad k = ad0 k := fun k hk => (hx k (hM_w.1 k hk)).trans (hXA k hk)
  have hM_w := hM_w.trans hm
  have hn_2 := hm.1 _ hn_2
  have ha_10 := hm.2 _ ha_10
  have ha_11 := hm.2 _ ha_11
  have ha_12 := hm.2 _ ha_12
  have ha_13 := hm.2 _ ha_13
  have ha_14 := hm.2 _ ha_14
  have ha_15 := hm.2 _ ha_15
  have ha_16 := hm.2 _ ha_16
  refine y_putFr h F hP hS k_2 hn_2 fl_X8_36 hin rfl rfl r_2_9 ha_17 (Or.inr ⟨_, rfl⟩) dX8_init_68 (fun w_68 H locs hm h hP hS => ?_)
  have hM_w := hM_w.trans hm
  have hn_2 := hm.1 _ hn_2
  have ha_10 := hm.2 _ ha_10
  have ha_11 := hm.2 _ ha_11
  have ha_12 := hm.2 _ ha_12
  have ha_13 := hm.2 _ ha_13
  have ha_14 := hm.2 _ ha_14
  have ha_15 := hm.2 _ ha_15
  have ha_16 := hm.2 _ ha_16
  have ha_17 := hm.2 _ ha_17
  refine lv_aload_n F.1 F.2.1 dX8_init_71 rfl (lv_at hl 0 rfl) ?_
  refine lv_bipush (v := 10) F.1 F.2.1 dX8_init_72 ib_10 ?_
  refine y_newq (k := 18) (t0 := 3) h F hP hS cl_X8_11 ao_X0 rfl (by decide) (by decide) (by decide) (by decide) (by decide) (Nat.le_of_ble_eq_true rfl) (Nat.le_of_ble_eq_true rfl) dX8_init_74 (fun w_74 ad H hm ha_18 _ hx h hP' hS => ?_)
  have e9 := hx 2 hn_2
  try rw [← e9] at hl
  try rw [← e9]
  have hP := hP'
  have hXA : ∀ k, wA w k ≠ 0 → ad k = ad0 k := fun k hk => (hx k (hM_w.1 k hk)).trans (hXA k hk)
  have hM_w := hM_w.trans hm
  have hn_2 := hm.1 _ hn_2
  have ha_10 := hm.2 _ ha_10
  have ha_11 := hm.2 _ ha_11
  have ha_12 := hm.2 _ ha_12
  have ha_13 := hm.2 _ ha_13
  have ha_14 := hm.2 _ ha_14
  have ha_15 := hm.2 _ ha_15
  have ha_16 := hm.2 _ ha_16
  have ha_17 := hm.2 _ ha_17
  refine y_putFr h F hP hS k_2 hn_2 fl_X8_40 hin rfl rfl r_2_11 ha_18 (Or.inr ⟨_, rfl⟩) dX8_init_77 (fun w_77 H locs hm h hP hS => ?_)
  have hM_w := hM_w.trans hm
  have hn_2 := hm.1 _ hn_2
  have ha_10 := hm.2 _ ha_10
  have ha_11 := hm.2 _ ha_11
  have ha_12 := hm.2 _ ha_12
  have ha_13 := hm.2 _ ha_13
  have ha_14 := hm.2 _ ha_14
  have ha_15 := hm.2 _ ha_15
  have ha_16 := hm.2 _ ha_16
  have ha_17 := hm.2 _ ha_17
  have ha_18 := hm.2 _ ha_18
  refine lv_aload_n F.1 F.2.1 dX8_init_80 rfl (lv_at hl 0 rfl) ?_
  refine lv_bipush (v := 10) F.1 F.2.1 dX8_init_81 ib_10 ?_
  refine y_newi (k := 19) h F hP hS ac_int (by decide) (by decide) (by decide) (Nat.le_of_ble_eq_true rfl) (Nat.le_of_ble_eq_true rfl) dX8_init_83 (fun w_83 ad H hm ha_19 _ hx h hP' hS => ?_)
  have e9 := hx 2 hn_2
  try rw [← e9] at hl
  try rw [← e9]
  have hP := hP'
  have hXA : ∀ k, wA w k ≠ 0 → ad k = ad0 k := fun k hk => (hx k (hM_w.1 k hk)).trans (hXA k hk)
  have hM_w := hM_w.trans hm
  have hn_2 := hm.1 _ hn_2
  have ha_10 := hm.2 _ ha_10
  have ha_11 := hm.2 _ ha_11
  have ha_12 := hm.2 _ ha_12
  have ha_13 := hm.2 _ ha_13
  have ha_14 := hm.2 _ ha_14
  have ha_15 := hm.2 _ ha_15
  have ha_16 := hm.2 _ ha_16
  have ha_17 := hm.2 _ ha_17
  have ha_18 := hm.2 _ ha_18
  refine y_putFr h F hP hS k_2 hn_2 fl_X8_43 hin rfl rfl r_2_12 ha_19 (Or.inr ⟨_, rfl⟩) dX8_init_85 (fun w_85 H locs hm h hP hS => ?_)
  have hM_w := hM_w.trans hm
  have hn_2 := hm.1 _ hn_2
  have ha_10 := hm.2 _ ha_10
  have ha_11 := hm.2 _ ha_11
  have ha_12 := hm.2 _ ha_12
  have ha_13 := hm.2 _ ha_13
  have ha_14 := hm.2 _ ha_14
  have ha_15 := hm.2 _ ha_15
  have ha_16 := hm.2 _ ha_16
  have ha_17 := hm.2 _ ha_17
  have ha_18 := hm.2 _ ha_18
  have ha_19 := hm.2 _ ha_19
  refine lv_aload_n F.1 F.2.1 dX8_init_88 rfl (lv_at hl 0 rfl) ?_
  refine lv_bipush (v := 10) F.1 F.2.1 dX8_init_89 ib_10 ?_
  refine y_newi (k := 20) h F hP hS ac_int (by decide) (by decide) (by decide) (Nat.le_of_ble_eq_true rfl) (Nat.le_of_ble_eq_true rfl) dX8_init_91 (fun w_91 ad H hm ha_20 _ hx h hP' hS => ?_)
  have e9 := hx 2 hn_2
  try rw [← e9] at hl
  try rw [← e9]
  have hP := hP'
  have hXA : ∀ k, wA w k ≠ 0 → ad k = ad0 k := fun k hk => (hx k (hM_w.1 k hk)).trans (hXA k hk)
  have hM_w := hM_w.trans hm
  have hn_2 := hm.1 _ hn_2
  have ha_10 := hm.2 _ ha_10
  have ha_11 := hm.2 _ ha_11
  have ha_12 := hm.2 _ ha_12
  have ha_13 := hm.2 _ ha_13
  have ha_14 := hm.2 _ ha_14
  have ha_15 := hm.2 _ ha_15
  have ha_16 := hm.2 _ ha_16
  have ha_17 := hm.2 _ ha_17
  have ha_18 := hm.2 _ ha_18
  have ha_19 := hm.2 _ ha_19
  refine y_putFr h F hP hS k_2 hn_2 fl_X8_46 hin rfl rfl r_2_13 ha_20 (Or.inr ⟨_, rfl⟩) dX8_init_93 (fun w_93 H locs hm h hP hS => ?_)
  have hM_w := hM_w.trans hm
  have hn_2 := hm.1 _ hn_2
  have ha_10 := hm.2 _ ha_10
  have ha_11 := hm.2 _ ha_11
  have ha_12 := hm.2 _ ha_12
  have ha_13 := hm.2 _ ha_13
  have ha_14 := hm.2 _ ha_14
  have ha_15 := hm.2 _ ha_15
  have ha_16 := hm.2 _ ha_16
  have ha_17 := hm.2 _ ha_17
  have ha_18 := hm.2 _ ha_18
  have ha_19 := hm.2 _ ha_19
  have ha_20 := hm.2 _ ha_20
  refine lv_aload_n F.1 F.2.1 dX8_init_96 rfl (lv_at hl 0 rfl) ?_
  refine lv_bipush (v := 10) F.1 F.2.1 dX8_init_97 ib_10 ?_
  refine y_newz (k := 21) h F hP hS ac_boolean (by decide) (by decide) (by decide) (Nat.le_of_ble_eq_true rfl) (Nat.le_of_ble_eq_true rfl) dX8_init_99 (fun w_99 ad H hm ha_21 _ hx h hP' hS => ?_)
  have e9 := hx 2 hn_2
  try rw [← e9] at hl
  try rw [← e9]
  have hP := hP'
  have hXA : ∀ k, wA w k ≠ 0 → ad k = ad0 k := fun k hk => (hx k (hM_w.1 k hk)).trans (hXA k hk)
  have hM_w := hM_w.trans hm
  have hn_2 := hm.1 _ hn_2
  have ha_10 := hm.2 _ ha_10
  have ha_11 := hm.2 _ ha_11
  have ha_12 := hm.2 _ ha_12
  have ha_13 := hm.2 _ ha_13
  have ha_14 := hm.2 _ ha_14
  have ha_15 := hm.2 _ ha_15
  have ha_16 := hm.2 _ ha_16
  have ha_17 := hm.2 _ ha_17
  have ha_18 := hm.2 _ ha_18
  have ha_19 := hm.2 _ ha_19
  have ha_20 := hm.2 _ ha_20
  refine y_putFr h F hP hS k_2 hn_2 fl_X8_49 hin rfl rfl r_2_14 ha_21 (Or.inr ⟨_, rfl⟩) dX8_init_101 (fun w_101 H locs hm h hP hS => ?_)
  have hM_w := hM_w.trans hm
  have hn_2 := hm.1 _ hn_2
  have ha_10 := hm.2 _ ha_10
  have ha_11 := hm.2 _ ha_11
  have ha_12 := hm.2 _ ha_12
  have ha_13 := hm.2 _ ha_13
  have ha_14 := hm.2 _ ha_14
  have ha_15 := hm.2 _ ha_15
  have ha_16 := hm.2 _ ha_16
  have ha_17 := hm.2 _ ha_17
  have ha_18 := hm.2 _ ha_18
  have ha_19 := hm.2 _ ha_19
  have ha_20 := hm.2 _ ha_20
  have ha_21 := hm.2 _ ha_21
  refine y_ready h hP k_2 ftN_8 (fun w_r104 hm _ h hP => ?_)
  have hM_w := hM_w.trans hm
  refine W.widen (k := 12) (n := 160) (Nat.le_of_ble_eq_true rfl) (Nat.le_of_ble_eq_true rfl) ?_
  exact y_vretA h F hXA hr hP hS hM_w hlk dX8_init_104
def f_X8_addKerb (w : Wd) (a1 : Int32) (a2 : Int32) (a3 : Int32) (a4 : Int32) : Option (Int32 × Wd) :=
if (f_X11_isBox a1 a2 a3 a4) = 0 then
some ((-2 : Int32), w)
else
q_gt w 2 6 (fun v_15 =>
if v_15 < (10 : Int32) then
q_gt w 2 6 (fun v_31 =>
q_nw w (rt 14 (v_31).toNatClampNeg) (10, 0) 2 (fun w_34 =>
q_bo (f_X0_init w_34 (rt 14 (v_31).toNatClampNeg) a1 a2 a3 a4) (fun w_43 =>
q_st w_43 14 10 v_31 1 (fun w_46 =>
q_gt w_46 2 6 (fun v_49 =>
q_pt w_46 2 6 (v_49 + (1 : Int32)) (fun w_55 =>
some (v_49, w_55)))))))
else
some ((-4 : Int32), w))
set_option maxRecDepth 100000 in
set_option maxHeartbeats 4000000 in
theorem c_X8_addKerb (l : Launch) (D : va_G) (cT : Nat → ClassId) (lo : Nat) (w : Wd) (ad0 : Nat → Nat) (a1 : Int32) (a2 : Int32) (a3 : Int32) (a4 : Int32) (r : Int32) (w9 : Wd) (h : f_X8_addKerb w a1 a2 a3 a4 = some (r, w9)) : Met l yX8_addKerb (.code yX8_addKerb cX8_addKerb 5 (some .int) :: TW) { frames := 2, cells := 1, slots := 4, locals := 45 } (mPc D cT lo NB w ad0 [.ref (ad0 2), .int a1, .int a2, .int a3, .int a4]) (mQA D cT lo NB w w9 ad0 (some (.int r))) 1 4 (fun q => lo ≤ q) := by
  unfold f_X8_addKerb at h
  refine x_met (lv := [(0, .ref (ad0 2)), (1, .int a1), (2, .int a2), (3, .int a3), (4, .int a4)]) (by decide +kernel) (Nat.le_of_ble_eq_true rfl) rfl ?_
  intro p e s m args below meth c ls F hr hlk hP hin hl
  have hx := F.1
  have hb := F.2.1
  have hS : va_S (fun q => lo ≤ q) s.heap s.heap [] := va_S.rf
  have hM_w : mono w w := mono.refl
  have hXA : ∀ k, wA w k ≠ 0 → ad0 k = ad0 k := fun _ _ => rfl
  refine lv_iload_n F.1 F.2.1 dX8_addKerb_0 rfl (lv_at hl 1 rfl) ?_
  refine lv_iload_n F.1 F.2.1 dX8_addKerb_1 rfl (lv_at hl 2 rfl) ?_
  refine lv_iload_n F.1 F.2.1 dX8_addKerb_2 rfl (lv_at hl 3 rfl) ?_
  refine lv_iload F.1 F.2.1 dX8_addKerb_3 (lv_at hl 4 rfl) ?_
  refine x_goesZ (x_runSN (As := [.int a1, .int a2, .int a3, .int a4]) (rest := []) F hP hS (c_X11_isBox l D cT lo NB w ad0 a1 a2 a3 a4) cw_X11_isBox nl_X8_52 st_X11_isBox ⟨rfl, rfl, Nat.le_of_ble_eq_true rfl, Nat.le_of_ble_eq_true rfl⟩ hl.1 rfl (Nat.le_of_ble_eq_true rfl) dX8_addKerb_5 ⟨Nat.le_of_ble_eq_true rfl, Nat.le_of_ble_eq_true rfl⟩) hS (fun H locs hz_5 hP hS _ => ?_)
  refine lv_if_ne (tgt := 14) F.1 F.2.1 dX8_addKerb_8 (by decide) (fun hc => ?_) (fun hc => ?_)
  · have h := if_f _ hc h
    refine lv_aload_n F.1 F.2.1 dX8_addKerb_14 rfl (lv_at hl 0 rfl) ?_
    refine y_geti h F hP k_2 (n2 (hP.al 2 rfl)) fl_X8_67 rfl dX8_addKerb_15 (fun v_15 h => ?_)
    refine lv_bipush (v := 10) F.1 F.2.1 dX8_addKerb_18 ib_10 ?_
    refine lv_icmp_lt (tgt := 26) F.1 F.2.1 dX8_addKerb_20 (by decide) (fun hc => ?_) (fun hc => ?_)
    · have h := if_t _ hc h
      refine lv_aload_n F.1 F.2.1 dX8_addKerb_26 rfl (lv_at hl 0 rfl) ?_
      refine x_getr F hP k_2 (hP.al 2 rfl) fl_X8_27 rfl r_2_5 dX8_addKerb_27 ?_
      refine lv_aload_n F.1 F.2.1 dX8_addKerb_30 rfl (lv_at hl 0 rfl) ?_
      refine y_geti h F hP k_2 (n2 (hP.al 2 rfl)) fl_X8_67 rfl dX8_addKerb_31 (fun v_31 h => ?_)
      refine y_new (k := (rt 14 (v_31).toNatClampNeg)) (ci := 0) h F hP hS cl_X8_11 ib_X0 ini_X0 rfl inw_X0 tyX0_ok ftD_0 (Or.inr ⟨rfl, ftZ_0⟩) (Nat.le_of_ble_eq_true rfl) (Nat.le_of_ble_eq_true rfl) dX8_addKerb_34 (fun w_34 ad H hm ha_rt_14_v_31_toNatClampNeg hk_rt_14_v_31_toNatClampNeg hx h hP' hS => ?_)
      have e9 := hx 2 (n2 (hP.al 2 rfl))
      try rw [← e9] at hl
      try rw [← e9]
      have e9 := hx 14 (n2 (hP.al 14 rfl))
      try rw [← e9] at hl
      try rw [← e9]
      have hP := hP'
      have hXA : ∀ k, wA w k ≠ 0 → ad k = ad0 k := fun k hk => (hx k (hM_w.1 k hk)).trans (hXA k hk)
      have hM_w := hm
      refine lv_dup F.1 F.2.1 dX8_addKerb_37 rfl ?_
      refine lv_iload_n F.1 F.2.1 dX8_addKerb_38 rfl (lv_at hl 1 rfl) ?_
      refine lv_iload_n F.1 F.2.1 dX8_addKerb_39 rfl (lv_at hl 2 rfl) ?_
      refine lv_iload_n F.1 F.2.1 dX8_addKerb_40 rfl (lv_at hl 3 rfl) ?_
      refine lv_iload F.1 F.2.1 dX8_addKerb_41 (lv_at hl 4 rfl) ?_
      obtain ⟨w_43, hc_43, h⟩ := bo_s h
      refine x_goes (x_runI (As := [.int a1, .int a2, .int a3, .int a4]) (rest := [.ref (ad (rt 14 (v_31).toNatClampNeg)), .int v_31, .ref (ad 14)]) F hP hS (c_X0_init l D cT lo NB w_34 ad (rt 14 (v_31).toNatClampNeg) hk_rt_14_v_31_toNatClampNeg ha_rt_14_v_31_toNatClampNeg a1 a2 a3 a4 w_43 hc_43) cw_X0_init lk_X8_64 rfl ii_X0_init ⟨rfl, rfl, Nat.le_of_ble_eq_true rfl, Nat.le_of_ble_eq_true rfl⟩ hl.1 rfl (Nat.le_of_ble_eq_true rfl) dX8_addKerb_43 ⟨Nat.le_of_ble_eq_true rfl, Nat.le_of_ble_eq_true rfl⟩) hS (fun H locs hP hS hm => ?_)
      have hM_w := hM_w.trans hm
      have ha_rt_14_v_31_toNatClampNeg := hm.2 _ ha_rt_14_v_31_toNatClampNeg
      refine y_aast (ci' := 0) (C := RX0) (T := TX0) (N := 4) (t0 := 3) h F hP hS k_14 (by decide) (by decide) (n2 (hP.al 14 rfl)) hk_rt_14_v_31_toNatClampNeg ha_rt_14_v_31_toNatClampNeg rfl rfl rfl dX8_addKerb_46 (fun w_46 H locs hm h hP hS => ?_)
      have hM_w := hM_w.trans hm
      have ha_rt_14_v_31_toNatClampNeg := hm.2 _ ha_rt_14_v_31_toNatClampNeg
      refine lv_aload_n F.1 F.2.1 dX8_addKerb_47 rfl (lv_at hl 0 rfl) ?_
      refine lv_dup F.1 F.2.1 dX8_addKerb_48 rfl ?_
      refine y_geti h F hP k_2 (n2 (hP.al 2 rfl)) fl_X8_67 rfl dX8_addKerb_49 (fun v_49 h => ?_)
      refine lv_dup_x1 F.1 F.2.1 dX8_addKerb_52 rfl rfl ?_
      refine lv_iconst (v := 1) F.1 F.2.1 dX8_addKerb_53 ic_1 ?_
      refine lv_iadd F.1 F.2.1 dX8_addKerb_54 ?_
      refine y_puti h F hP hS k_2 (n2 (hP.al 2 rfl)) fl_X8_67 rfl dX8_addKerb_55 (fun w_55 H locs hm h hP hS => ?_)
      have hM_w := hM_w.trans hm
      have ha_rt_14_v_31_toNatClampNeg := hm.2 _ ha_rt_14_v_31_toNatClampNeg
      refine W.widen (k := 1) (n := 4) (Nat.le_of_ble_eq_true rfl) (Nat.le_of_ble_eq_true rfl) ?_
      exact y_iretA h F hXA hr hP hS hM_w hlk dX8_addKerb_58
    · have h := if_f _ hc h
      refine lv_bipush (v := -4) F.1 F.2.1 dX8_addKerb_23 ib_m4 ?_
      refine W.widen (k := 1) (n := 4) (Nat.le_of_ble_eq_true rfl) (Nat.le_of_ble_eq_true rfl) ?_
      exact y_iretA h F hXA hr hP hS mono.refl hlk dX8_addKerb_25
  · have h := if_t _ hc h
    refine lv_bipush (v := -2) F.1 F.2.1 dX8_addKerb_11 ib_m2 ?_
    refine W.widen (k := 1) (n := 4) (Nat.le_of_ble_eq_true rfl) (Nat.le_of_ble_eq_true rfl) ?_
    exact y_iretA h F hXA hr hP hS mono.refl hlk dX8_addKerb_13
def f_X8_addWire (w : Wd) (a1 : Int32) (a2 : Int32) (a3 : Int32) (a4 : Int32) (a5 : Int32) : Option (Int32 × Wd) :=
if (f_X11_isBox a1 a2 a3 a4) = 0 then
some ((-2 : Int32), w)
else
if (f_X11_within a5 (1 : Int32) (99 : Int32)) = 0 then
some ((-2 : Int32), w)
else
q_gt w 2 10 (fun v_26 =>
if v_26 < (10 : Int32) then
q_gt w 2 10 (fun v_42 =>
q_nw w (rt 15 (v_42).toNatClampNeg) (10, 0) 2 (fun w_45 =>
q_bo (f_X0_init w_45 (rt 15 (v_42).toNatClampNeg) a1 a2 a3 a4) (fun w_54 =>
q_st w_54 15 10 v_42 1 (fun w_57 =>
q_gt w_57 2 10 (fun v_63 =>
q_st w_57 16 10 v_63 a5 (fun w_68 =>
q_gt w_68 2 10 (fun v_71 =>
q_pt w_68 2 10 (v_71 + (1 : Int32)) (fun w_77 =>
some (v_71, w_77)))))))))
else
some ((-4 : Int32), w))
set_option maxRecDepth 100000 in
set_option maxHeartbeats 4000000 in
theorem c_X8_addWire (l : Launch) (D : va_G) (cT : Nat → ClassId) (lo : Nat) (w : Wd) (ad0 : Nat → Nat) (a1 : Int32) (a2 : Int32) (a3 : Int32) (a4 : Int32) (a5 : Int32) (r : Int32) (w9 : Wd) (h : f_X8_addWire w a1 a2 a3 a4 a5 = some (r, w9)) : Met l yX8_addWire (.code yX8_addWire cX8_addWire 6 (some .int) :: TW) { frames := 2, cells := 1, slots := 4, locals := 45 } (mPc D cT lo NB w ad0 [.ref (ad0 2), .int a1, .int a2, .int a3, .int a4, .int a5]) (mQA D cT lo NB w w9 ad0 (some (.int r))) 1 4 (fun q => lo ≤ q) := by
  unfold f_X8_addWire at h
  refine x_met (lv := [(0, .ref (ad0 2)), (1, .int a1), (2, .int a2), (3, .int a3), (4, .int a4), (5, .int a5)]) (by decide +kernel) (Nat.le_of_ble_eq_true rfl) rfl ?_
  intro p e s m args below meth c ls F hr hlk hP hin hl
  have hx := F.1
  have hb := F.2.1
  have hS : va_S (fun q => lo ≤ q) s.heap s.heap [] := va_S.rf
  have hM_w : mono w w := mono.refl
  have hXA : ∀ k, wA w k ≠ 0 → ad0 k = ad0 k := fun _ _ => rfl
  refine lv_iload_n F.1 F.2.1 dX8_addWire_0 rfl (lv_at hl 1 rfl) ?_
  refine lv_iload_n F.1 F.2.1 dX8_addWire_1 rfl (lv_at hl 2 rfl) ?_
  refine lv_iload_n F.1 F.2.1 dX8_addWire_2 rfl (lv_at hl 3 rfl) ?_
  refine lv_iload F.1 F.2.1 dX8_addWire_3 (lv_at hl 4 rfl) ?_
  refine x_goesZ (x_runSN (As := [.int a1, .int a2, .int a3, .int a4]) (rest := []) F hP hS (c_X11_isBox l D cT lo NB w ad0 a1 a2 a3 a4) cw_X11_isBox nl_X8_52 st_X11_isBox ⟨rfl, rfl, Nat.le_of_ble_eq_true rfl, Nat.le_of_ble_eq_true rfl⟩ hl.1 rfl (Nat.le_of_ble_eq_true rfl) dX8_addWire_5 ⟨Nat.le_of_ble_eq_true rfl, Nat.le_of_ble_eq_true rfl⟩) hS (fun H locs hz_5 hP hS _ => ?_)
  refine lv_if_eq (tgt := 22) F.1 F.2.1 dX8_addWire_8 (by decide) (fun hc => ?_) (fun hc => ?_)
  · have h := if_t _ hc h
    refine lv_bipush (v := -2) F.1 F.2.1 dX8_addWire_22 ib_m2 ?_
    refine W.widen (k := 1) (n := 4) (Nat.le_of_ble_eq_true rfl) (Nat.le_of_ble_eq_true rfl) ?_
    exact y_iretA h F hXA hr hP hS mono.refl hlk dX8_addWire_24
  · have h := if_f _ hc h
    refine lv_iload F.1 F.2.1 dX8_addWire_11 (lv_at hl 5 rfl) ?_
    refine lv_iconst (v := 1) F.1 F.2.1 dX8_addWire_13 ic_1 ?_
    refine lv_bipush (v := 99) F.1 F.2.1 dX8_addWire_14 ib_99 ?_
    refine x_goesZ (x_runSN (As := [.int a5, .int (1 : Int32), .int (99 : Int32)]) (rest := []) F hP hS (c_X11_within l D cT lo NB w ad0 a5 (1 : Int32) (99 : Int32)) cw_X11_within nl_X8_56 st_X11_within ⟨rfl, rfl, Nat.le_of_ble_eq_true rfl, Nat.le_of_ble_eq_true rfl⟩ hl.1 rfl (Nat.le_of_ble_eq_true rfl) dX8_addWire_16 ⟨Nat.le_of_ble_eq_true rfl, Nat.le_of_ble_eq_true rfl⟩) hS (fun H locs hz_16 hP hS _ => ?_)
    refine lv_if_ne (tgt := 25) F.1 F.2.1 dX8_addWire_19 (by decide) (fun hc => ?_) (fun hc => ?_)
    · have h := if_f _ hc h
      refine lv_aload_n F.1 F.2.1 dX8_addWire_25 rfl (lv_at hl 0 rfl) ?_
      refine y_geti h F hP k_2 (n2 (hP.al 2 rfl)) fl_X8_70 rfl dX8_addWire_26 (fun v_26 h => ?_)
      refine lv_bipush (v := 10) F.1 F.2.1 dX8_addWire_29 ib_10 ?_
      refine lv_icmp_lt (tgt := 37) F.1 F.2.1 dX8_addWire_31 (by decide) (fun hc => ?_) (fun hc => ?_)
      · have h := if_t _ hc h
        refine lv_aload_n F.1 F.2.1 dX8_addWire_37 rfl (lv_at hl 0 rfl) ?_
        refine x_getr F hP k_2 (hP.al 2 rfl) fl_X8_30 rfl r_2_7 dX8_addWire_38 ?_
        refine lv_aload_n F.1 F.2.1 dX8_addWire_41 rfl (lv_at hl 0 rfl) ?_
        refine y_geti h F hP k_2 (n2 (hP.al 2 rfl)) fl_X8_70 rfl dX8_addWire_42 (fun v_42 h => ?_)
        refine y_new (k := (rt 15 (v_42).toNatClampNeg)) (ci := 0) h F hP hS cl_X8_11 ib_X0 ini_X0 rfl inw_X0 tyX0_ok ftD_0 (Or.inr ⟨rfl, ftZ_0⟩) (Nat.le_of_ble_eq_true rfl) (Nat.le_of_ble_eq_true rfl) dX8_addWire_45 (fun w_45 ad H hm ha_rt_15_v_42_toNatClampNeg hk_rt_15_v_42_toNatClampNeg hx h hP' hS => ?_)
        have e9 := hx 2 (n2 (hP.al 2 rfl))
        try rw [← e9] at hl
        try rw [← e9]
        have e9 := hx 15 (n2 (hP.al 15 rfl))
        try rw [← e9] at hl
        try rw [← e9]
        have hP := hP'
        have hXA : ∀ k, wA w k ≠ 0 → ad k = ad0 k := fun k hk => (hx k (hM_w.1 k hk)).trans (hXA k hk)
        have hM_w := hm
        refine lv_dup F.1 F.2.1 dX8_addWire_48 rfl ?_
        refine lv_iload_n F.1 F.2.1 dX8_addWire_49 rfl (lv_at hl 1 rfl) ?_
        refine lv_iload_n F.1 F.2.1 dX8_addWire_50 rfl (lv_at hl 2 rfl) ?_
        refine lv_iload_n F.1 F.2.1 dX8_addWire_51 rfl (lv_at hl 3 rfl) ?_
        refine lv_iload F.1 F.2.1 dX8_addWire_52 (lv_at hl 4 rfl) ?_
        obtain ⟨w_54, hc_54, h⟩ := bo_s h
        refine x_goes (x_runI (As := [.int a1, .int a2, .int a3, .int a4]) (rest := [.ref (ad (rt 15 (v_42).toNatClampNeg)), .int v_42, .ref (ad 15)]) F hP hS (c_X0_init l D cT lo NB w_45 ad (rt 15 (v_42).toNatClampNeg) hk_rt_15_v_42_toNatClampNeg ha_rt_15_v_42_toNatClampNeg a1 a2 a3 a4 w_54 hc_54) cw_X0_init lk_X8_64 rfl ii_X0_init ⟨rfl, rfl, Nat.le_of_ble_eq_true rfl, Nat.le_of_ble_eq_true rfl⟩ hl.1 rfl (Nat.le_of_ble_eq_true rfl) dX8_addWire_54 ⟨Nat.le_of_ble_eq_true rfl, Nat.le_of_ble_eq_true rfl⟩) hS (fun H locs hP hS hm => ?_)
        have hM_w := hM_w.trans hm
        have ha_rt_15_v_42_toNatClampNeg := hm.2 _ ha_rt_15_v_42_toNatClampNeg
        refine y_aast (ci' := 0) (C := RX0) (T := TX0) (N := 4) (t0 := 3) h F hP hS k_15 (by decide) (by decide) (n2 (hP.al 15 rfl)) hk_rt_15_v_42_toNatClampNeg ha_rt_15_v_42_toNatClampNeg rfl rfl rfl dX8_addWire_57 (fun w_57 H locs hm h hP hS => ?_)
        have hM_w := hM_w.trans hm
        have ha_rt_15_v_42_toNatClampNeg := hm.2 _ ha_rt_15_v_42_toNatClampNeg
        refine lv_aload_n F.1 F.2.1 dX8_addWire_58 rfl (lv_at hl 0 rfl) ?_
        refine x_getr F hP k_2 (hP.al 2 rfl) fl_X8_33 rfl r_2_8 dX8_addWire_59 ?_
        refine lv_aload_n F.1 F.2.1 dX8_addWire_62 rfl (lv_at hl 0 rfl) ?_
        refine y_geti h F hP k_2 (n2 (hP.al 2 rfl)) fl_X8_70 rfl dX8_addWire_63 (fun v_63 h => ?_)
        refine lv_iload F.1 F.2.1 dX8_addWire_66 (lv_at hl 5 rfl) ?_
        refine y_iast h F hP hS k_16 (n2 (hP.al 16 rfl)) dX8_addWire_68 (fun w_68 H locs hm h hP hS => ?_)
        have hM_w := hM_w.trans hm
        have ha_rt_15_v_42_toNatClampNeg := hm.2 _ ha_rt_15_v_42_toNatClampNeg
        refine lv_aload_n F.1 F.2.1 dX8_addWire_69 rfl (lv_at hl 0 rfl) ?_
        refine lv_dup F.1 F.2.1 dX8_addWire_70 rfl ?_
        refine y_geti h F hP k_2 (n2 (hP.al 2 rfl)) fl_X8_70 rfl dX8_addWire_71 (fun v_71 h => ?_)
        refine lv_dup_x1 F.1 F.2.1 dX8_addWire_74 rfl rfl ?_
        refine lv_iconst (v := 1) F.1 F.2.1 dX8_addWire_75 ic_1 ?_
        refine lv_iadd F.1 F.2.1 dX8_addWire_76 ?_
        refine y_puti h F hP hS k_2 (n2 (hP.al 2 rfl)) fl_X8_70 rfl dX8_addWire_77 (fun w_77 H locs hm h hP hS => ?_)
        have hM_w := hM_w.trans hm
        have ha_rt_15_v_42_toNatClampNeg := hm.2 _ ha_rt_15_v_42_toNatClampNeg
        refine W.widen (k := 1) (n := 4) (Nat.le_of_ble_eq_true rfl) (Nat.le_of_ble_eq_true rfl) ?_
        exact y_iretA h F hXA hr hP hS hM_w hlk dX8_addWire_80
      · have h := if_f _ hc h
        refine lv_bipush (v := -4) F.1 F.2.1 dX8_addWire_34 ib_m4 ?_
        refine W.widen (k := 1) (n := 4) (Nat.le_of_ble_eq_true rfl) (Nat.le_of_ble_eq_true rfl) ?_
        exact y_iretA h F hXA hr hP hS mono.refl hlk dX8_addWire_36
    · have h := if_t _ hc h
      refine lv_bipush (v := -2) F.1 F.2.1 dX8_addWire_22 ib_m2 ?_
      refine W.widen (k := 1) (n := 4) (Nat.le_of_ble_eq_true rfl) (Nat.le_of_ble_eq_true rfl) ?_
      exact y_iretA h F hXA hr hP hS mono.refl hlk dX8_addWire_24
def f_X8_addSlope (w : Wd) (a1 : Int32) (a2 : Int32) (a3 : Int32) (a4 : Int32) (a5 : Int32) (a6 : Int32) (a7 : Int32) : Option (Int32 × Wd) :=
if (f_X11_isBox a1 a2 a3 a4) = 0 then
some ((-2 : Int32), w)
else
if (f_X11_within a5 (-200 : Int32) (200 : Int32)) = 0 then
some ((-2 : Int32), w)
else
if (f_X11_within a6 (-200 : Int32) (200 : Int32)) = 0 then
some ((-2 : Int32), w)
else
q_gt w 2 15 (fun v_43 =>
if v_43 < (10 : Int32) then
q_gt w 2 15 (fun v_59 =>
q_nw w (rt 18 (v_59).toNatClampNeg) (10, 0) 2 (fun w_62 =>
q_bo (f_X0_init w_62 (rt 18 (v_59).toNatClampNeg) a1 a2 a3 a4) (fun w_71 =>
q_st w_71 18 10 v_59 1 (fun w_74 =>
q_gt w_74 2 15 (fun v_80 =>
q_st w_74 19 10 v_80 a5 (fun w_85 =>
q_gt w_85 2 15 (fun v_91 =>
q_st w_85 20 10 v_91 a6 (fun w_96 =>
q_gt w_96 2 15 (fun v_102 =>
q_sz w_96 21 10 v_102 a7 (fun w_107 =>
q_gt w_107 2 15 (fun v_110 =>
q_pt w_107 2 15 (v_110 + (1 : Int32)) (fun w_116 =>
some (v_110, w_116)))))))))))))
else
some ((-4 : Int32), w))
set_option maxRecDepth 100000 in
set_option maxHeartbeats 4000000 in
theorem c_X8_addSlope (l : Launch) (D : va_G) (cT : Nat → ClassId) (lo : Nat) (w : Wd) (ad0 : Nat → Nat) (a1 : Int32) (a2 : Int32) (a3 : Int32) (a4 : Int32) (a5 : Int32) (a6 : Int32) (a7 : Int32) (r : Int32) (w9 : Wd) (h : f_X8_addSlope w a1 a2 a3 a4 a5 a6 a7 = some (r, w9)) : Met l yX8_addSlope (.code yX8_addSlope cX8_addSlope 8 (some .int) :: TW) { frames := 2, cells := 1, slots := 4, locals := 45 } (mPc D cT lo NB w ad0 [.ref (ad0 2), .int a1, .int a2, .int a3, .int a4, .int a5, .int a6, .int a7]) (mQA D cT lo NB w w9 ad0 (some (.int r))) 1 4 (fun q => lo ≤ q) := by
  unfold f_X8_addSlope at h
  refine x_met (lv := [(0, .ref (ad0 2)), (1, .int a1), (2, .int a2), (3, .int a3), (4, .int a4), (5, .int a5), (6, .int a6), (7, .int a7)]) (by decide +kernel) (Nat.le_of_ble_eq_true rfl) rfl ?_
  intro p e s m args below meth c ls F hr hlk hP hin hl
  have hx := F.1
  have hb := F.2.1
  have hS : va_S (fun q => lo ≤ q) s.heap s.heap [] := va_S.rf
  have hM_w : mono w w := mono.refl
  have hXA : ∀ k, wA w k ≠ 0 → ad0 k = ad0 k := fun _ _ => rfl
  refine lv_iload_n F.1 F.2.1 dX8_addSlope_0 rfl (lv_at hl 1 rfl) ?_
  refine lv_iload_n F.1 F.2.1 dX8_addSlope_1 rfl (lv_at hl 2 rfl) ?_
  refine lv_iload_n F.1 F.2.1 dX8_addSlope_2 rfl (lv_at hl 3 rfl) ?_
  refine lv_iload F.1 F.2.1 dX8_addSlope_3 (lv_at hl 4 rfl) ?_
  refine x_goesZ (x_runSN (As := [.int a1, .int a2, .int a3, .int a4]) (rest := []) F hP hS (c_X11_isBox l D cT lo NB w ad0 a1 a2 a3 a4) cw_X11_isBox nl_X8_52 st_X11_isBox ⟨rfl, rfl, Nat.le_of_ble_eq_true rfl, Nat.le_of_ble_eq_true rfl⟩ hl.1 rfl (Nat.le_of_ble_eq_true rfl) dX8_addSlope_5 ⟨Nat.le_of_ble_eq_true rfl, Nat.le_of_ble_eq_true rfl⟩) hS (fun H locs hz_5 hP hS _ => ?_)
  refine lv_if_eq (tgt := 39) F.1 F.2.1 dX8_addSlope_8 (by decide) (fun hc => ?_) (fun hc => ?_)
  · have h := if_t _ hc h
    refine lv_bipush (v := -2) F.1 F.2.1 dX8_addSlope_39 ib_m2 ?_
    refine W.widen (k := 1) (n := 4) (Nat.le_of_ble_eq_true rfl) (Nat.le_of_ble_eq_true rfl) ?_
    exact y_iretA h F hXA hr hP hS mono.refl hlk dX8_addSlope_41
  · have h := if_f _ hc h
    refine lv_iload F.1 F.2.1 dX8_addSlope_11 (lv_at hl 5 rfl) ?_
    refine lv_sipush (v := -200) F.1 F.2.1 dX8_addSlope_13 is_m200 ?_
    refine lv_sipush (v := 200) F.1 F.2.1 dX8_addSlope_16 is_200 ?_
    refine x_goesZ (x_runSN (As := [.int a5, .int (-200 : Int32), .int (200 : Int32)]) (rest := []) F hP hS (c_X11_within l D cT lo NB w ad0 a5 (-200 : Int32) (200 : Int32)) cw_X11_within nl_X8_56 st_X11_within ⟨rfl, rfl, Nat.le_of_ble_eq_true rfl, Nat.le_of_ble_eq_true rfl⟩ hl.1 rfl (Nat.le_of_ble_eq_true rfl) dX8_addSlope_19 ⟨Nat.le_of_ble_eq_true rfl, Nat.le_of_ble_eq_true rfl⟩) hS (fun H locs hz_19 hP hS _ => ?_)
    refine lv_if_eq (tgt := 39) F.1 F.2.1 dX8_addSlope_22 (by decide) (fun hc => ?_) (fun hc => ?_)
    · have h := if_t _ hc h
      refine lv_bipush (v := -2) F.1 F.2.1 dX8_addSlope_39 ib_m2 ?_
      refine W.widen (k := 1) (n := 4) (Nat.le_of_ble_eq_true rfl) (Nat.le_of_ble_eq_true rfl) ?_
      exact y_iretA h F hXA hr hP hS mono.refl hlk dX8_addSlope_41
    · have h := if_f _ hc h
      refine lv_iload F.1 F.2.1 dX8_addSlope_25 (lv_at hl 6 rfl) ?_
      refine lv_sipush (v := -200) F.1 F.2.1 dX8_addSlope_27 is_m200 ?_
      refine lv_sipush (v := 200) F.1 F.2.1 dX8_addSlope_30 is_200 ?_
      refine x_goesZ (x_runSN (As := [.int a6, .int (-200 : Int32), .int (200 : Int32)]) (rest := []) F hP hS (c_X11_within l D cT lo NB w ad0 a6 (-200 : Int32) (200 : Int32)) cw_X11_within nl_X8_56 st_X11_within ⟨rfl, rfl, Nat.le_of_ble_eq_true rfl, Nat.le_of_ble_eq_true rfl⟩ hl.1 rfl (Nat.le_of_ble_eq_true rfl) dX8_addSlope_33 ⟨Nat.le_of_ble_eq_true rfl, Nat.le_of_ble_eq_true rfl⟩) hS (fun H locs hz_33 hP hS _ => ?_)
      refine lv_if_ne (tgt := 42) F.1 F.2.1 dX8_addSlope_36 (by decide) (fun hc => ?_) (fun hc => ?_)
      · have h := if_f _ hc h
        refine lv_aload_n F.1 F.2.1 dX8_addSlope_42 rfl (lv_at hl 0 rfl) ?_
        refine y_geti h F hP k_2 (n2 (hP.al 2 rfl)) fl_X8_73 rfl dX8_addSlope_43 (fun v_43 h => ?_)
        refine lv_bipush (v := 10) F.1 F.2.1 dX8_addSlope_46 ib_10 ?_
        refine lv_icmp_lt (tgt := 54) F.1 F.2.1 dX8_addSlope_48 (by decide) (fun hc => ?_) (fun hc => ?_)
        · have h := if_t _ hc h
          refine lv_aload_n F.1 F.2.1 dX8_addSlope_54 rfl (lv_at hl 0 rfl) ?_
          refine x_getr F hP k_2 (hP.al 2 rfl) fl_X8_40 rfl r_2_11 dX8_addSlope_55 ?_
          refine lv_aload_n F.1 F.2.1 dX8_addSlope_58 rfl (lv_at hl 0 rfl) ?_
          refine y_geti h F hP k_2 (n2 (hP.al 2 rfl)) fl_X8_73 rfl dX8_addSlope_59 (fun v_59 h => ?_)
          refine y_new (k := (rt 18 (v_59).toNatClampNeg)) (ci := 0) h F hP hS cl_X8_11 ib_X0 ini_X0 rfl inw_X0 tyX0_ok ftD_0 (Or.inr ⟨rfl, ftZ_0⟩) (Nat.le_of_ble_eq_true rfl) (Nat.le_of_ble_eq_true rfl) dX8_addSlope_62 (fun w_62 ad H hm ha_rt_18_v_59_toNatClampNeg hk_rt_18_v_59_toNatClampNeg hx h hP' hS => ?_)
          have e9 := hx 2 (n2 (hP.al 2 rfl))
          try rw [← e9] at hl
          try rw [← e9]
          have e9 := hx 18 (n2 (hP.al 18 rfl))
          try rw [← e9] at hl
          try rw [← e9]
          have hP := hP'
          have hXA : ∀ k, wA w k ≠ 0 → ad k = ad0 k := fun k hk => (hx k (hM_w.1 k hk)).trans (hXA k hk)
          have hM_w := hm
          refine lv_dup F.1 F.2.1 dX8_addSlope_65 rfl ?_
          refine lv_iload_n F.1 F.2.1 dX8_addSlope_66 rfl (lv_at hl 1 rfl) ?_
          refine lv_iload_n F.1 F.2.1 dX8_addSlope_67 rfl (lv_at hl 2 rfl) ?_
          refine lv_iload_n F.1 F.2.1 dX8_addSlope_68 rfl (lv_at hl 3 rfl) ?_
          refine lv_iload F.1 F.2.1 dX8_addSlope_69 (lv_at hl 4 rfl) ?_
          obtain ⟨w_71, hc_71, h⟩ := bo_s h
          refine x_goes (x_runI (As := [.int a1, .int a2, .int a3, .int a4]) (rest := [.ref (ad (rt 18 (v_59).toNatClampNeg)), .int v_59, .ref (ad 18)]) F hP hS (c_X0_init l D cT lo NB w_62 ad (rt 18 (v_59).toNatClampNeg) hk_rt_18_v_59_toNatClampNeg ha_rt_18_v_59_toNatClampNeg a1 a2 a3 a4 w_71 hc_71) cw_X0_init lk_X8_64 rfl ii_X0_init ⟨rfl, rfl, Nat.le_of_ble_eq_true rfl, Nat.le_of_ble_eq_true rfl⟩ hl.1 rfl (Nat.le_of_ble_eq_true rfl) dX8_addSlope_71 ⟨Nat.le_of_ble_eq_true rfl, Nat.le_of_ble_eq_true rfl⟩) hS (fun H locs hP hS hm => ?_)
          have hM_w := hM_w.trans hm
          have ha_rt_18_v_59_toNatClampNeg := hm.2 _ ha_rt_18_v_59_toNatClampNeg
          refine y_aast (ci' := 0) (C := RX0) (T := TX0) (N := 4) (t0 := 3) h F hP hS k_18 (by decide) (by decide) (n2 (hP.al 18 rfl)) hk_rt_18_v_59_toNatClampNeg ha_rt_18_v_59_toNatClampNeg rfl rfl rfl dX8_addSlope_74 (fun w_74 H locs hm h hP hS => ?_)
          have hM_w := hM_w.trans hm
          have ha_rt_18_v_59_toNatClampNeg := hm.2 _ ha_rt_18_v_59_toNatClampNeg
          refine lv_aload_n F.1 F.2.1 dX8_addSlope_75 rfl (lv_at hl 0 rfl) ?_
          refine x_getr F hP k_2 (hP.al 2 rfl) fl_X8_43 rfl r_2_12 dX8_addSlope_76 ?_
          refine lv_aload_n F.1 F.2.1 dX8_addSlope_79 rfl (lv_at hl 0 rfl) ?_
          refine y_geti h F hP k_2 (n2 (hP.al 2 rfl)) fl_X8_73 rfl dX8_addSlope_80 (fun v_80 h => ?_)
          refine lv_iload F.1 F.2.1 dX8_addSlope_83 (lv_at hl 5 rfl) ?_
          refine y_iast h F hP hS k_19 (n2 (hP.al 19 rfl)) dX8_addSlope_85 (fun w_85 H locs hm h hP hS => ?_)
          have hM_w := hM_w.trans hm
          have ha_rt_18_v_59_toNatClampNeg := hm.2 _ ha_rt_18_v_59_toNatClampNeg
          refine lv_aload_n F.1 F.2.1 dX8_addSlope_86 rfl (lv_at hl 0 rfl) ?_
          refine x_getr F hP k_2 (hP.al 2 rfl) fl_X8_46 rfl r_2_13 dX8_addSlope_87 ?_
          refine lv_aload_n F.1 F.2.1 dX8_addSlope_90 rfl (lv_at hl 0 rfl) ?_
          refine y_geti h F hP k_2 (n2 (hP.al 2 rfl)) fl_X8_73 rfl dX8_addSlope_91 (fun v_91 h => ?_)
          refine lv_iload F.1 F.2.1 dX8_addSlope_94 (lv_at hl 6 rfl) ?_
          refine y_iast h F hP hS k_20 (n2 (hP.al 20 rfl)) dX8_addSlope_96 (fun w_96 H locs hm h hP hS => ?_)
          have hM_w := hM_w.trans hm
          have ha_rt_18_v_59_toNatClampNeg := hm.2 _ ha_rt_18_v_59_toNatClampNeg
          refine lv_aload_n F.1 F.2.1 dX8_addSlope_97 rfl (lv_at hl 0 rfl) ?_
          refine x_getr F hP k_2 (hP.al 2 rfl) fl_X8_49 rfl r_2_14 dX8_addSlope_98 ?_
          refine lv_aload_n F.1 F.2.1 dX8_addSlope_101 rfl (lv_at hl 0 rfl) ?_
          refine y_geti h F hP k_2 (n2 (hP.al 2 rfl)) fl_X8_73 rfl dX8_addSlope_102 (fun v_102 h => ?_)
          refine lv_iload F.1 F.2.1 dX8_addSlope_105 (lv_at hl 7 rfl) ?_
          refine y_zast h F hP hS k_21 (n2 (hP.al 21 rfl)) dX8_addSlope_107 (fun w_107 H locs hm h hP hS => ?_)
          have hM_w := hM_w.trans hm
          have ha_rt_18_v_59_toNatClampNeg := hm.2 _ ha_rt_18_v_59_toNatClampNeg
          refine lv_aload_n F.1 F.2.1 dX8_addSlope_108 rfl (lv_at hl 0 rfl) ?_
          refine lv_dup F.1 F.2.1 dX8_addSlope_109 rfl ?_
          refine y_geti h F hP k_2 (n2 (hP.al 2 rfl)) fl_X8_73 rfl dX8_addSlope_110 (fun v_110 h => ?_)
          refine lv_dup_x1 F.1 F.2.1 dX8_addSlope_113 rfl rfl ?_
          refine lv_iconst (v := 1) F.1 F.2.1 dX8_addSlope_114 ic_1 ?_
          refine lv_iadd F.1 F.2.1 dX8_addSlope_115 ?_
          refine y_puti h F hP hS k_2 (n2 (hP.al 2 rfl)) fl_X8_73 rfl dX8_addSlope_116 (fun w_116 H locs hm h hP hS => ?_)
          have hM_w := hM_w.trans hm
          have ha_rt_18_v_59_toNatClampNeg := hm.2 _ ha_rt_18_v_59_toNatClampNeg
          refine W.widen (k := 1) (n := 4) (Nat.le_of_ble_eq_true rfl) (Nat.le_of_ble_eq_true rfl) ?_
          exact y_iretA h F hXA hr hP hS hM_w hlk dX8_addSlope_119
        · have h := if_f _ hc h
          refine lv_bipush (v := -4) F.1 F.2.1 dX8_addSlope_51 ib_m4 ?_
          refine W.widen (k := 1) (n := 4) (Nat.le_of_ble_eq_true rfl) (Nat.le_of_ble_eq_true rfl) ?_
          exact y_iretA h F hXA hr hP hS mono.refl hlk dX8_addSlope_53
      · have h := if_t _ hc h
        refine lv_bipush (v := -2) F.1 F.2.1 dX8_addSlope_39 ib_m2 ?_
        refine W.widen (k := 1) (n := 4) (Nat.le_of_ble_eq_true rfl) (Nat.le_of_ble_eq_true rfl) ?_
        exact y_iretA h F hXA hr hP hS mono.refl hlk dX8_addSlope_41
def f_X9_init (w : Wd) : Option Wd :=
q_nw w 50 (1, 12) 2 (fun w_7 =>
q_pt w_7 7 0 1 (fun w_9 =>
q_nw w_9 51 (1, 12) 2 (fun w_15 =>
q_pt w_15 7 1 1 (fun w_17 =>
q_pt w_17 7 3 (1 : Int32) (fun w_22 =>
q_nw w_22 52 (1, 12) 2 (fun w_28 =>
q_pt w_28 7 4 1 (fun w_30 =>
q_nw w_30 53 (2, 12) 2 (fun w_36 =>
q_pt w_36 7 5 1 (fun w_38 =>
q_nw w_38 54 (1, 4) 2 (fun w_43 =>
q_pt w_43 7 6 1 (fun w_45 =>
q_rd w_45 7 9 7 (fun w_r48 =>
some w_r48))))))))))))
set_option maxRecDepth 100000 in
set_option maxHeartbeats 4000000 in
theorem c_X9_init (l : Launch) (D : va_G) (cT : Nat → ClassId) (lo nb : Nat) (w : Wd) (ad0 : Nat → Nat) (ha0 : wA w 7 = 1) (w9 : Wd) (h : f_X9_init w = some w9) : Met l yX9_init (.code yX9_init cX9_init 1 none :: TW) { frames := 1, cells := 5, slots := 52, locals := 20 } (mPc D cT lo nb w ad0 [.ref (ad0 7)]) (mQA D cT lo nb w w9 ad0 none) 5 52 (fun q => lo ≤ q) := by
  unfold f_X9_init at h
  have hn_7 : wA w 7 ≠ 0 := by rw [ha0]; decide
  refine x_met (lv := [(0, .ref (ad0 7))]) (by decide +kernel) (Nat.le_of_ble_eq_true rfl) rfl ?_
  intro p e s m args below meth c ls F hr hlk hP hin hl
  have hx := F.1
  have hb := F.2.1
  have hS : va_S (fun q => lo ≤ q) s.heap s.heap [] := va_S.rf
  have hM_w : mono w w := mono.refl
  have hXA : ∀ k, wA w k ≠ 0 → ad0 k = ad0 k := fun _ _ => rfl
  refine lv_aload_n F.1 F.2.1 dX9_init_0 rfl (lv_at hl 0 rfl) ?_
  refine y_obj F lk_X9_3 vi_obj cd_obj hl.1 dX9_init_1 ⟨Nat.le_of_ble_eq_true rfl, Nat.le_of_ble_eq_true rfl⟩ ?_
  refine lv_aload_n F.1 F.2.1 dX9_init_4 rfl (lv_at hl 0 rfl) ?_
  refine lv_bipush (v := 12) F.1 F.2.1 dX9_init_5 ib_12 ?_
  refine y_newi (k := 50) h F hP hS ac_int (by decide) (by decide) (by decide) (Nat.le_of_ble_eq_true rfl) (Nat.le_of_ble_eq_true rfl) dX9_init_7 (fun w_7 ad H hm ha_50 _ hx h hP' hS => ?_)
  have e9 := hx 7 hn_7
  try rw [← e9] at hl
  try rw [← e9]
  have hP := hP'
  have hXA : ∀ k, wA w k ≠ 0 → ad k = ad0 k := fun k hk => (hx k (hM_w.1 k hk)).trans (hXA k hk)
  have hM_w := hm
  have hn_7 := hm.1 _ hn_7
  refine y_putFr h F hP hS k_7 hn_7 fl_X9_11 hin rfl rfl r_7_0 ha_50 (Or.inr ⟨_, rfl⟩) dX9_init_9 (fun w_9 H locs hm h hP hS => ?_)
  have hM_w := hM_w.trans hm
  have hn_7 := hm.1 _ hn_7
  have ha_50 := hm.2 _ ha_50
  refine lv_aload_n F.1 F.2.1 dX9_init_12 rfl (lv_at hl 0 rfl) ?_
  refine lv_bipush (v := 12) F.1 F.2.1 dX9_init_13 ib_12 ?_
  refine y_newi (k := 51) h F hP hS ac_int (by decide) (by decide) (by decide) (Nat.le_of_ble_eq_true rfl) (Nat.le_of_ble_eq_true rfl) dX9_init_15 (fun w_15 ad H hm ha_51 _ hx h hP' hS => ?_)
  have e9 := hx 7 hn_7
  try rw [← e9] at hl
  try rw [← e9]
  have hP := hP'
  have hXA : ∀ k, wA w k ≠ 0 → ad k = ad0 k := fun k hk => (hx k (hM_w.1 k hk)).trans (hXA k hk)
  have hM_w := hM_w.trans hm
  have hn_7 := hm.1 _ hn_7
  have ha_50 := hm.2 _ ha_50
  refine y_putFr h F hP hS k_7 hn_7 fl_X9_15 hin rfl rfl r_7_1 ha_51 (Or.inr ⟨_, rfl⟩) dX9_init_17 (fun w_17 H locs hm h hP hS => ?_)
  have hM_w := hM_w.trans hm
  have hn_7 := hm.1 _ hn_7
  have ha_50 := hm.2 _ ha_50
  have ha_51 := hm.2 _ ha_51
  refine lv_aload_n F.1 F.2.1 dX9_init_20 rfl (lv_at hl 0 rfl) ?_
  refine lv_iconst (v := 1) F.1 F.2.1 dX9_init_21 ic_1 ?_
  refine y_puti h F hP hS k_7 hn_7 fl_X9_18 rfl dX9_init_22 (fun w_22 H locs hm h hP hS => ?_)
  have hM_w := hM_w.trans hm
  have hn_7 := hm.1 _ hn_7
  have ha_50 := hm.2 _ ha_50
  have ha_51 := hm.2 _ ha_51
  refine lv_aload_n F.1 F.2.1 dX9_init_25 rfl (lv_at hl 0 rfl) ?_
  refine lv_bipush (v := 12) F.1 F.2.1 dX9_init_26 ib_12 ?_
  refine y_newi (k := 52) h F hP hS ac_int (by decide) (by decide) (by decide) (Nat.le_of_ble_eq_true rfl) (Nat.le_of_ble_eq_true rfl) dX9_init_28 (fun w_28 ad H hm ha_52 _ hx h hP' hS => ?_)
  have e9 := hx 7 hn_7
  try rw [← e9] at hl
  try rw [← e9]
  have hP := hP'
  have hXA : ∀ k, wA w k ≠ 0 → ad k = ad0 k := fun k hk => (hx k (hM_w.1 k hk)).trans (hXA k hk)
  have hM_w := hM_w.trans hm
  have hn_7 := hm.1 _ hn_7
  have ha_50 := hm.2 _ ha_50
  have ha_51 := hm.2 _ ha_51
  refine y_putFr h F hP hS k_7 hn_7 fl_X9_22 hin rfl rfl r_7_4 ha_52 (Or.inr ⟨_, rfl⟩) dX9_init_30 (fun w_30 H locs hm h hP hS => ?_)
  have hM_w := hM_w.trans hm
  have hn_7 := hm.1 _ hn_7
  have ha_50 := hm.2 _ ha_50
  have ha_51 := hm.2 _ ha_51
  have ha_52 := hm.2 _ ha_52
  refine lv_aload_n F.1 F.2.1 dX9_init_33 rfl (lv_at hl 0 rfl) ?_
  refine lv_bipush (v := 12) F.1 F.2.1 dX9_init_34 ib_12 ?_
  refine y_newz (k := 53) h F hP hS ac_boolean (by decide) (by decide) (by decide) (Nat.le_of_ble_eq_true rfl) (Nat.le_of_ble_eq_true rfl) dX9_init_36 (fun w_36 ad H hm ha_53 _ hx h hP' hS => ?_)
  have e9 := hx 7 hn_7
  try rw [← e9] at hl
  try rw [← e9]
  have hP := hP'
  have hXA : ∀ k, wA w k ≠ 0 → ad k = ad0 k := fun k hk => (hx k (hM_w.1 k hk)).trans (hXA k hk)
  have hM_w := hM_w.trans hm
  have hn_7 := hm.1 _ hn_7
  have ha_50 := hm.2 _ ha_50
  have ha_51 := hm.2 _ ha_51
  have ha_52 := hm.2 _ ha_52
  refine y_putFr h F hP hS k_7 hn_7 fl_X9_25 hin rfl rfl r_7_5 ha_53 (Or.inr ⟨_, rfl⟩) dX9_init_38 (fun w_38 H locs hm h hP hS => ?_)
  have hM_w := hM_w.trans hm
  have hn_7 := hm.1 _ hn_7
  have ha_50 := hm.2 _ ha_50
  have ha_51 := hm.2 _ ha_51
  have ha_52 := hm.2 _ ha_52
  have ha_53 := hm.2 _ ha_53
  refine lv_aload_n F.1 F.2.1 dX9_init_41 rfl (lv_at hl 0 rfl) ?_
  refine lv_iconst (v := 4) F.1 F.2.1 dX9_init_42 ic_4 ?_
  refine y_newi (k := 54) h F hP hS ac_int (by decide) (by decide) (by decide) (Nat.le_of_ble_eq_true rfl) (Nat.le_of_ble_eq_true rfl) dX9_init_43 (fun w_43 ad H hm ha_54 _ hx h hP' hS => ?_)
  have e9 := hx 7 hn_7
  try rw [← e9] at hl
  try rw [← e9]
  have hP := hP'
  have hXA : ∀ k, wA w k ≠ 0 → ad k = ad0 k := fun k hk => (hx k (hM_w.1 k hk)).trans (hXA k hk)
  have hM_w := hM_w.trans hm
  have hn_7 := hm.1 _ hn_7
  have ha_50 := hm.2 _ ha_50
  have ha_51 := hm.2 _ ha_51
  have ha_52 := hm.2 _ ha_52
  have ha_53 := hm.2 _ ha_53
  refine y_putFr h F hP hS k_7 hn_7 fl_X9_29 hin rfl rfl r_7_6 ha_54 (Or.inr ⟨_, rfl⟩) dX9_init_45 (fun w_45 H locs hm h hP hS => ?_)
  have hM_w := hM_w.trans hm
  have hn_7 := hm.1 _ hn_7
  have ha_50 := hm.2 _ ha_50
  have ha_51 := hm.2 _ ha_51
  have ha_52 := hm.2 _ ha_52
  have ha_53 := hm.2 _ ha_53
  have ha_54 := hm.2 _ ha_54
  refine y_ready h hP k_7 ftN_9 (fun w_r48 hm _ h hP => ?_)
  have hM_w := hM_w.trans hm
  refine W.widen (k := 5) (n := 52) (Nat.le_of_ble_eq_true rfl) (Nat.le_of_ble_eq_true rfl) ?_
  exact y_vretA h F hXA hr hP hS hM_w hlk dX9_init_48
def f_X10_init (w : Wd) : Option Wd :=
q_nw w 24 (3, 1500) 2 (fun w_8 =>
q_pt w_8 4 1 1 (fun w_10 =>
q_nw w_10 25 (1, 1500) 2 (fun w_17 =>
q_pt w_17 4 2 1 (fun w_19 =>
q_nw w_19 26 (1, 1500) 2 (fun w_26 =>
q_pt w_26 4 3 1 (fun w_28 =>
q_nw w_28 27 (1, 1024) 2 (fun w_35 =>
q_pt w_35 4 4 1 (fun w_37 =>
q_nw w_37 28 (1, 12) 2 (fun w_43 =>
q_pt w_43 4 6 1 (fun w_45 =>
q_pt w_45 4 0 1 (fun w_50 =>
q_rd w_50 4 10 11 (fun w_r53 =>
some w_r53))))))))))))
set_option maxRecDepth 100000 in
set_option maxHeartbeats 4000000 in
theorem c_X10_init (l : Launch) (D : va_G) (cT : Nat → ClassId) (lo nb : Nat) (w : Wd) (ad0 : Nat → Nat) (ha0 : wA w 4 = 1) (ha1 : wA w 3 = 2) (w9 : Wd) (h : f_X10_init w = some w9) : Met l yX10_init (.code yX10_init cX10_init 2 none :: TW) { frames := 1, cells := 5, slots := 5536, locals := 20 } (mPc D cT lo nb w ad0 [.ref (ad0 4), .ref (ad0 3)]) (mQA D cT lo nb w w9 ad0 none) 5 5536 (fun q => lo ≤ q) := by
  unfold f_X10_init at h
  have hn_4 : wA w 4 ≠ 0 := by rw [ha0]; decide
  refine x_met (lv := [(0, .ref (ad0 4)), (1, .ref (ad0 3))]) (by decide +kernel) (Nat.le_of_ble_eq_true rfl) rfl ?_
  intro p e s m args below meth c ls F hr hlk hP hin hl
  have hx := F.1
  have hb := F.2.1
  have hS : va_S (fun q => lo ≤ q) s.heap s.heap [] := va_S.rf
  have hM_w : mono w w := mono.refl
  have hXA : ∀ k, wA w k ≠ 0 → ad0 k = ad0 k := fun _ _ => rfl
  refine lv_aload_n F.1 F.2.1 dX10_init_0 rfl (lv_at hl 0 rfl) ?_
  refine y_obj F lk_X10_3 vi_obj cd_obj hl.1 dX10_init_1 ⟨Nat.le_of_ble_eq_true rfl, Nat.le_of_ble_eq_true rfl⟩ ?_
  refine lv_aload_n F.1 F.2.1 dX10_init_4 rfl (lv_at hl 0 rfl) ?_
  refine lv_sipush (v := 1500) F.1 F.2.1 dX10_init_5 is_1500 ?_
  refine y_newl (k := 24) h F hP hS ac_long (by decide) (by decide) (by decide) (Nat.le_of_ble_eq_true rfl) (Nat.le_of_ble_eq_true rfl) dX10_init_8 (fun w_8 ad H hm ha_24 _ hx h hP' hS => ?_)
  have e9 := hx 4 hn_4
  try rw [← e9] at hl
  try rw [← e9]
  have e9 := hx 3 (n2 ha1)
  try rw [← e9] at hl
  try rw [← e9]
  have hP := hP'
  have hXA : ∀ k, wA w k ≠ 0 → ad k = ad0 k := fun k hk => (hx k (hM_w.1 k hk)).trans (hXA k hk)
  have hM_w := hm
  have hn_4 := hm.1 _ hn_4
  have ha1 := hm.2 _ ha1
  refine y_putFr h F hP hS k_4 hn_4 fl_X10_11 hin rfl rfl r_4_1 ha_24 (Or.inr ⟨_, rfl⟩) dX10_init_10 (fun w_10 H locs hm h hP hS => ?_)
  have hM_w := hM_w.trans hm
  have hn_4 := hm.1 _ hn_4
  have ha1 := hm.2 _ ha1
  have ha_24 := hm.2 _ ha_24
  refine lv_aload_n F.1 F.2.1 dX10_init_13 rfl (lv_at hl 0 rfl) ?_
  refine lv_sipush (v := 1500) F.1 F.2.1 dX10_init_14 is_1500 ?_
  refine y_newi (k := 25) h F hP hS ac_int (by decide) (by decide) (by decide) (Nat.le_of_ble_eq_true rfl) (Nat.le_of_ble_eq_true rfl) dX10_init_17 (fun w_17 ad H hm ha_25 _ hx h hP' hS => ?_)
  have e9 := hx 4 hn_4
  try rw [← e9] at hl
  try rw [← e9]
  have e9 := hx 3 (n2 ha1)
  try rw [← e9] at hl
  try rw [← e9]
  have hP := hP'
  have hXA : ∀ k, wA w k ≠ 0 → ad k = ad0 k := fun k hk => (hx k (hM_w.1 k hk)).trans (hXA k hk)
  have hM_w := hM_w.trans hm
  have hn_4 := hm.1 _ hn_4
  have ha1 := hm.2 _ ha1
  have ha_24 := hm.2 _ ha_24
  refine y_putFr h F hP hS k_4 hn_4 fl_X10_15 hin rfl rfl r_4_2 ha_25 (Or.inr ⟨_, rfl⟩) dX10_init_19 (fun w_19 H locs hm h hP hS => ?_)
  have hM_w := hM_w.trans hm
  have hn_4 := hm.1 _ hn_4
  have ha1 := hm.2 _ ha1
  have ha_24 := hm.2 _ ha_24
  have ha_25 := hm.2 _ ha_25
  refine lv_aload_n F.1 F.2.1 dX10_init_22 rfl (lv_at hl 0 rfl) ?_
  refine lv_sipush (v := 1500) F.1 F.2.1 dX10_init_23 is_1500 ?_
  refine y_newi (k := 26) h F hP hS ac_int (by decide) (by decide) (by decide) (Nat.le_of_ble_eq_true rfl) (Nat.le_of_ble_eq_true rfl) dX10_init_26 (fun w_26 ad H hm ha_26 _ hx h hP' hS => ?_)
  have e9 := hx 4 hn_4
  try rw [← e9] at hl
  try rw [← e9]
  have e9 := hx 3 (n2 ha1)
  try rw [← e9] at hl
  try rw [← e9]
  have hP := hP'
  have hXA : ∀ k, wA w k ≠ 0 → ad k = ad0 k := fun k hk => (hx k (hM_w.1 k hk)).trans (hXA k hk)
  have hM_w := hM_w.trans hm
  have hn_4 := hm.1 _ hn_4
  have ha1 := hm.2 _ ha1
  have ha_24 := hm.2 _ ha_24
  have ha_25 := hm.2 _ ha_25
  refine y_putFr h F hP hS k_4 hn_4 fl_X10_19 hin rfl rfl r_4_3 ha_26 (Or.inr ⟨_, rfl⟩) dX10_init_28 (fun w_28 H locs hm h hP hS => ?_)
  have hM_w := hM_w.trans hm
  have hn_4 := hm.1 _ hn_4
  have ha1 := hm.2 _ ha1
  have ha_24 := hm.2 _ ha_24
  have ha_25 := hm.2 _ ha_25
  have ha_26 := hm.2 _ ha_26
  refine lv_aload_n F.1 F.2.1 dX10_init_31 rfl (lv_at hl 0 rfl) ?_
  refine lv_sipush (v := 1024) F.1 F.2.1 dX10_init_32 is_1024 ?_
  refine y_newi (k := 27) h F hP hS ac_int (by decide) (by decide) (by decide) (Nat.le_of_ble_eq_true rfl) (Nat.le_of_ble_eq_true rfl) dX10_init_35 (fun w_35 ad H hm ha_27 _ hx h hP' hS => ?_)
  have e9 := hx 4 hn_4
  try rw [← e9] at hl
  try rw [← e9]
  have e9 := hx 3 (n2 ha1)
  try rw [← e9] at hl
  try rw [← e9]
  have hP := hP'
  have hXA : ∀ k, wA w k ≠ 0 → ad k = ad0 k := fun k hk => (hx k (hM_w.1 k hk)).trans (hXA k hk)
  have hM_w := hM_w.trans hm
  have hn_4 := hm.1 _ hn_4
  have ha1 := hm.2 _ ha1
  have ha_24 := hm.2 _ ha_24
  have ha_25 := hm.2 _ ha_25
  have ha_26 := hm.2 _ ha_26
  refine y_putFr h F hP hS k_4 hn_4 fl_X10_22 hin rfl rfl r_4_4 ha_27 (Or.inr ⟨_, rfl⟩) dX10_init_37 (fun w_37 H locs hm h hP hS => ?_)
  have hM_w := hM_w.trans hm
  have hn_4 := hm.1 _ hn_4
  have ha1 := hm.2 _ ha1
  have ha_24 := hm.2 _ ha_24
  have ha_25 := hm.2 _ ha_25
  have ha_26 := hm.2 _ ha_26
  have ha_27 := hm.2 _ ha_27
  refine lv_aload_n F.1 F.2.1 dX10_init_40 rfl (lv_at hl 0 rfl) ?_
  refine lv_bipush (v := 12) F.1 F.2.1 dX10_init_41 ib_12 ?_
  refine y_newi (k := 28) h F hP hS ac_int (by decide) (by decide) (by decide) (Nat.le_of_ble_eq_true rfl) (Nat.le_of_ble_eq_true rfl) dX10_init_43 (fun w_43 ad H hm ha_28 _ hx h hP' hS => ?_)
  have e9 := hx 4 hn_4
  try rw [← e9] at hl
  try rw [← e9]
  have e9 := hx 3 (n2 ha1)
  try rw [← e9] at hl
  try rw [← e9]
  have hP := hP'
  have hXA : ∀ k, wA w k ≠ 0 → ad k = ad0 k := fun k hk => (hx k (hM_w.1 k hk)).trans (hXA k hk)
  have hM_w := hM_w.trans hm
  have hn_4 := hm.1 _ hn_4
  have ha1 := hm.2 _ ha1
  have ha_24 := hm.2 _ ha_24
  have ha_25 := hm.2 _ ha_25
  have ha_26 := hm.2 _ ha_26
  have ha_27 := hm.2 _ ha_27
  refine y_putFr h F hP hS k_4 hn_4 fl_X10_25 hin rfl rfl r_4_6 ha_28 (Or.inr ⟨_, rfl⟩) dX10_init_45 (fun w_45 H locs hm h hP hS => ?_)
  have hM_w := hM_w.trans hm
  have hn_4 := hm.1 _ hn_4
  have ha1 := hm.2 _ ha1
  have ha_24 := hm.2 _ ha_24
  have ha_25 := hm.2 _ ha_25
  have ha_26 := hm.2 _ ha_26
  have ha_27 := hm.2 _ ha_27
  have ha_28 := hm.2 _ ha_28
  refine lv_aload_n F.1 F.2.1 dX10_init_48 rfl (lv_at hl 0 rfl) ?_
  refine lv_aload_n F.1 F.2.1 dX10_init_49 rfl (lv_at hl 1 rfl) ?_
  refine y_putFr h F hP hS k_4 hn_4 fl_X10_28 hin rfl rfl r_4_0 ha1 (Or.inl ⟨_, rfl⟩) dX10_init_50 (fun w_50 H locs hm h hP hS => ?_)
  have hM_w := hM_w.trans hm
  have hn_4 := hm.1 _ hn_4
  have ha1 := hm.2 _ ha1
  have ha_24 := hm.2 _ ha_24
  have ha_25 := hm.2 _ ha_25
  have ha_26 := hm.2 _ ha_26
  have ha_27 := hm.2 _ ha_27
  have ha_28 := hm.2 _ ha_28
  refine y_ready h hP k_4 ftN_10 (fun w_r53 hm _ h hP => ?_)
  have hM_w := hM_w.trans hm
  refine W.widen (k := 5) (n := 5536) (Nat.le_of_ble_eq_true rfl) (Nat.le_of_ble_eq_true rfl) ?_
  exact y_vretA h F hXA hr hP hS hM_w hlk dX10_init_53
def f_X11_init (w : Wd) : Option Wd :=
q_nw w 2 (18, 0) 1 (fun w_5 =>
q_bo (f_X8_init w_5) (fun w_9 =>
q_ck w_9 2 2 (
q_pt w_9 1 0 1 (fun w_12 =>
q_nw w_12 3 (13, 0) 1 (fun w_16 =>
q_cr w_16 1 0 (
q_bo (f_X3_init w_16) (fun w_24 =>
q_ck w_24 3 2 (
q_pt w_24 1 1 1 (fun w_27 =>
q_nw w_27 4 (20, 0) 1 (fun w_31 =>
q_cr w_31 1 1 (
q_bo (f_X10_init w_31) (fun w_39 =>
q_ck w_39 4 2 (
q_pt w_39 1 2 1 (fun w_42 =>
q_nw w_42 5 (17, 0) 1 (fun w_46 =>
q_bo (f_X7_init w_46) (fun w_50 =>
q_ck w_50 5 2 (
q_pt w_50 1 3 1 (fun w_53 =>
q_nw w_53 6 (12, 0) 1 (fun w_57 =>
q_bo (f_X2_init w_57) (fun w_61 =>
q_ck w_61 6 2 (
q_pt w_61 1 4 1 (fun w_64 =>
q_nw w_64 7 (19, 0) 1 (fun w_68 =>
q_bo (f_X9_init w_68) (fun w_72 =>
q_ck w_72 7 2 (
q_pt w_72 1 5 1 (fun w_75 =>
q_nw w_75 8 (14, 0) 1 (fun w_79 =>
q_cr w_79 1 0 (
q_cr w_79 1 1 (
q_bo (f_X4_init w_79) (fun w_91 =>
q_ck w_91 8 2 (
q_pt w_91 1 6 1 (fun w_94 =>
q_nw w_94 9 (16, 0) 1 (fun w_98 =>
q_bo (f_X6_init w_98) (fun w_102 =>
q_ck w_102 9 2 (
q_pt w_102 1 7 1 (fun w_105 =>
q_rd w_105 1 11 8 (fun w_r108 =>
some w_r108)))))))))))))))))))))))))))))))))))))
set_option maxRecDepth 100000 in
set_option maxHeartbeats 4000000 in
theorem c_X11_init (l : Launch) (D : va_G) (cT : Nat → ClassId) (lo nb : Nat) (w : Wd) (ad0 : Nat → Nat) (ha0 : wA w 1 = 1) (w9 : Wd) (h : f_X11_init w = some w9) : Met l yX11_init (.code yX11_init cX11_init 1 none :: TW) { frames := 3, cells := 61, slots := 8051, locals := 61 } (mPc D cT lo nb w ad0 [.ref (ad0 1)]) (mQA D cT lo nb w w9 ad0 none) 61 8051 (fun q => lo ≤ q) := by
  unfold f_X11_init at h
  have hn_1 : wA w 1 ≠ 0 := by rw [ha0]; decide
  refine x_met (lv := [(0, .ref (ad0 1))]) (by decide +kernel) (Nat.le_of_ble_eq_true rfl) rfl ?_
  intro p e s m args below meth c ls F hr hlk hP hin hl
  have hx := F.1
  have hb := F.2.1
  have hS : va_S (fun q => lo ≤ q) s.heap s.heap [] := va_S.rf
  have hM_w : mono w w := mono.refl
  have hXA : ∀ k, wA w k ≠ 0 → ad0 k = ad0 k := fun _ _ => rfl
  refine lv_aload_n F.1 F.2.1 dX11_init_0 rfl (lv_at hl 0 rfl) ?_
  refine y_obj F lk_X11_1 vi_obj cd_obj hl.1 dX11_init_1 ⟨Nat.le_of_ble_eq_true rfl, Nat.le_of_ble_eq_true rfl⟩ ?_
  refine lv_aload_n F.1 F.2.1 dX11_init_4 rfl (lv_at hl 0 rfl) ?_
  refine y_new (k := 2) (ci := 8) h F hP hS cl_X11_7 ib_X8 ini_X8 rfl inw_X8 tyX8_ok ftD_8 (Or.inl rfl) (Nat.le_of_ble_eq_true rfl) (Nat.le_of_ble_eq_true rfl) dX11_init_5 (fun w_5 ad H hm hw_2 hk_2 hx h hP' hS => ?_)
  have e9 := hx 1 hn_1
  try rw [← e9] at hl
  try rw [← e9]
  have hP := hP'
  have hXA : ∀ k, wA w k ≠ 0 → ad k = ad0 k := fun k hk => (hx k (hM_w.1 k hk)).trans (hXA k hk)
  have hM_w := hm
  have hn_1 := hm.1 _ hn_1
  have hn_2 : wA w_5 2 ≠ 0 := by rw [hw_2]; decide
  refine lv_dup F.1 F.2.1 dX11_init_8 rfl ?_
  obtain ⟨w_9, hc_9, h⟩ := bo_s h
  refine x_goesA (x_runIN (As := []) (rest := [.ref (ad 2), .ref (ad 1)]) F hP hS (c_X8_init l D cT lo nb w_5 ad hw_2 w_9 hc_9) cw_X8_init nl_X11_9 rfl ii_X8_init ⟨rfl, rfl, Nat.le_of_ble_eq_true rfl, Nat.le_of_ble_eq_true rfl⟩ hl.1 rfl (Nat.le_of_ble_eq_true rfl) dX11_init_9 ⟨Nat.le_of_ble_eq_true rfl, Nat.le_of_ble_eq_true rfl⟩) hS (fun ad H locs hx hP' hS hm => ?_)
  have e9 := hx 1 hn_1
  try rw [← e9] at hl
  try rw [← e9]
  have e9 := hx 2 hn_2
  try rw [← e9] at hl
  try rw [← e9]
  have hP := hP'
  have hXA : ∀ k, wA w k ≠ 0 → ad k = ad0 k := fun k hk => (hx k (hM_w.1 k hk)).trans (hXA k hk)
  have hM_w := hM_w.trans hm
  have hn_1 := hm.1 _ hn_1
  have hn_2 := hm.1 _ hn_2
  obtain ⟨ha_2, h⟩ := ck_s h
  refine y_putFr h F hP hS k_1 hn_1 fl_X11_10 hin rfl rfl r_1_0 ha_2 (Or.inl ⟨_, rfl⟩) dX11_init_12 (fun w_12 H locs hm h hP hS => ?_)
  have hM_w := hM_w.trans hm
  have hn_1 := hm.1 _ hn_1
  have ha_2 := hm.2 _ ha_2
  refine lv_aload_n F.1 F.2.1 dX11_init_15 rfl (lv_at hl 0 rfl) ?_
  refine y_new (k := 3) (ci := 3) h F hP hS cl_X11_16 ib_X3 ini_X3 rfl inw_X3 tyX3_ok ftD_3 (Or.inl rfl) (Nat.le_of_ble_eq_true rfl) (Nat.le_of_ble_eq_true rfl) dX11_init_16 (fun w_16 ad H hm hw_3 hk_3 hx h hP' hS => ?_)
  have e9 := hx 1 hn_1
  try rw [← e9] at hl
  try rw [← e9]
  have hP := hP'
  have hXA : ∀ k, wA w k ≠ 0 → ad k = ad0 k := fun k hk => (hx k (hM_w.1 k hk)).trans (hXA k hk)
  have hM_w := hM_w.trans hm
  have hn_1 := hm.1 _ hn_1
  have ha_2 := hm.2 _ ha_2
  have hn_3 : wA w_16 3 ≠ 0 := by rw [hw_3]; decide
  refine lv_dup F.1 F.2.1 dX11_init_19 rfl ?_
  refine lv_aload_n F.1 F.2.1 dX11_init_20 rfl (lv_at hl 0 rfl) ?_
  refine y_getrS h F hP k_1 hn_1 fl_X11_10 rfl r_1_0 dX11_init_21 (fun ha_2 h => ?_)
  obtain ⟨w_24, hc_24, h⟩ := bo_s h
  refine x_goesA (x_runI (As := [.ref (ad 2)]) (rest := [.ref (ad 3), .ref (ad 1)]) F hP hS (c_X3_init l D cT lo nb w_16 ad hw_3 ha_2 w_24 hc_24) cw_X3_init lk_X11_18 rfl ii_X3_init ⟨rfl, rfl, Nat.le_of_ble_eq_true rfl, Nat.le_of_ble_eq_true rfl⟩ hl.1 rfl (Nat.le_of_ble_eq_true rfl) dX11_init_24 ⟨Nat.le_of_ble_eq_true rfl, Nat.le_of_ble_eq_true rfl⟩) hS (fun ad H locs hx hP' hS hm => ?_)
  have e9 := hx 1 hn_1
  try rw [← e9] at hl
  try rw [← e9]
  have e9 := hx 3 hn_3
  try rw [← e9] at hl
  try rw [← e9]
  have hP := hP'
  have hXA : ∀ k, wA w k ≠ 0 → ad k = ad0 k := fun k hk => (hx k (hM_w.1 k hk)).trans (hXA k hk)
  have hM_w := hM_w.trans hm
  have hn_1 := hm.1 _ hn_1
  have ha_2 := hm.2 _ ha_2
  have hn_3 := hm.1 _ hn_3
  obtain ⟨ha_3, h⟩ := ck_s h
  refine y_putFr h F hP hS k_1 hn_1 fl_X11_21 hin rfl rfl r_1_1 ha_3 (Or.inl ⟨_, rfl⟩) dX11_init_27 (fun w_27 H locs hm h hP hS => ?_)
  have hM_w := hM_w.trans hm
  have hn_1 := hm.1 _ hn_1
  have ha_2 := hm.2 _ ha_2
  have ha_3 := hm.2 _ ha_3
  refine lv_aload_n F.1 F.2.1 dX11_init_30 rfl (lv_at hl 0 rfl) ?_
  refine y_new (k := 4) (ci := 10) h F hP hS cl_X11_25 ib_X10 ini_X10 rfl inw_X10 tyX10_ok ftD_10 (Or.inl rfl) (Nat.le_of_ble_eq_true rfl) (Nat.le_of_ble_eq_true rfl) dX11_init_31 (fun w_31 ad H hm hw_4 hk_4 hx h hP' hS => ?_)
  have e9 := hx 1 hn_1
  try rw [← e9] at hl
  try rw [← e9]
  have hP := hP'
  have hXA : ∀ k, wA w k ≠ 0 → ad k = ad0 k := fun k hk => (hx k (hM_w.1 k hk)).trans (hXA k hk)
  have hM_w := hM_w.trans hm
  have hn_1 := hm.1 _ hn_1
  have ha_2 := hm.2 _ ha_2
  have ha_3 := hm.2 _ ha_3
  have hn_4 : wA w_31 4 ≠ 0 := by rw [hw_4]; decide
  refine lv_dup F.1 F.2.1 dX11_init_34 rfl ?_
  refine lv_aload_n F.1 F.2.1 dX11_init_35 rfl (lv_at hl 0 rfl) ?_
  refine y_getrS h F hP k_1 hn_1 fl_X11_21 rfl r_1_1 dX11_init_36 (fun ha_3 h => ?_)
  obtain ⟨w_39, hc_39, h⟩ := bo_s h
  refine x_goesA (x_runI (As := [.ref (ad 3)]) (rest := [.ref (ad 4), .ref (ad 1)]) F hP hS (c_X10_init l D cT lo nb w_31 ad hw_4 ha_3 w_39 hc_39) cw_X10_init lk_X11_27 rfl ii_X10_init ⟨rfl, rfl, Nat.le_of_ble_eq_true rfl, Nat.le_of_ble_eq_true rfl⟩ hl.1 rfl (Nat.le_of_ble_eq_true rfl) dX11_init_39 ⟨Nat.le_of_ble_eq_true rfl, Nat.le_of_ble_eq_true rfl⟩) hS (fun ad H locs hx hP' hS hm => ?_)
  have e9 := hx 1 hn_1
  try rw [← e9] at hl
  try rw [← e9]
  have e9 := hx 4 hn_4
  try rw [← e9] at hl
  try rw [← e9]
  have hP := hP'
  have hXA : ∀ k, wA w k ≠ 0 → ad k = ad0 k := fun k hk => (hx k (hM_w.1 k hk)).trans (hXA k hk)
  have hM_w := hM_w.trans hm
  have hn_1 := hm.1 _ hn_1
  have ha_2 := hm.2 _ ha_2
  have ha_3 := hm.2 _ ha_3
  have hn_4 := hm.1 _ hn_4
  obtain ⟨ha_4, h⟩ := ck_s h
  refine y_putFr h F hP hS k_1 hn_1 fl_X11_30 hin rfl rfl r_1_2 ha_4 (Or.inl ⟨_, rfl⟩) dX11_init_42 (fun w_42 H locs hm h hP hS => ?_)
  have hM_w := hM_w.trans hm
  have hn_1 := hm.1 _ hn_1
  have ha_2 := hm.2 _ ha_2
  have ha_3 := hm.2 _ ha_3
  have ha_4 := hm.2 _ ha_4
  refine lv_aload_n F.1 F.2.1 dX11_init_45 rfl (lv_at hl 0 rfl) ?_
  refine y_new (k := 5) (ci := 7) h F hP hS cl_X11_34 ib_X7 ini_X7 rfl inw_X7 tyX7_ok ftD_7 (Or.inl rfl) (Nat.le_of_ble_eq_true rfl) (Nat.le_of_ble_eq_true rfl) dX11_init_46 (fun w_46 ad H hm hw_5 hk_5 hx h hP' hS => ?_)
  have e9 := hx 1 hn_1
  try rw [← e9] at hl
  try rw [← e9]
  have hP := hP'
  have hXA : ∀ k, wA w k ≠ 0 → ad k = ad0 k := fun k hk => (hx k (hM_w.1 k hk)).trans (hXA k hk)
  have hM_w := hM_w.trans hm
  have hn_1 := hm.1 _ hn_1
  have ha_2 := hm.2 _ ha_2
  have ha_3 := hm.2 _ ha_3
  have ha_4 := hm.2 _ ha_4
  have hn_5 : wA w_46 5 ≠ 0 := by rw [hw_5]; decide
  refine lv_dup F.1 F.2.1 dX11_init_49 rfl ?_
  obtain ⟨w_50, hc_50, h⟩ := bo_s h
  refine x_goesA (x_runIN (As := []) (rest := [.ref (ad 5), .ref (ad 1)]) F hP hS (c_X7_init l D cT lo nb w_46 ad hw_5 w_50 hc_50) cw_X7_init nl_X11_36 rfl ii_X7_init ⟨rfl, rfl, Nat.le_of_ble_eq_true rfl, Nat.le_of_ble_eq_true rfl⟩ hl.1 rfl (Nat.le_of_ble_eq_true rfl) dX11_init_50 ⟨Nat.le_of_ble_eq_true rfl, Nat.le_of_ble_eq_true rfl⟩) hS (fun ad H locs hx hP' hS hm => ?_)
  have e9 := hx 1 hn_1
  try rw [← e9] at hl
  try rw [← e9]
  have e9 := hx 5 hn_5
  try rw [← e9] at hl
  try rw [← e9]
  have hP := hP'
  have hXA : ∀ k, wA w k ≠ 0 → ad k = ad0 k := fun k hk => (hx k (hM_w.1 k hk)).trans (hXA k hk)
  have hM_w := hM_w.trans hm
  have hn_1 := hm.1 _ hn_1
  have ha_2 := hm.2 _ ha_2
  have ha_3 := hm.2 _ ha_3
  have ha_4 := hm.2 _ ha_4
  have hn_5 := hm.1 _ hn_5
  obtain ⟨ha_5, h⟩ := ck_s h
  refine y_putFr h F hP hS k_1 hn_1 fl_X11_37 hin rfl rfl r_1_3 ha_5 (Or.inl ⟨_, rfl⟩) dX11_init_53 (fun w_53 H locs hm h hP hS => ?_)
  have hM_w := hM_w.trans hm
  have hn_1 := hm.1 _ hn_1
  have ha_2 := hm.2 _ ha_2
  have ha_3 := hm.2 _ ha_3
  have ha_4 := hm.2 _ ha_4
  have ha_5 := hm.2 _ ha_5
  refine lv_aload_n F.1 F.2.1 dX11_init_56 rfl (lv_at hl 0 rfl) ?_
  refine y_new (k := 6) (ci := 2) h F hP hS cl_X11_41 ib_X2 ini_X2 rfl inw_X2 tyX2_ok ftD_2 (Or.inl rfl) (Nat.le_of_ble_eq_true rfl) (Nat.le_of_ble_eq_true rfl) dX11_init_57 (fun w_57 ad H hm hw_6 hk_6 hx h hP' hS => ?_)
  have e9 := hx 1 hn_1
  try rw [← e9] at hl
  try rw [← e9]
  have hP := hP'
  have hXA : ∀ k, wA w k ≠ 0 → ad k = ad0 k := fun k hk => (hx k (hM_w.1 k hk)).trans (hXA k hk)
  have hM_w := hM_w.trans hm
  have hn_1 := hm.1 _ hn_1
  have ha_2 := hm.2 _ ha_2
  have ha_3 := hm.2 _ ha_3
  have ha_4 := hm.2 _ ha_4
  have ha_5 := hm.2 _ ha_5
  have hn_6 : wA w_57 6 ≠ 0 := by rw [hw_6]; decide
  refine lv_dup F.1 F.2.1 dX11_init_60 rfl ?_
  obtain ⟨w_61, hc_61, h⟩ := bo_s h
  refine x_goesA (x_runI (As := []) (rest := [.ref (ad 6), .ref (ad 1)]) F hP hS (c_X2_init l D cT lo nb w_57 ad hw_6 w_61 hc_61) cw_X2_init lk_X11_43 rfl ii_X2_init ⟨rfl, rfl, Nat.le_of_ble_eq_true rfl, Nat.le_of_ble_eq_true rfl⟩ hl.1 rfl (Nat.le_of_ble_eq_true rfl) dX11_init_61 ⟨Nat.le_of_ble_eq_true rfl, Nat.le_of_ble_eq_true rfl⟩) hS (fun ad H locs hx hP' hS hm => ?_)
  have e9 := hx 1 hn_1
  try rw [← e9] at hl
  try rw [← e9]
  have e9 := hx 6 hn_6
  try rw [← e9] at hl
  try rw [← e9]
  have hP := hP'
  have hXA : ∀ k, wA w k ≠ 0 → ad k = ad0 k := fun k hk => (hx k (hM_w.1 k hk)).trans (hXA k hk)
  have hM_w := hM_w.trans hm
  have hn_1 := hm.1 _ hn_1
  have ha_2 := hm.2 _ ha_2
  have ha_3 := hm.2 _ ha_3
  have ha_4 := hm.2 _ ha_4
  have ha_5 := hm.2 _ ha_5
  have hn_6 := hm.1 _ hn_6
  obtain ⟨ha_6, h⟩ := ck_s h
  refine y_putFr h F hP hS k_1 hn_1 fl_X11_44 hin rfl rfl r_1_4 ha_6 (Or.inl ⟨_, rfl⟩) dX11_init_64 (fun w_64 H locs hm h hP hS => ?_)
  have hM_w := hM_w.trans hm
  have hn_1 := hm.1 _ hn_1
  have ha_2 := hm.2 _ ha_2
  have ha_3 := hm.2 _ ha_3
  have ha_4 := hm.2 _ ha_4
  have ha_5 := hm.2 _ ha_5
  have ha_6 := hm.2 _ ha_6
  refine lv_aload_n F.1 F.2.1 dX11_init_67 rfl (lv_at hl 0 rfl) ?_
  refine y_new (k := 7) (ci := 9) h F hP hS cl_X11_48 ib_X9 ini_X9 rfl inw_X9 tyX9_ok ftD_9 (Or.inl rfl) (Nat.le_of_ble_eq_true rfl) (Nat.le_of_ble_eq_true rfl) dX11_init_68 (fun w_68 ad H hm hw_7 hk_7 hx h hP' hS => ?_)
  have e9 := hx 1 hn_1
  try rw [← e9] at hl
  try rw [← e9]
  have hP := hP'
  have hXA : ∀ k, wA w k ≠ 0 → ad k = ad0 k := fun k hk => (hx k (hM_w.1 k hk)).trans (hXA k hk)
  have hM_w := hM_w.trans hm
  have hn_1 := hm.1 _ hn_1
  have ha_2 := hm.2 _ ha_2
  have ha_3 := hm.2 _ ha_3
  have ha_4 := hm.2 _ ha_4
  have ha_5 := hm.2 _ ha_5
  have ha_6 := hm.2 _ ha_6
  have hn_7 : wA w_68 7 ≠ 0 := by rw [hw_7]; decide
  refine lv_dup F.1 F.2.1 dX11_init_71 rfl ?_
  obtain ⟨w_72, hc_72, h⟩ := bo_s h
  refine x_goesA (x_runIN (As := []) (rest := [.ref (ad 7), .ref (ad 1)]) F hP hS (c_X9_init l D cT lo nb w_68 ad hw_7 w_72 hc_72) cw_X9_init nl_X11_50 rfl ii_X9_init ⟨rfl, rfl, Nat.le_of_ble_eq_true rfl, Nat.le_of_ble_eq_true rfl⟩ hl.1 rfl (Nat.le_of_ble_eq_true rfl) dX11_init_72 ⟨Nat.le_of_ble_eq_true rfl, Nat.le_of_ble_eq_true rfl⟩) hS (fun ad H locs hx hP' hS hm => ?_)
  have e9 := hx 1 hn_1
  try rw [← e9] at hl
  try rw [← e9]
  have e9 := hx 7 hn_7
  try rw [← e9] at hl
  try rw [← e9]
  have hP := hP'
  have hXA : ∀ k, wA w k ≠ 0 → ad k = ad0 k := fun k hk => (hx k (hM_w.1 k hk)).trans (hXA k hk)
  have hM_w := hM_w.trans hm
  have hn_1 := hm.1 _ hn_1
  have ha_2 := hm.2 _ ha_2
  have ha_3 := hm.2 _ ha_3
  have ha_4 := hm.2 _ ha_4
  have ha_5 := hm.2 _ ha_5
  have ha_6 := hm.2 _ ha_6
  have hn_7 := hm.1 _ hn_7
  obtain ⟨ha_7, h⟩ := ck_s h
  refine y_putFr h F hP hS k_1 hn_1 fl_X11_51 hin rfl rfl r_1_5 ha_7 (Or.inl ⟨_, rfl⟩) dX11_init_75 (fun w_75 H locs hm h hP hS => ?_)
  have hM_w := hM_w.trans hm
  have hn_1 := hm.1 _ hn_1
  have ha_2 := hm.2 _ ha_2
  have ha_3 := hm.2 _ ha_3
  have ha_4 := hm.2 _ ha_4
  have ha_5 := hm.2 _ ha_5
  have ha_6 := hm.2 _ ha_6
  have ha_7 := hm.2 _ ha_7
  refine lv_aload_n F.1 F.2.1 dX11_init_78 rfl (lv_at hl 0 rfl) ?_
  refine y_new (k := 8) (ci := 4) h F hP hS cl_X11_55 ib_X4 ini_X4 rfl inw_X4 tyX4_ok ftD_4 (Or.inl rfl) (Nat.le_of_ble_eq_true rfl) (Nat.le_of_ble_eq_true rfl) dX11_init_79 (fun w_79 ad H hm hw_8 hk_8 hx h hP' hS => ?_)
  have e9 := hx 1 hn_1
  try rw [← e9] at hl
  try rw [← e9]
  have hP := hP'
  have hXA : ∀ k, wA w k ≠ 0 → ad k = ad0 k := fun k hk => (hx k (hM_w.1 k hk)).trans (hXA k hk)
  have hM_w := hM_w.trans hm
  have hn_1 := hm.1 _ hn_1
  have ha_2 := hm.2 _ ha_2
  have ha_3 := hm.2 _ ha_3
  have ha_4 := hm.2 _ ha_4
  have ha_5 := hm.2 _ ha_5
  have ha_6 := hm.2 _ ha_6
  have ha_7 := hm.2 _ ha_7
  have hn_8 : wA w_79 8 ≠ 0 := by rw [hw_8]; decide
  refine lv_dup F.1 F.2.1 dX11_init_82 rfl ?_
  refine lv_aload_n F.1 F.2.1 dX11_init_83 rfl (lv_at hl 0 rfl) ?_
  refine y_getrS h F hP k_1 hn_1 fl_X11_10 rfl r_1_0 dX11_init_84 (fun ha_2 h => ?_)
  refine lv_aload_n F.1 F.2.1 dX11_init_87 rfl (lv_at hl 0 rfl) ?_
  refine y_getrS h F hP k_1 hn_1 fl_X11_21 rfl r_1_1 dX11_init_88 (fun ha_3 h => ?_)
  obtain ⟨w_91, hc_91, h⟩ := bo_s h
  refine x_goesA (x_runI (As := [.ref (ad 2), .ref (ad 3)]) (rest := [.ref (ad 8), .ref (ad 1)]) F hP hS (c_X4_init l D cT lo nb w_79 ad hw_8 ha_2 ha_3 w_91 hc_91) cw_X4_init lk_X11_57 rfl ii_X4_init ⟨rfl, rfl, Nat.le_of_ble_eq_true rfl, Nat.le_of_ble_eq_true rfl⟩ hl.1 rfl (Nat.le_of_ble_eq_true rfl) dX11_init_91 ⟨Nat.le_of_ble_eq_true rfl, Nat.le_of_ble_eq_true rfl⟩) hS (fun ad H locs hx hP' hS hm => ?_)
  have e9 := hx 1 hn_1
  try rw [← e9] at hl
  try rw [← e9]
  have e9 := hx 8 hn_8
  try rw [← e9] at hl
  try rw [← e9]
  have hP := hP'
  have hXA : ∀ k, wA w k ≠ 0 → ad k = ad0 k := fun k hk => (hx k (hM_w.1 k hk)).trans (hXA k hk)
  have hM_w := hM_w.trans hm
  have hn_1 := hm.1 _ hn_1
  have ha_2 := hm.2 _ ha_2
  have ha_3 := hm.2 _ ha_3
  have ha_4 := hm.2 _ ha_4
  have ha_5 := hm.2 _ ha_5
  have ha_6 := hm.2 _ ha_6
  have ha_7 := hm.2 _ ha_7
  have hn_8 := hm.1 _ hn_8
  obtain ⟨ha_8, h⟩ := ck_s h
  refine y_putFr h F hP hS k_1 hn_1 fl_X11_60 hin rfl rfl r_1_6 ha_8 (Or.inl ⟨_, rfl⟩) dX11_init_94 (fun w_94 H locs hm h hP hS => ?_)
  have hM_w := hM_w.trans hm
  have hn_1 := hm.1 _ hn_1
  have ha_2 := hm.2 _ ha_2
  have ha_3 := hm.2 _ ha_3
  have ha_4 := hm.2 _ ha_4
  have ha_5 := hm.2 _ ha_5
  have ha_6 := hm.2 _ ha_6
  have ha_7 := hm.2 _ ha_7
  have ha_8 := hm.2 _ ha_8
  refine lv_aload_n F.1 F.2.1 dX11_init_97 rfl (lv_at hl 0 rfl) ?_
  refine y_new (k := 9) (ci := 6) h F hP hS cl_X11_64 ib_X6 ini_X6 rfl inw_X6 tyX6_ok ftD_6 (Or.inl rfl) (Nat.le_of_ble_eq_true rfl) (Nat.le_of_ble_eq_true rfl) dX11_init_98 (fun w_98 ad H hm hw_9 hk_9 hx h hP' hS => ?_)
  have e9 := hx 1 hn_1
  try rw [← e9] at hl
  try rw [← e9]
  have hP := hP'
  have hXA : ∀ k, wA w k ≠ 0 → ad k = ad0 k := fun k hk => (hx k (hM_w.1 k hk)).trans (hXA k hk)
  have hM_w := hM_w.trans hm
  have hn_1 := hm.1 _ hn_1
  have ha_2 := hm.2 _ ha_2
  have ha_3 := hm.2 _ ha_3
  have ha_4 := hm.2 _ ha_4
  have ha_5 := hm.2 _ ha_5
  have ha_6 := hm.2 _ ha_6
  have ha_7 := hm.2 _ ha_7
  have ha_8 := hm.2 _ ha_8
  have hn_9 : wA w_98 9 ≠ 0 := by rw [hw_9]; decide
  refine lv_dup F.1 F.2.1 dX11_init_101 rfl ?_
  obtain ⟨w_102, hc_102, h⟩ := bo_s h
  refine x_goesA (x_runI (As := []) (rest := [.ref (ad 9), .ref (ad 1)]) F hP hS (c_X6_init l D cT lo nb w_98 ad hw_9 w_102 hc_102) cw_X6_init lk_X11_66 rfl ii_X6_init ⟨rfl, rfl, Nat.le_of_ble_eq_true rfl, Nat.le_of_ble_eq_true rfl⟩ hl.1 rfl (Nat.le_of_ble_eq_true rfl) dX11_init_102 ⟨Nat.le_of_ble_eq_true rfl, Nat.le_of_ble_eq_true rfl⟩) hS (fun ad H locs hx hP' hS hm => ?_)
  have e9 := hx 1 hn_1
  try rw [← e9] at hl
  try rw [← e9]
  have e9 := hx 9 hn_9
  try rw [← e9] at hl
  try rw [← e9]
  have hP := hP'
  have hXA : ∀ k, wA w k ≠ 0 → ad k = ad0 k := fun k hk => (hx k (hM_w.1 k hk)).trans (hXA k hk)
  have hM_w := hM_w.trans hm
  have hn_1 := hm.1 _ hn_1
  have ha_2 := hm.2 _ ha_2
  have ha_3 := hm.2 _ ha_3
  have ha_4 := hm.2 _ ha_4
  have ha_5 := hm.2 _ ha_5
  have ha_6 := hm.2 _ ha_6
  have ha_7 := hm.2 _ ha_7
  have ha_8 := hm.2 _ ha_8
  have hn_9 := hm.1 _ hn_9
  obtain ⟨ha_9, h⟩ := ck_s h
  refine y_putFr h F hP hS k_1 hn_1 fl_X11_67 hin rfl rfl r_1_7 ha_9 (Or.inl ⟨_, rfl⟩) dX11_init_105 (fun w_105 H locs hm h hP hS => ?_)
  have hM_w := hM_w.trans hm
  have hn_1 := hm.1 _ hn_1
  have ha_2 := hm.2 _ ha_2
  have ha_3 := hm.2 _ ha_3
  have ha_4 := hm.2 _ ha_4
  have ha_5 := hm.2 _ ha_5
  have ha_6 := hm.2 _ ha_6
  have ha_7 := hm.2 _ ha_7
  have ha_8 := hm.2 _ ha_8
  have ha_9 := hm.2 _ ha_9
  refine y_ready h hP k_1 ftN_11 (fun w_r108 hm _ h hP => ?_)
  have hM_w := hM_w.trans hm
  refine W.widen (k := 61) (n := 8051) (Nat.le_of_ble_eq_true rfl) (Nat.le_of_ble_eq_true rfl) ?_
  exact y_vretA h F hXA hr hP hS hM_w hlk dX11_init_108
def f_X11_house (w : Wd) (a1 : Int32) (a2 : Int32) (a3 : Int32) (a4 : Int32) (a5 : Int32) (a6 : Int32) (a7 : Int32) : Option (Int32 × Wd) :=
q_bi (f_X8_addHouse w a1 a2 a3 a4 a5 a6 a7) (fun v_15 w_15 =>
some (v_15, w_15))
set_option maxRecDepth 100000 in
set_option maxHeartbeats 4000000 in
theorem c_X11_house (l : Launch) (D : va_G) (cT : Nat → ClassId) (lo : Nat) (w : Wd) (ad0 : Nat → Nat) (a1 : Int32) (a2 : Int32) (a3 : Int32) (a4 : Int32) (a5 : Int32) (a6 : Int32) (a7 : Int32) (r : Int32) (w9 : Wd) (h : f_X11_house w a1 a2 a3 a4 a5 a6 a7 = some (r, w9)) : Met l yX11_house (.code yX11_house cX11_house 8 (some .int) :: TW) { frames := 3, cells := 1, slots := 4, locals := 72 } (mPc D cT lo NB w ad0 [.ref (ad0 1), .int a1, .int a2, .int a3, .int a4, .int a5, .int a6, .int a7]) (mQA D cT lo NB w w9 ad0 (some (.int r))) 1 4 (fun q => lo ≤ q) := by
  unfold f_X11_house at h
  refine x_met (lv := [(0, .ref (ad0 1)), (1, .int a1), (2, .int a2), (3, .int a3), (4, .int a4), (5, .int a5), (6, .int a6), (7, .int a7)]) (by decide +kernel) (Nat.le_of_ble_eq_true rfl) rfl ?_
  intro p e s m args below meth c ls F hr hlk hP hin hl
  have hx := F.1
  have hb := F.2.1
  have hS : va_S (fun q => lo ≤ q) s.heap s.heap [] := va_S.rf
  have hM_w : mono w w := mono.refl
  have hXA : ∀ k, wA w k ≠ 0 → ad0 k = ad0 k := fun _ _ => rfl
  refine lv_aload_n F.1 F.2.1 dX11_house_0 rfl (lv_at hl 0 rfl) ?_
  refine x_getr F hP k_1 (hP.al 1 rfl) fl_X11_10 rfl r_1_0 dX11_house_1 ?_
  refine lv_iload_n F.1 F.2.1 dX11_house_4 rfl (lv_at hl 1 rfl) ?_
  refine lv_iload_n F.1 F.2.1 dX11_house_5 rfl (lv_at hl 2 rfl) ?_
  refine lv_iload_n F.1 F.2.1 dX11_house_6 rfl (lv_at hl 3 rfl) ?_
  refine lv_iload F.1 F.2.1 dX11_house_7 (lv_at hl 4 rfl) ?_
  refine lv_iload F.1 F.2.1 dX11_house_9 (lv_at hl 5 rfl) ?_
  refine lv_iload F.1 F.2.1 dX11_house_11 (lv_at hl 6 rfl) ?_
  refine lv_iload F.1 F.2.1 dX11_house_13 (lv_at hl 7 rfl) ?_
  obtain ⟨v_15, w_15, hc_15, h⟩ := bi_s h
  refine x_goesA (x_runV (As := [.int a1, .int a2, .int a3, .int a4, .int a5, .int a6, .int a7]) (rest := []) F hP hS (c_X8_addHouse l D cT lo w ad0 a1 a2 a3 a4 a5 a6 a7 v_15 w_15 hc_15) cw_X8_addHouse lk_X11_82 vi_X8_addHouse k_2 (n2 (hP.al 2 rfl)) rfl ⟨rfl, rfl, Nat.le_of_ble_eq_true rfl, Nat.le_of_ble_eq_true rfl⟩ hl.1 rfl (Nat.le_of_ble_eq_true rfl) dX11_house_15 ⟨Nat.le_of_ble_eq_true rfl, Nat.le_of_ble_eq_true rfl⟩) hS (fun ad H locs hx hP' hS hm => ?_)
  have e9 := hx 1 (n2 (hP.al 1 rfl))
  try rw [← e9] at hl
  try rw [← e9]
  have hP := hP'
  have hXA : ∀ k, wA w k ≠ 0 → ad k = ad0 k := fun k hk => (hx k (hM_w.1 k hk)).trans (hXA k hk)
  have hM_w := hm
  refine W.widen (k := 1) (n := 4) (Nat.le_of_ble_eq_true rfl) (Nat.le_of_ble_eq_true rfl) ?_
  exact y_iretA h F hXA hr hP hS hM_w hlk dX11_house_18
def f_X11_kerb (w : Wd) (a1 : Int32) (a2 : Int32) (a3 : Int32) (a4 : Int32) : Option (Int32 × Wd) :=
q_bi (f_X8_addKerb w a1 a2 a3 a4) (fun v_9 w_9 =>
some (v_9, w_9))
set_option maxRecDepth 100000 in
set_option maxHeartbeats 4000000 in
theorem c_X11_kerb (l : Launch) (D : va_G) (cT : Nat → ClassId) (lo : Nat) (w : Wd) (ad0 : Nat → Nat) (a1 : Int32) (a2 : Int32) (a3 : Int32) (a4 : Int32) (r : Int32) (w9 : Wd) (h : f_X11_kerb w a1 a2 a3 a4 = some (r, w9)) : Met l yX11_kerb (.code yX11_kerb cX11_kerb 5 (some .int) :: TW) { frames := 3, cells := 1, slots := 4, locals := 69 } (mPc D cT lo NB w ad0 [.ref (ad0 1), .int a1, .int a2, .int a3, .int a4]) (mQA D cT lo NB w w9 ad0 (some (.int r))) 1 4 (fun q => lo ≤ q) := by
  unfold f_X11_kerb at h
  refine x_met (lv := [(0, .ref (ad0 1)), (1, .int a1), (2, .int a2), (3, .int a3), (4, .int a4)]) (by decide +kernel) (Nat.le_of_ble_eq_true rfl) rfl ?_
  intro p e s m args below meth c ls F hr hlk hP hin hl
  have hx := F.1
  have hb := F.2.1
  have hS : va_S (fun q => lo ≤ q) s.heap s.heap [] := va_S.rf
  have hM_w : mono w w := mono.refl
  have hXA : ∀ k, wA w k ≠ 0 → ad0 k = ad0 k := fun _ _ => rfl
  refine lv_aload_n F.1 F.2.1 dX11_kerb_0 rfl (lv_at hl 0 rfl) ?_
  refine x_getr F hP k_1 (hP.al 1 rfl) fl_X11_10 rfl r_1_0 dX11_kerb_1 ?_
  refine lv_iload_n F.1 F.2.1 dX11_kerb_4 rfl (lv_at hl 1 rfl) ?_
  refine lv_iload_n F.1 F.2.1 dX11_kerb_5 rfl (lv_at hl 2 rfl) ?_
  refine lv_iload_n F.1 F.2.1 dX11_kerb_6 rfl (lv_at hl 3 rfl) ?_
  refine lv_iload F.1 F.2.1 dX11_kerb_7 (lv_at hl 4 rfl) ?_
  obtain ⟨v_9, w_9, hc_9, h⟩ := bi_s h
  refine x_goesA (x_runV (As := [.int a1, .int a2, .int a3, .int a4]) (rest := []) F hP hS (c_X8_addKerb l D cT lo w ad0 a1 a2 a3 a4 v_9 w_9 hc_9) cw_X8_addKerb lk_X11_90 vi_X8_addKerb k_2 (n2 (hP.al 2 rfl)) rfl ⟨rfl, rfl, Nat.le_of_ble_eq_true rfl, Nat.le_of_ble_eq_true rfl⟩ hl.1 rfl (Nat.le_of_ble_eq_true rfl) dX11_kerb_9 ⟨Nat.le_of_ble_eq_true rfl, Nat.le_of_ble_eq_true rfl⟩) hS (fun ad H locs hx hP' hS hm => ?_)
  have e9 := hx 1 (n2 (hP.al 1 rfl))
  try rw [← e9] at hl
  try rw [← e9]
  have hP := hP'
  have hXA : ∀ k, wA w k ≠ 0 → ad k = ad0 k := fun k hk => (hx k (hM_w.1 k hk)).trans (hXA k hk)
  have hM_w := hm
  refine W.widen (k := 1) (n := 4) (Nat.le_of_ble_eq_true rfl) (Nat.le_of_ble_eq_true rfl) ?_
  exact y_iretA h F hXA hr hP hS hM_w hlk dX11_kerb_12
def f_X11_wire (w : Wd) (a1 : Int32) (a2 : Int32) (a3 : Int32) (a4 : Int32) (a5 : Int32) : Option (Int32 × Wd) :=
q_bi (f_X8_addWire w a1 a2 a3 a4 a5) (fun v_11 w_11 =>
some (v_11, w_11))
set_option maxRecDepth 100000 in
set_option maxHeartbeats 4000000 in
theorem c_X11_wire (l : Launch) (D : va_G) (cT : Nat → ClassId) (lo : Nat) (w : Wd) (ad0 : Nat → Nat) (a1 : Int32) (a2 : Int32) (a3 : Int32) (a4 : Int32) (a5 : Int32) (r : Int32) (w9 : Wd) (h : f_X11_wire w a1 a2 a3 a4 a5 = some (r, w9)) : Met l yX11_wire (.code yX11_wire cX11_wire 6 (some .int) :: TW) { frames := 3, cells := 1, slots := 4, locals := 70 } (mPc D cT lo NB w ad0 [.ref (ad0 1), .int a1, .int a2, .int a3, .int a4, .int a5]) (mQA D cT lo NB w w9 ad0 (some (.int r))) 1 4 (fun q => lo ≤ q) := by
  unfold f_X11_wire at h
  refine x_met (lv := [(0, .ref (ad0 1)), (1, .int a1), (2, .int a2), (3, .int a3), (4, .int a4), (5, .int a5)]) (by decide +kernel) (Nat.le_of_ble_eq_true rfl) rfl ?_
  intro p e s m args below meth c ls F hr hlk hP hin hl
  have hx := F.1
  have hb := F.2.1
  have hS : va_S (fun q => lo ≤ q) s.heap s.heap [] := va_S.rf
  have hM_w : mono w w := mono.refl
  have hXA : ∀ k, wA w k ≠ 0 → ad0 k = ad0 k := fun _ _ => rfl
  refine lv_aload_n F.1 F.2.1 dX11_wire_0 rfl (lv_at hl 0 rfl) ?_
  refine x_getr F hP k_1 (hP.al 1 rfl) fl_X11_10 rfl r_1_0 dX11_wire_1 ?_
  refine lv_iload_n F.1 F.2.1 dX11_wire_4 rfl (lv_at hl 1 rfl) ?_
  refine lv_iload_n F.1 F.2.1 dX11_wire_5 rfl (lv_at hl 2 rfl) ?_
  refine lv_iload_n F.1 F.2.1 dX11_wire_6 rfl (lv_at hl 3 rfl) ?_
  refine lv_iload F.1 F.2.1 dX11_wire_7 (lv_at hl 4 rfl) ?_
  refine lv_iload F.1 F.2.1 dX11_wire_9 (lv_at hl 5 rfl) ?_
  obtain ⟨v_11, w_11, hc_11, h⟩ := bi_s h
  refine x_goesA (x_runV (As := [.int a1, .int a2, .int a3, .int a4, .int a5]) (rest := []) F hP hS (c_X8_addWire l D cT lo w ad0 a1 a2 a3 a4 a5 v_11 w_11 hc_11) cw_X8_addWire lk_X11_94 vi_X8_addWire k_2 (n2 (hP.al 2 rfl)) rfl ⟨rfl, rfl, Nat.le_of_ble_eq_true rfl, Nat.le_of_ble_eq_true rfl⟩ hl.1 rfl (Nat.le_of_ble_eq_true rfl) dX11_wire_11 ⟨Nat.le_of_ble_eq_true rfl, Nat.le_of_ble_eq_true rfl⟩) hS (fun ad H locs hx hP' hS hm => ?_)
  have e9 := hx 1 (n2 (hP.al 1 rfl))
  try rw [← e9] at hl
  try rw [← e9]
  have hP := hP'
  have hXA : ∀ k, wA w k ≠ 0 → ad k = ad0 k := fun k hk => (hx k (hM_w.1 k hk)).trans (hXA k hk)
  have hM_w := hm
  refine W.widen (k := 1) (n := 4) (Nat.le_of_ble_eq_true rfl) (Nat.le_of_ble_eq_true rfl) ?_
  exact y_iretA h F hXA hr hP hS hM_w hlk dX11_wire_14
def f_X11_slope (w : Wd) (a1 : Int32) (a2 : Int32) (a3 : Int32) (a4 : Int32) (a5 : Int32) (a6 : Int32) (a7 : Int32) : Option (Int32 × Wd) :=
q_bi (f_X8_addSlope w a1 a2 a3 a4 a5 a6 a7) (fun v_15 w_15 =>
some (v_15, w_15))
set_option maxRecDepth 100000 in
set_option maxHeartbeats 4000000 in
theorem c_X11_slope (l : Launch) (D : va_G) (cT : Nat → ClassId) (lo : Nat) (w : Wd) (ad0 : Nat → Nat) (a1 : Int32) (a2 : Int32) (a3 : Int32) (a4 : Int32) (a5 : Int32) (a6 : Int32) (a7 : Int32) (r : Int32) (w9 : Wd) (h : f_X11_slope w a1 a2 a3 a4 a5 a6 a7 = some (r, w9)) : Met l yX11_slope (.code yX11_slope cX11_slope 8 (some .int) :: TW) { frames := 3, cells := 1, slots := 4, locals := 72 } (mPc D cT lo NB w ad0 [.ref (ad0 1), .int a1, .int a2, .int a3, .int a4, .int a5, .int a6, .int a7]) (mQA D cT lo NB w w9 ad0 (some (.int r))) 1 4 (fun q => lo ≤ q) := by
  unfold f_X11_slope at h
  refine x_met (lv := [(0, .ref (ad0 1)), (1, .int a1), (2, .int a2), (3, .int a3), (4, .int a4), (5, .int a5), (6, .int a6), (7, .int a7)]) (by decide +kernel) (Nat.le_of_ble_eq_true rfl) rfl ?_
  intro p e s m args below meth c ls F hr hlk hP hin hl
  have hx := F.1
  have hb := F.2.1
  have hS : va_S (fun q => lo ≤ q) s.heap s.heap [] := va_S.rf
  have hM_w : mono w w := mono.refl
  have hXA : ∀ k, wA w k ≠ 0 → ad0 k = ad0 k := fun _ _ => rfl
  refine lv_aload_n F.1 F.2.1 dX11_slope_0 rfl (lv_at hl 0 rfl) ?_
  refine x_getr F hP k_1 (hP.al 1 rfl) fl_X11_10 rfl r_1_0 dX11_slope_1 ?_
  refine lv_iload_n F.1 F.2.1 dX11_slope_4 rfl (lv_at hl 1 rfl) ?_
  refine lv_iload_n F.1 F.2.1 dX11_slope_5 rfl (lv_at hl 2 rfl) ?_
  refine lv_iload_n F.1 F.2.1 dX11_slope_6 rfl (lv_at hl 3 rfl) ?_
  refine lv_iload F.1 F.2.1 dX11_slope_7 (lv_at hl 4 rfl) ?_
  refine lv_iload F.1 F.2.1 dX11_slope_9 (lv_at hl 5 rfl) ?_
  refine lv_iload F.1 F.2.1 dX11_slope_11 (lv_at hl 6 rfl) ?_
  refine lv_iload F.1 F.2.1 dX11_slope_13 (lv_at hl 7 rfl) ?_
  obtain ⟨v_15, w_15, hc_15, h⟩ := bi_s h
  refine x_goesA (x_runV (As := [.int a1, .int a2, .int a3, .int a4, .int a5, .int a6, .int a7]) (rest := []) F hP hS (c_X8_addSlope l D cT lo w ad0 a1 a2 a3 a4 a5 a6 a7 v_15 w_15 hc_15) cw_X8_addSlope lk_X11_102 vi_X8_addSlope k_2 (n2 (hP.al 2 rfl)) rfl ⟨rfl, rfl, Nat.le_of_ble_eq_true rfl, Nat.le_of_ble_eq_true rfl⟩ hl.1 rfl (Nat.le_of_ble_eq_true rfl) dX11_slope_15 ⟨Nat.le_of_ble_eq_true rfl, Nat.le_of_ble_eq_true rfl⟩) hS (fun ad H locs hx hP' hS hm => ?_)
  have e9 := hx 1 (n2 (hP.al 1 rfl))
  try rw [← e9] at hl
  try rw [← e9]
  have hP := hP'
  have hXA : ∀ k, wA w k ≠ 0 → ad k = ad0 k := fun k hk => (hx k (hM_w.1 k hk)).trans (hXA k hk)
  have hM_w := hm
  refine W.widen (k := 1) (n := 4) (Nat.le_of_ble_eq_true rfl) (Nat.le_of_ble_eq_true rfl) ?_
  exact y_iretA h F hXA hr hP hS hM_w hlk dX11_slope_18
def f_X11_car (w : Wd) (a1 : Int32) (a2 : Int32) (a3 : Int32) (a4 : Int32) : Option (Int32 × Wd) :=
q_bi (f_X3_addCar w a1 a2 a3 a4) (fun v_9 w_9 =>
some (v_9, w_9))
set_option maxRecDepth 100000 in
set_option maxHeartbeats 4000000 in
theorem c_X11_car (l : Launch) (D : va_G) (cT : Nat → ClassId) (lo : Nat) (w : Wd) (ad0 : Nat → Nat) (a1 : Int32) (a2 : Int32) (a3 : Int32) (a4 : Int32) (r : Int32) (w9 : Wd) (h : f_X11_car w a1 a2 a3 a4 = some (r, w9)) : Met l yX11_car (.code yX11_car cX11_car 5 (some .int) :: TW) { frames := 4, cells := 13, slots := 89, locals := 89 } (mPc D cT lo NB w ad0 [.ref (ad0 1), .int a1, .int a2, .int a3, .int a4]) (mQA D cT lo NB w w9 ad0 (some (.int r))) 13 89 (fun q => lo ≤ q) := by
  unfold f_X11_car at h
  refine x_met (lv := [(0, .ref (ad0 1)), (1, .int a1), (2, .int a2), (3, .int a3), (4, .int a4)]) (by decide +kernel) (Nat.le_of_ble_eq_true rfl) rfl ?_
  intro p e s m args below meth c ls F hr hlk hP hin hl
  have hx := F.1
  have hb := F.2.1
  have hS : va_S (fun q => lo ≤ q) s.heap s.heap [] := va_S.rf
  have hM_w : mono w w := mono.refl
  have hXA : ∀ k, wA w k ≠ 0 → ad0 k = ad0 k := fun _ _ => rfl
  refine lv_aload_n F.1 F.2.1 dX11_car_0 rfl (lv_at hl 0 rfl) ?_
  refine x_getr F hP k_1 (hP.al 1 rfl) fl_X11_21 rfl r_1_1 dX11_car_1 ?_
  refine lv_iload_n F.1 F.2.1 dX11_car_4 rfl (lv_at hl 1 rfl) ?_
  refine lv_iload_n F.1 F.2.1 dX11_car_5 rfl (lv_at hl 2 rfl) ?_
  refine lv_iload_n F.1 F.2.1 dX11_car_6 rfl (lv_at hl 3 rfl) ?_
  refine lv_iload F.1 F.2.1 dX11_car_7 (lv_at hl 4 rfl) ?_
  obtain ⟨v_9, w_9, hc_9, h⟩ := bi_s h
  refine x_goesA (x_runV (As := [.int a1, .int a2, .int a3, .int a4]) (rest := []) F hP hS (c_X3_addCar l D cT lo w ad0 a1 a2 a3 a4 v_9 w_9 hc_9) cw_X3_addCar lk_X11_125 vi_X3_addCar k_3 (n2 (hP.al 3 rfl)) rfl ⟨rfl, rfl, Nat.le_of_ble_eq_true rfl, Nat.le_of_ble_eq_true rfl⟩ hl.1 rfl (Nat.le_of_ble_eq_true rfl) dX11_car_9 ⟨Nat.le_of_ble_eq_true rfl, Nat.le_of_ble_eq_true rfl⟩) hS (fun ad H locs hx hP' hS hm => ?_)
  have e9 := hx 1 (n2 (hP.al 1 rfl))
  try rw [← e9] at hl
  try rw [← e9]
  have hP := hP'
  have hXA : ∀ k, wA w k ≠ 0 → ad k = ad0 k := fun k hk => (hx k (hM_w.1 k hk)).trans (hXA k hk)
  have hM_w := hm
  refine W.widen (k := 13) (n := 89) (Nat.le_of_ble_eq_true rfl) (Nat.le_of_ble_eq_true rfl) ?_
  exact y_iretA h F hXA hr hP hS hM_w hlk dX11_car_12
def f_X11_way (w : Wd) (a1 : Int32) (a2 : Int32) (a3 : Int32) (a4 : Int32) (a5 : Int32) (a6 : Int32) : Option (Int32 × Wd) :=
q_bo (f_X3_carAt w a1) (fun q_5 =>
if q_5 = 0 then
some ((-2 : Int32), w)
else
if (f_X11_isBox a2 a3 a4 a5) = 0 then
some ((-2 : Int32), w)
else
if (f_X11_within a6 (0 : Int32) (35 : Int32)) = 0 then
some ((-2 : Int32), w)
else
q_gt w q_5 12 (fun v_43 =>
if v_43 = 0 then
some ((-3 : Int32), w)
else
q_gb w (fun w_58 =>
q_lt (2000 + (wS w 999 0).toNatClampNeg) (fun q_58 =>
q_bo (f_X0_init w_58 q_58 a2 a3 a4 a5) (fun w_68 =>
q_bi (f_X10_find w_68 q_5 q_58 a6) (fun v_73 w_73 =>
some (v_73, w_73)))))))
set_option maxRecDepth 100000 in
set_option maxHeartbeats 4000000 in
theorem c_X11_way (l : Launch) (D : va_G) (cT : Nat → ClassId) (lo : Nat) (w : Wd) (ad0 : Nat → Nat) (a1 : Int32) (a2 : Int32) (a3 : Int32) (a4 : Int32) (a5 : Int32) (a6 : Int32) (r : Int32) (w9 : Wd) (h : f_X11_way w a1 a2 a3 a4 a5 a6 = some (r, w9)) : Met l yX11_way (.code yX11_way cX11_way 8 (some .int) :: TW) { frames := 7, cells := 1, slots := 4, locals := 184 } (mPc D cT lo NB w ad0 [.ref (ad0 1), .int a1, .int a2, .int a3, .int a4, .int a5, .int a6]) (mQA D cT lo NB w w9 ad0 (some (.int r))) 1 4 (fun q => lo ≤ q) := by
  unfold f_X11_way at h
  refine x_met (lv := [(0, .ref (ad0 1)), (1, .int a1), (2, .int a2), (3, .int a3), (4, .int a4), (5, .int a5), (6, .int a6)]) (by decide +kernel) (Nat.le_of_ble_eq_true rfl) rfl ?_
  intro p e s m args below meth c ls F hr hlk hP hin hl
  have hx := F.1
  have hb := F.2.1
  have hS : va_S (fun q => lo ≤ q) s.heap s.heap [] := va_S.rf
  have hM_w : mono w w := mono.refl
  have hXA : ∀ k, wA w k ≠ 0 → ad0 k = ad0 k := fun _ _ => rfl
  refine lv_aload_n F.1 F.2.1 dX11_way_0 rfl (lv_at hl 0 rfl) ?_
  refine x_getr F hP k_1 (hP.al 1 rfl) fl_X11_21 rfl r_1_1 dX11_way_1 ?_
  refine lv_iload_n F.1 F.2.1 dX11_way_4 rfl (lv_at hl 1 rfl) ?_
  obtain ⟨q_5, hc_5, h⟩ := bo_s h
  refine x_goesR (x_runV (As := [.int a1]) (rest := []) F hP hS (c_X3_carAt l D cT lo w ad0 a1 q_5 hc_5) cw_X3_carAt lk_X11_128 vi_X3_carAt k_3 (n2 (hP.al 3 rfl)) rfl ⟨rfl, rfl, Nat.le_of_ble_eq_true rfl, Nat.le_of_ble_eq_true rfl⟩ hl.1 rfl (Nat.le_of_ble_eq_true rfl) dX11_way_5 ⟨Nat.zero_le _, Nat.zero_le _⟩) hS (fun H locs hq hP hS => ?_) (fun H locs hz_q_5 hk_q_5 ha_q_5 hP hS => ?_)
  · subst hq
    refine lv_astoreN (lv' := [(7, .null), (0, .ref (ad0 1)), (1, .int a1), (2, .int a2), (3, .int a3), (4, .int a4), (5, .int a5), (6, .int a6)]) F.1 F.2.1 dX11_way_8 hl (Nat.le_of_ble_eq_true rfl) rfl (fun ls hl => ?_)
    refine lv_aloadN F.1 F.2.1 dX11_way_10 (lv_at hl 0 rfl) ?_
    have h := if_t _ rfl h
    refine lv_ifnullN (tgt := 38) F.1 F.2.1 dX11_way_12 (by decide) ?_
    refine lv_bipush (v := -2) F.1 F.2.1 dX11_way_38 ib_m2 ?_
    refine W.widen (k := 1) (n := 4) (Nat.le_of_ble_eq_true rfl) (Nat.le_of_ble_eq_true rfl) ?_
    exact y_iretA h F hXA hr hP hS mono.refl hlk dX11_way_40
  · refine lv_astore (lv' := [(7, .ref (ad0 q_5)), (0, .ref (ad0 1)), (1, .int a1), (2, .int a2), (3, .int a3), (4, .int a4), (5, .int a5), (6, .int a6)]) F.1 F.2.1 dX11_way_8 hl (Nat.le_of_ble_eq_true rfl) rfl (fun ls hl => ?_)
    refine lv_aload F.1 F.2.1 dX11_way_10 (lv_at hl 0 rfl) ?_
    have h := if_f _ hz_q_5 h
    refine lv_ifnull F.1 F.2.1 dX11_way_12 ?_
    refine lv_iload_n F.1 F.2.1 dX11_way_15 rfl (lv_at hl 3 rfl) ?_
    refine lv_iload_n F.1 F.2.1 dX11_way_16 rfl (lv_at hl 4 rfl) ?_
    refine lv_iload F.1 F.2.1 dX11_way_17 (lv_at hl 5 rfl) ?_
    refine lv_iload F.1 F.2.1 dX11_way_19 (lv_at hl 6 rfl) ?_
    refine x_goesZ (x_runS (As := [.int a2, .int a3, .int a4, .int a5]) (rest := []) F hP hS (c_X11_isBox l D cT lo NB w ad0 a2 a3 a4 a5) cw_X11_isBox lk_X11_190 st_X11_isBox ⟨rfl, rfl, Nat.le_of_ble_eq_true rfl, Nat.le_of_ble_eq_true rfl⟩ hl.1 rfl (Nat.le_of_ble_eq_true rfl) dX11_way_21 ⟨Nat.le_of_ble_eq_true rfl, Nat.le_of_ble_eq_true rfl⟩) hS (fun H locs hz_21 hP hS _ => ?_)
    refine lv_if_eq (tgt := 38) F.1 F.2.1 dX11_way_24 (by decide) (fun hc => ?_) (fun hc => ?_)
    · have h := if_t _ hc h
      refine lv_bipush (v := -2) F.1 F.2.1 dX11_way_38 ib_m2 ?_
      refine W.widen (k := 1) (n := 4) (Nat.le_of_ble_eq_true rfl) (Nat.le_of_ble_eq_true rfl) ?_
      exact y_iretA h F hXA hr hP hS mono.refl hlk dX11_way_40
    · have h := if_f _ hc h
      refine lv_iload F.1 F.2.1 dX11_way_27 (lv_at hl 7 rfl) ?_
      refine lv_iconst (v := 0) F.1 F.2.1 dX11_way_29 ic_0 ?_
      refine lv_bipush (v := 35) F.1 F.2.1 dX11_way_30 ib_35 ?_
      refine x_goesZ (x_runS (As := [.int a6, .int (0 : Int32), .int (35 : Int32)]) (rest := []) F hP hS (c_X11_within l D cT lo NB w ad0 a6 (0 : Int32) (35 : Int32)) cw_X11_within lk_X11_71 st_X11_within ⟨rfl, rfl, Nat.le_of_ble_eq_true rfl, Nat.le_of_ble_eq_true rfl⟩ hl.1 rfl (Nat.le_of_ble_eq_true rfl) dX11_way_32 ⟨Nat.le_of_ble_eq_true rfl, Nat.le_of_ble_eq_true rfl⟩) hS (fun H locs hz_32 hP hS _ => ?_)
      refine lv_if_ne (tgt := 41) F.1 F.2.1 dX11_way_35 (by decide) (fun hc => ?_) (fun hc => ?_)
      · have h := if_f _ hc h
        refine lv_aload F.1 F.2.1 dX11_way_41 (lv_at hl 0 rfl) ?_
        refine y_geti h F hP hk_q_5 (n2 ha_q_5) fl_X11_146 rfl dX11_way_43 (fun v_43 h => ?_)
        refine lv_if_ne (tgt := 52) F.1 F.2.1 dX11_way_46 (by decide) (fun hc => ?_) (fun hc => ?_)
        · have h := if_f _ hc h
          refine lv_aload_n F.1 F.2.1 dX11_way_52 rfl (lv_at hl 1 rfl) ?_
          refine x_getr F hP k_1 (hP.al 1 rfl) fl_X11_30 rfl r_1_2 dX11_way_53 ?_
          refine lv_aload F.1 F.2.1 dX11_way_56 (lv_at hl 0 rfl) ?_
          refine y_newG h F hP hS cl_X11_194 ib_X0 ini_X0 rfl inw_X0 tyX0_ok ftD_0 ftZ_0 (Nat.le_of_ble_eq_true rfl) (Nat.le_of_ble_eq_true rfl) dX11_way_58 (fun q_58 w_58 ad H hm ha_q_58 hk_q_58 heq hx h hP' hS => ?_)
          have h := h
          unfold q_lt at h
          rw [← heq] at h
          have e9 := hx 1 (n2 (hP.al 1 rfl))
          try rw [← e9] at hl
          try rw [← e9]
          have e9 := hx q_5 (n2 ha_q_5)
          try rw [← e9] at hl
          try rw [← e9]
          have e9 := hx 4 (n2 (hP.al 4 rfl))
          try rw [← e9] at hl
          try rw [← e9]
          have hP := hP'
          have hXA : ∀ k, wA w k ≠ 0 → ad k = ad0 k := fun k hk => (hx k (hM_w.1 k hk)).trans (hXA k hk)
          have hM_w := hm
          have ha_q_5 := hm.2 _ ha_q_5
          refine lv_dup F.1 F.2.1 dX11_way_61 rfl ?_
          refine lv_iload_n F.1 F.2.1 dX11_way_62 rfl (lv_at hl 3 rfl) ?_
          refine lv_iload_n F.1 F.2.1 dX11_way_63 rfl (lv_at hl 4 rfl) ?_
          refine lv_iload F.1 F.2.1 dX11_way_64 (lv_at hl 5 rfl) ?_
          refine lv_iload F.1 F.2.1 dX11_way_66 (lv_at hl 6 rfl) ?_
          obtain ⟨w_68, hc_68, h⟩ := bo_s h
          refine x_goes (x_runI (As := [.int a2, .int a3, .int a4, .int a5]) (rest := [.ref (ad q_58), .ref (ad q_5), .ref (ad 4)]) F hP hS (c_X0_init l D cT lo NB w_58 ad q_58 hk_q_58 ha_q_58 a2 a3 a4 a5 w_68 hc_68) cw_X0_init lk_X11_196 rfl ii_X0_init ⟨rfl, rfl, Nat.le_of_ble_eq_true rfl, Nat.le_of_ble_eq_true rfl⟩ hl.1 rfl (Nat.le_of_ble_eq_true rfl) dX11_way_68 ⟨Nat.le_of_ble_eq_true rfl, Nat.le_of_ble_eq_true rfl⟩) hS (fun H locs hP hS hm => ?_)
          have hM_w := hM_w.trans hm
          have ha_q_5 := hm.2 _ ha_q_5
          have ha_q_58 := hm.2 _ ha_q_58
          refine lv_iload F.1 F.2.1 dX11_way_71 (lv_at hl 7 rfl) ?_
          obtain ⟨v_73, w_73, hc_73, h⟩ := bi_s h
          refine x_goes (x_runV (As := [.ref (ad q_5), .ref (ad q_58), .int a6]) (rest := []) F hP hS (c_X10_find l D cT lo w_68 ad q_5 hk_q_5 ha_q_5 q_58 hk_q_58 ha_q_58 a6 v_73 w_73 hc_73) cw_X10_find lk_X11_199 vi_X10_find k_4 (n2 (hP.al 4 rfl)) rfl ⟨rfl, rfl, Nat.le_of_ble_eq_true rfl, Nat.le_of_ble_eq_true rfl⟩ hl.1 rfl (Nat.le_of_ble_eq_true rfl) dX11_way_73 ⟨Nat.le_of_ble_eq_true rfl, Nat.le_of_ble_eq_true rfl⟩) hS (fun H locs hP hS hm => ?_)
          have hM_w := hM_w.trans hm
          have ha_q_5 := hm.2 _ ha_q_5
          have ha_q_58 := hm.2 _ ha_q_58
          refine W.widen (k := 1) (n := 4) (Nat.le_of_ble_eq_true rfl) (Nat.le_of_ble_eq_true rfl) ?_
          exact y_iretA h F hXA hr hP hS hM_w hlk dX11_way_76
        · have h := if_t _ hc h
          refine lv_bipush (v := -3) F.1 F.2.1 dX11_way_49 ib_m3 ?_
          refine W.widen (k := 1) (n := 4) (Nat.le_of_ble_eq_true rfl) (Nat.le_of_ble_eq_true rfl) ?_
          exact y_iretA h F hXA hr hP hS mono.refl hlk dX11_way_51
      · have h := if_t _ hc h
        refine lv_bipush (v := -2) F.1 F.2.1 dX11_way_38 ib_m2 ?_
        refine W.widen (k := 1) (n := 4) (Nat.le_of_ble_eq_true rfl) (Nat.le_of_ble_eq_true rfl) ?_
        exact y_iretA h F hXA hr hP hS mono.refl hlk dX11_way_40
def f_X11_measure (w : Wd) (a1 : Int32) : Option (Int32 × Wd) :=
q_bi (f_X6_refusalOf w a1) (fun v_5 w_5 =>
if v_5 = 0 then
q_bi (f_X6_buildHouses w_5 a1) (fun v_24 w_24 =>
some (v_24, w_24))
else
some (v_5, w_5))
set_option maxRecDepth 100000 in
set_option maxHeartbeats 4000000 in
theorem c_X11_measure (l : Launch) (D : va_G) (cT : Nat → ClassId) (lo : Nat) (w : Wd) (ad0 : Nat → Nat) (a1 : Int32) (r : Int32) (w9 : Wd) (h : f_X11_measure w a1 = some (r, w9)) : Met l yX11_measure (.code yX11_measure cX11_measure 3 (some .int) :: TW) { frames := 4, cells := 8, slots := 32, locals := 98 } (mPc D cT lo NB w ad0 [.ref (ad0 1), .int a1]) (mQA D cT lo NB w w9 ad0 (some (.int r))) 8 32 (fun q => lo ≤ q) := by
  unfold f_X11_measure at h
  refine x_met (lv := [(0, .ref (ad0 1)), (1, .int a1)]) (by decide +kernel) (Nat.le_of_ble_eq_true rfl) rfl ?_
  intro p e s m args below meth c ls F hr hlk hP hin hl
  have hx := F.1
  have hb := F.2.1
  have hS : va_S (fun q => lo ≤ q) s.heap s.heap [] := va_S.rf
  have hM_w : mono w w := mono.refl
  have hXA : ∀ k, wA w k ≠ 0 → ad0 k = ad0 k := fun _ _ => rfl
  refine lv_aload_n F.1 F.2.1 dX11_measure_0 rfl (lv_at hl 0 rfl) ?_
  refine x_getr F hP k_1 (hP.al 1 rfl) fl_X11_67 rfl r_1_7 dX11_measure_1 ?_
  refine lv_iload_n F.1 F.2.1 dX11_measure_4 rfl (lv_at hl 1 rfl) ?_
  obtain ⟨v_5, w_5, hc_5, h⟩ := bi_s h
  refine x_goes (x_runV (As := [.int a1]) (rest := []) F hP hS (c_X6_refusalOf l D cT lo w ad0 a1 v_5 w_5 hc_5) cw_X6_refusalOf lk_X11_315 vi_X6_refusalOf k_9 (n2 (hP.al 9 rfl)) rfl ⟨rfl, rfl, Nat.le_of_ble_eq_true rfl, Nat.le_of_ble_eq_true rfl⟩ hl.1 rfl (Nat.le_of_ble_eq_true rfl) dX11_measure_5 ⟨Nat.le_of_ble_eq_true rfl, Nat.le_of_ble_eq_true rfl⟩) hS (fun H locs hP hS hm => ?_)
  have hM_w := hm
  refine lv_istore_n (lv' := [(2, .int v_5), (0, .ref (ad0 1)), (1, .int a1)]) F.1 F.2.1 dX11_measure_8 rfl hl (Nat.le_of_ble_eq_true rfl) rfl (fun ls hl => ?_)
  refine lv_iload_n F.1 F.2.1 dX11_measure_9 rfl (lv_at hl 0 rfl) ?_
  refine lv_if_eq (tgt := 15) F.1 F.2.1 dX11_measure_10 (by decide) (fun hc => ?_) (fun hc => ?_)
  · have h := if_t _ hc h
    refine lv_aload_n F.1 F.2.1 dX11_measure_15 rfl (lv_at hl 1 rfl) ?_
    refine x_getr F hP k_1 (hP.al 1 rfl) fl_X11_67 rfl r_1_7 dX11_measure_16 ?_
    refine lv_iload_n F.1 F.2.1 dX11_measure_19 rfl (lv_at hl 2 rfl) ?_
    refine lv_aload_n F.1 F.2.1 dX11_measure_20 rfl (lv_at hl 1 rfl) ?_
    refine x_getr F hP k_1 (hP.al 1 rfl) fl_X11_10 rfl r_1_0 dX11_measure_21 ?_
    obtain ⟨v_24, w_24, hc_24, h⟩ := bi_s h
    refine x_goesA (x_runV (As := [.int a1, .ref (ad0 2)]) (rest := []) F hP hS (c_X6_buildHouses l D cT lo w_5 ad0 a1 v_24 w_24 hc_24) cw_X6_buildHouses lk_X11_318 vi_X6_buildHouses k_9 (n2 (hP.al 9 rfl)) rfl ⟨rfl, rfl, Nat.le_of_ble_eq_true rfl, Nat.le_of_ble_eq_true rfl⟩ hl.1 rfl (Nat.le_of_ble_eq_true rfl) dX11_measure_24 ⟨Nat.le_of_ble_eq_true rfl, Nat.le_of_ble_eq_true rfl⟩) hS (fun ad H locs hx hP' hS hm => ?_)
    have e9 := hx 1 (n2 (hP.al 1 rfl))
    try rw [← e9] at hl
    try rw [← e9]
    have hP := hP'
    have hXA : ∀ k, wA w k ≠ 0 → ad k = ad0 k := fun k hk => (hx k (hM_w.1 k hk)).trans (hXA k hk)
    have hM_w := hM_w.trans hm
    refine W.widen (k := 8) (n := 32) (Nat.le_of_ble_eq_true rfl) (Nat.le_of_ble_eq_true rfl) ?_
    exact y_iretA h F hXA hr hP hS hM_w hlk dX11_measure_27
  · have h := if_f _ hc h
    refine lv_iload_n F.1 F.2.1 dX11_measure_13 rfl (lv_at hl 0 rfl) ?_
    refine W.widen (k := 8) (n := 32) (Nat.le_of_ble_eq_true rfl) (Nat.le_of_ble_eq_true rfl) ?_
    exact y_iretA h F hXA hr hP hS hM_w hlk dX11_measure_14
