theorem dX3_carsThatStand_0 : decode cX3_carsThatStand 0 = .ok (.iconst 0, 1) := by decide +kernel
theorem dX3_carsThatStand_1 : decode cX3_carsThatStand 1 = .ok (.istore_n 1, 1) := by decide +kernel
theorem dX3_carsThatStand_2 : decode cX3_carsThatStand 2 = .ok (.iconst 0, 1) := by decide +kernel
theorem dX3_carsThatStand_3 : decode cX3_carsThatStand 3 = .ok (.istore_n 2, 1) := by decide +kernel
theorem dX3_carsThatStand_4 : decode cX3_carsThatStand 4 = .ok (.iload_n 2, 1) := by decide +kernel
theorem dX3_carsThatStand_5 : decode cX3_carsThatStand 5 = .ok (.aload_n 0, 1) := by decide +kernel
theorem dX3_carsThatStand_6 : decode cX3_carsThatStand 6 = .ok (.getfield 41, 3) := by decide +kernel
theorem dX3_carsThatStand_9 : decode cX3_carsThatStand 9 = .ok (.if_icmp .ge 24, 3) := by decide +kernel
theorem dX3_carsThatStand_12 : decode cX3_carsThatStand 12 = .ok (.aload_n 0, 1) := by decide +kernel
theorem dX3_carsThatStand_13 : decode cX3_carsThatStand 13 = .ok (.getfield 13, 3) := by decide +kernel
theorem dX3_carsThatStand_16 : decode cX3_carsThatStand 16 = .ok (.iload_n 2, 1) := by decide +kernel
theorem dX3_carsThatStand_17 : decode cX3_carsThatStand 17 = .ok (.aaload, 1) := by decide +kernel
theorem dX3_carsThatStand_18 : decode cX3_carsThatStand 18 = .ok (.getfield 51, 3) := by decide +kernel
theorem dX3_carsThatStand_21 : decode cX3_carsThatStand 21 = .ok (.ifCond .eq 6, 3) := by decide +kernel
theorem dX3_carsThatStand_24 : decode cX3_carsThatStand 24 = .ok (.iinc 1 1, 3) := by decide +kernel
theorem dX3_carsThatStand_27 : decode cX3_carsThatStand 27 = .ok (.iinc 2 1, 3) := by decide +kernel
theorem dX3_carsThatStand_30 : decode cX3_carsThatStand 30 = .ok (.goto (-26), 3) := by decide +kernel
theorem dX3_carsThatStand_33 : decode cX3_carsThatStand 33 = .ok (.iload_n 1, 1) := by decide +kernel
theorem dX3_carsThatStand_34 : decode cX3_carsThatStand 34 = .ok (.ireturn, 1) := by decide +kernel
theorem dX3_tellNumber_0 : decode cX3_tellNumber 0 = .ok (.iload_n 1, 1) := by decide +kernel
theorem dX3_tellNumber_1 : decode cX3_tellNumber 1 = .ok (.ifCond .ne 26, 3) := by decide +kernel
theorem dX3_tellNumber_4 : decode cX3_tellNumber 4 = .ok (.iload_n 2, 1) := by decide +kernel
theorem dX3_tellNumber_5 : decode cX3_tellNumber 5 = .ok (.iconst 1, 1) := by decide +kernel
theorem dX3_tellNumber_6 : decode cX3_tellNumber 6 = .ok (.bipush 9, 2) := by decide +kernel
theorem dX3_tellNumber_8 : decode cX3_tellNumber 8 = .ok (.invokestatic 44, 3) := by decide +kernel
theorem dX3_tellNumber_11 : decode cX3_tellNumber 11 = .ok (.ifCond .eq 16, 3) := by decide +kernel
theorem dX3_tellNumber_14 : decode cX3_tellNumber 14 = .ok (.aload_n 0, 1) := by decide +kernel
theorem dX3_tellNumber_15 : decode cX3_tellNumber 15 = .ok (.getfield 21, 3) := by decide +kernel
theorem dX3_tellNumber_18 : decode cX3_tellNumber 18 = .ok (.istore_n 3, 1) := by decide +kernel
theorem dX3_tellNumber_19 : decode cX3_tellNumber 19 = .ok (.aload_n 0, 1) := by decide +kernel
theorem dX3_tellNumber_20 : decode cX3_tellNumber 20 = .ok (.iload_n 2, 1) := by decide +kernel
theorem dX3_tellNumber_21 : decode cX3_tellNumber 21 = .ok (.putfield 21, 3) := by decide +kernel
theorem dX3_tellNumber_24 : decode cX3_tellNumber 24 = .ok (.goto 62, 3) := by decide +kernel
theorem dX3_tellNumber_27 : decode cX3_tellNumber 27 = .ok (.iload_n 1, 1) := by decide +kernel
theorem dX3_tellNumber_28 : decode cX3_tellNumber 28 = .ok (.iconst 1, 1) := by decide +kernel
theorem dX3_tellNumber_29 : decode cX3_tellNumber 29 = .ok (.if_icmp .ne 26, 3) := by decide +kernel
theorem dX3_tellNumber_32 : decode cX3_tellNumber 32 = .ok (.iload_n 2, 1) := by decide +kernel
theorem dX3_tellNumber_33 : decode cX3_tellNumber 33 = .ok (.iconst 0, 1) := by decide +kernel
theorem dX3_tellNumber_34 : decode cX3_tellNumber 34 = .ok (.bipush 100, 2) := by decide +kernel
theorem dX3_tellNumber_36 : decode cX3_tellNumber 36 = .ok (.invokestatic 44, 3) := by decide +kernel
theorem dX3_tellNumber_39 : decode cX3_tellNumber 39 = .ok (.ifCond .eq 16, 3) := by decide +kernel
theorem dX3_tellNumber_42 : decode cX3_tellNumber 42 = .ok (.aload_n 0, 1) := by decide +kernel
theorem dX3_tellNumber_43 : decode cX3_tellNumber 43 = .ok (.getfield 24, 3) := by decide +kernel
theorem dX3_tellNumber_46 : decode cX3_tellNumber 46 = .ok (.istore_n 3, 1) := by decide +kernel
theorem dX3_tellNumber_47 : decode cX3_tellNumber 47 = .ok (.aload_n 0, 1) := by decide +kernel
theorem dX3_tellNumber_48 : decode cX3_tellNumber 48 = .ok (.iload_n 2, 1) := by decide +kernel
theorem dX3_tellNumber_49 : decode cX3_tellNumber 49 = .ok (.putfield 24, 3) := by decide +kernel
theorem dX3_tellNumber_52 : decode cX3_tellNumber 52 = .ok (.goto 34, 3) := by decide +kernel
theorem dX3_tellNumber_55 : decode cX3_tellNumber 55 = .ok (.iload_n 1, 1) := by decide +kernel
theorem dX3_tellNumber_56 : decode cX3_tellNumber 56 = .ok (.iconst 2, 1) := by decide +kernel
theorem dX3_tellNumber_57 : decode cX3_tellNumber 57 = .ok (.if_icmp .ne 26, 3) := by decide +kernel
theorem dX3_tellNumber_60 : decode cX3_tellNumber 60 = .ok (.iload_n 2, 1) := by decide +kernel
theorem dX3_tellNumber_61 : decode cX3_tellNumber 61 = .ok (.iconst 1, 1) := by decide +kernel
theorem dX3_tellNumber_62 : decode cX3_tellNumber 62 = .ok (.bipush 99, 2) := by decide +kernel
theorem dX3_tellNumber_64 : decode cX3_tellNumber 64 = .ok (.invokestatic 44, 3) := by decide +kernel
theorem dX3_tellNumber_67 : decode cX3_tellNumber 67 = .ok (.ifCond .eq 16, 3) := by decide +kernel
theorem dX3_tellNumber_70 : decode cX3_tellNumber 70 = .ok (.aload_n 0, 1) := by decide +kernel
theorem dX3_tellNumber_71 : decode cX3_tellNumber 71 = .ok (.getfield 27, 3) := by decide +kernel
theorem dX3_tellNumber_74 : decode cX3_tellNumber 74 = .ok (.istore_n 3, 1) := by decide +kernel
theorem dX3_tellNumber_75 : decode cX3_tellNumber 75 = .ok (.aload_n 0, 1) := by decide +kernel
theorem dX3_tellNumber_76 : decode cX3_tellNumber 76 = .ok (.iload_n 2, 1) := by decide +kernel
theorem dX3_tellNumber_77 : decode cX3_tellNumber 77 = .ok (.putfield 27, 3) := by decide +kernel
theorem dX3_tellNumber_80 : decode cX3_tellNumber 80 = .ok (.goto 6, 3) := by decide +kernel
theorem dX3_tellNumber_83 : decode cX3_tellNumber 83 = .ok (.bipush (-2), 2) := by decide +kernel
theorem dX3_tellNumber_85 : decode cX3_tellNumber 85 = .ok (.istore_n 3, 1) := by decide +kernel
theorem dX3_tellNumber_86 : decode cX3_tellNumber 86 = .ok (.iload_n 3, 1) := by decide +kernel
theorem dX3_tellNumber_87 : decode cX3_tellNumber 87 = .ok (.ireturn, 1) := by decide +kernel
theorem dX3_aim_0 : decode cX3_aim 0 = .ok (.iload 5, 2) := by decide +kernel
theorem dX3_aim_2 : decode cX3_aim 2 = .ok (.iconst 2, 1) := by decide +kernel
theorem dX3_aim_3 : decode cX3_aim 3 = .ok (.if_icmp .ge 59, 3) := by decide +kernel
theorem dX3_aim_6 : decode cX3_aim 6 = .ok (.iload 5, 2) := by decide +kernel
theorem dX3_aim_8 : decode cX3_aim 8 = .ok (.ifCond .ne 10, 3) := by decide +kernel
theorem dX3_aim_11 : decode cX3_aim 11 = .ok (.aload_n 0, 1) := by decide +kernel
theorem dX3_aim_12 : decode cX3_aim 12 = .ok (.getfield 17, 3) := by decide +kernel
theorem dX3_aim_15 : decode cX3_aim 15 = .ok (.goto 8, 3) := by decide +kernel
theorem dX3_aim_18 : decode cX3_aim 18 = .ok (.aload_n 0, 1) := by decide +kernel
theorem dX3_aim_19 : decode cX3_aim 19 = .ok (.getfield 17, 3) := by decide +kernel
theorem dX3_aim_22 : decode cX3_aim 22 = .ok (.ineg, 1) := by decide +kernel
theorem dX3_aim_23 : decode cX3_aim 23 = .ok (.istore 6, 2) := by decide +kernel
theorem dX3_aim_25 : decode cX3_aim 25 = .ok (.aload_n 0, 1) := by decide +kernel
theorem dX3_aim_26 : decode cX3_aim 26 = .ok (.iload_n 2, 1) := by decide +kernel
theorem dX3_aim_27 : decode cX3_aim 27 = .ok (.iload 6, 2) := by decide +kernel
theorem dX3_aim_29 : decode cX3_aim 29 = .ok (.iload 4, 2) := by decide +kernel
theorem dX3_aim_31 : decode cX3_aim 31 = .ok (.invokestatic 88, 3) := by decide +kernel
theorem dX3_aim_34 : decode cX3_aim 34 = .ok (.imul, 1) := by decide +kernel
theorem dX3_aim_35 : decode cX3_aim 35 = .ok (.iadd, 1) := by decide +kernel
theorem dX3_aim_36 : decode cX3_aim 36 = .ok (.putfield 68, 3) := by decide +kernel
theorem dX3_aim_39 : decode cX3_aim 39 = .ok (.aload_n 0, 1) := by decide +kernel
theorem dX3_aim_40 : decode cX3_aim 40 = .ok (.iload_n 3, 1) := by decide +kernel
theorem dX3_aim_41 : decode cX3_aim 41 = .ok (.iload 6, 2) := by decide +kernel
theorem dX3_aim_43 : decode cX3_aim 43 = .ok (.iload 4, 2) := by decide +kernel
theorem dX3_aim_45 : decode cX3_aim 45 = .ok (.invokestatic 92, 3) := by decide +kernel
theorem dX3_aim_48 : decode cX3_aim 48 = .ok (.imul, 1) := by decide +kernel
theorem dX3_aim_49 : decode cX3_aim 49 = .ok (.iadd, 1) := by decide +kernel
theorem dX3_aim_50 : decode cX3_aim 50 = .ok (.putfield 71, 3) := by decide +kernel
theorem dX3_aim_53 : decode cX3_aim 53 = .ok (.aload_n 0, 1) := by decide +kernel
theorem dX3_aim_54 : decode cX3_aim 54 = .ok (.iload 4, 2) := by decide +kernel
theorem dX3_aim_56 : decode cX3_aim 56 = .ok (.putfield 74, 3) := by decide +kernel
theorem dX3_aim_59 : decode cX3_aim 59 = .ok (.goto 89, 3) := by decide +kernel
theorem dX3_aim_62 : decode cX3_aim 62 = .ok (.iload 5, 2) := by decide +kernel
theorem dX3_aim_64 : decode cX3_aim 64 = .ok (.iconst 2, 1) := by decide +kernel
theorem dX3_aim_65 : decode cX3_aim 65 = .ok (.isub, 1) := by decide +kernel
theorem dX3_aim_66 : decode cX3_aim 66 = .ok (.iconst 4, 1) := by decide +kernel
theorem dX3_aim_67 : decode cX3_aim 67 = .ok (.irem, 1) := by decide +kernel
theorem dX3_aim_68 : decode cX3_aim 68 = .ok (.istore 6, 2) := by decide +kernel
theorem dX3_aim_70 : decode cX3_aim 70 = .ok (.aload_n 0, 1) := by decide +kernel
theorem dX3_aim_71 : decode cX3_aim 71 = .ok (.iload 5, 2) := by decide +kernel
theorem dX3_aim_73 : decode cX3_aim 73 = .ok (.bipush 6, 2) := by decide +kernel
theorem dX3_aim_75 : decode cX3_aim 75 = .ok (.if_icmp .ge 10, 3) := by decide +kernel
theorem dX3_aim_78 : decode cX3_aim 78 = .ok (.iload 4, 2) := by decide +kernel
theorem dX3_aim_80 : decode cX3_aim 80 = .ok (.iconst 1, 1) := by decide +kernel
theorem dX3_aim_81 : decode cX3_aim 81 = .ok (.iadd, 1) := by decide +kernel
theorem dX3_aim_82 : decode cX3_aim 82 = .ok (.goto 10, 3) := by decide +kernel
theorem dX3_aim_85 : decode cX3_aim 85 = .ok (.iload 4, 2) := by decide +kernel
theorem dX3_aim_87 : decode cX3_aim 87 = .ok (.bipush 36, 2) := by decide +kernel
theorem dX3_aim_89 : decode cX3_aim 89 = .ok (.iadd, 1) := by decide +kernel
theorem dX3_aim_90 : decode cX3_aim 90 = .ok (.iconst 1, 1) := by decide +kernel
theorem dX3_aim_91 : decode cX3_aim 91 = .ok (.isub, 1) := by decide +kernel
theorem dX3_aim_92 : decode cX3_aim 92 = .ok (.bipush 36, 2) := by decide +kernel
theorem dX3_aim_94 : decode cX3_aim 94 = .ok (.irem, 1) := by decide +kernel
theorem dX3_aim_95 : decode cX3_aim 95 = .ok (.putfield 74, 3) := by decide +kernel
theorem dX3_aim_98 : decode cX3_aim 98 = .ok (.aload_n 0, 1) := by decide +kernel
theorem dX3_aim_99 : decode cX3_aim 99 = .ok (.iload_n 2, 1) := by decide +kernel
theorem dX3_aim_100 : decode cX3_aim 100 = .ok (.aload_n 1, 1) := by decide +kernel
theorem dX3_aim_101 : decode cX3_aim 101 = .ok (.iload 6, 2) := by decide +kernel
theorem dX3_aim_103 : decode cX3_aim 103 = .ok (.iload 4, 2) := by decide +kernel
theorem dX3_aim_105 : decode cX3_aim 105 = .ok (.invokevirtual 95, 3) := by decide +kernel
theorem dX3_aim_108 : decode cX3_aim 108 = .ok (.iadd, 1) := by decide +kernel
theorem dX3_aim_109 : decode cX3_aim 109 = .ok (.aload_n 1, 1) := by decide +kernel
theorem dX3_aim_110 : decode cX3_aim 110 = .ok (.iload 6, 2) := by decide +kernel
theorem dX3_aim_112 : decode cX3_aim 112 = .ok (.aload_n 0, 1) := by decide +kernel
theorem dX3_aim_113 : decode cX3_aim 113 = .ok (.getfield 74, 3) := by decide +kernel
theorem dX3_aim_116 : decode cX3_aim 116 = .ok (.invokevirtual 95, 3) := by decide +kernel
theorem dX3_aim_119 : decode cX3_aim 119 = .ok (.isub, 1) := by decide +kernel
theorem dX3_aim_120 : decode cX3_aim 120 = .ok (.putfield 68, 3) := by decide +kernel
theorem dX3_aim_123 : decode cX3_aim 123 = .ok (.aload_n 0, 1) := by decide +kernel
theorem dX3_aim_124 : decode cX3_aim 124 = .ok (.iload_n 3, 1) := by decide +kernel
theorem dX3_aim_125 : decode cX3_aim 125 = .ok (.aload_n 1, 1) := by decide +kernel
theorem dX3_aim_126 : decode cX3_aim 126 = .ok (.iload 6, 2) := by decide +kernel
theorem dX3_aim_128 : decode cX3_aim 128 = .ok (.iload 4, 2) := by decide +kernel
theorem dX3_aim_130 : decode cX3_aim 130 = .ok (.invokevirtual 99, 3) := by decide +kernel
theorem dX3_aim_133 : decode cX3_aim 133 = .ok (.iadd, 1) := by decide +kernel
theorem dX3_aim_134 : decode cX3_aim 134 = .ok (.aload_n 1, 1) := by decide +kernel
theorem dX3_aim_135 : decode cX3_aim 135 = .ok (.iload 6, 2) := by decide +kernel
theorem dX3_aim_137 : decode cX3_aim 137 = .ok (.aload_n 0, 1) := by decide +kernel
theorem dX3_aim_138 : decode cX3_aim 138 = .ok (.getfield 74, 3) := by decide +kernel
theorem dX3_aim_141 : decode cX3_aim 141 = .ok (.invokevirtual 99, 3) := by decide +kernel
theorem dX3_aim_144 : decode cX3_aim 144 = .ok (.isub, 1) := by decide +kernel
theorem dX3_aim_145 : decode cX3_aim 145 = .ok (.putfield 71, 3) := by decide +kernel
theorem dX3_aim_148 : decode cX3_aim 148 = .ok (.return_, 1) := by decide +kernel
theorem dX3_storeyTouches_0 : decode cX3_storeyTouches 0 = .ok (.aload_n 0, 1) := by decide +kernel
theorem dX3_storeyTouches_1 : decode cX3_storeyTouches 1 = .ok (.getfield 132, 3) := by decide +kernel
theorem dX3_storeyTouches_4 : decode cX3_storeyTouches 4 = .ok (.iload_n 1, 1) := by decide +kernel
theorem dX3_storeyTouches_5 : decode cX3_storeyTouches 5 = .ok (.aaload, 1) := by decide +kernel
theorem dX3_storeyTouches_6 : decode cX3_storeyTouches 6 = .ok (.astore_n 3, 1) := by decide +kernel
theorem dX3_storeyTouches_7 : decode cX3_storeyTouches 7 = .ok (.iconst 0, 1) := by decide +kernel
theorem dX3_storeyTouches_8 : decode cX3_storeyTouches 8 = .ok (.istore 4, 2) := by decide +kernel
theorem dX3_storeyTouches_10 : decode cX3_storeyTouches 10 = .ok (.iload 4, 2) := by decide +kernel
theorem dX3_storeyTouches_12 : decode cX3_storeyTouches 12 = .ok (.aload_n 2, 1) := by decide +kernel
theorem dX3_storeyTouches_13 : decode cX3_storeyTouches 13 = .ok (.getfield 125, 3) := by decide +kernel
theorem dX3_storeyTouches_16 : decode cX3_storeyTouches 16 = .ok (.if_icmp .ge 66, 3) := by decide +kernel
theorem dX3_storeyTouches_19 : decode cX3_storeyTouches 19 = .ok (.aload_n 2, 1) := by decide +kernel
theorem dX3_storeyTouches_20 : decode cX3_storeyTouches 20 = .ok (.getfield 132, 3) := by decide +kernel
theorem dX3_storeyTouches_23 : decode cX3_storeyTouches 23 = .ok (.iload 4, 2) := by decide +kernel
theorem dX3_storeyTouches_25 : decode cX3_storeyTouches 25 = .ok (.aaload, 1) := by decide +kernel
theorem dX3_storeyTouches_26 : decode cX3_storeyTouches 26 = .ok (.astore 5, 2) := by decide +kernel
theorem dX3_storeyTouches_28 : decode cX3_storeyTouches 28 = .ok (.aload_n 0, 1) := by decide +kernel
theorem dX3_storeyTouches_29 : decode cX3_storeyTouches 29 = .ok (.iload_n 1, 1) := by decide +kernel
theorem dX3_storeyTouches_30 : decode cX3_storeyTouches 30 = .ok (.invokevirtual 136, 3) := by decide +kernel
theorem dX3_storeyTouches_33 : decode cX3_storeyTouches 33 = .ok (.aload_n 2, 1) := by decide +kernel
theorem dX3_storeyTouches_34 : decode cX3_storeyTouches 34 = .ok (.iload 4, 2) := by decide +kernel
theorem dX3_storeyTouches_36 : decode cX3_storeyTouches 36 = .ok (.invokevirtual 139, 3) := by decide +kernel
theorem dX3_storeyTouches_39 : decode cX3_storeyTouches 39 = .ok (.if_icmp .ge 37, 3) := by decide +kernel
theorem dX3_storeyTouches_42 : decode cX3_storeyTouches 42 = .ok (.aload_n 2, 1) := by decide +kernel
theorem dX3_storeyTouches_43 : decode cX3_storeyTouches 43 = .ok (.iload 4, 2) := by decide +kernel
theorem dX3_storeyTouches_45 : decode cX3_storeyTouches 45 = .ok (.invokevirtual 136, 3) := by decide +kernel
theorem dX3_storeyTouches_48 : decode cX3_storeyTouches 48 = .ok (.aload_n 0, 1) := by decide +kernel
theorem dX3_storeyTouches_49 : decode cX3_storeyTouches 49 = .ok (.iload_n 1, 1) := by decide +kernel
theorem dX3_storeyTouches_50 : decode cX3_storeyTouches 50 = .ok (.invokevirtual 139, 3) := by decide +kernel
theorem dX3_storeyTouches_53 : decode cX3_storeyTouches 53 = .ok (.if_icmp .ge 23, 3) := by decide +kernel
theorem dX3_storeyTouches_56 : decode cX3_storeyTouches 56 = .ok (.aload_n 3, 1) := by decide +kernel
theorem dX3_storeyTouches_57 : decode cX3_storeyTouches 57 = .ok (.aload 5, 2) := by decide +kernel
theorem dX3_storeyTouches_59 : decode cX3_storeyTouches 59 = .ok (.invokevirtual 142, 3) := by decide +kernel
theorem dX3_storeyTouches_62 : decode cX3_storeyTouches 62 = .ok (.ifCond .ne 14, 3) := by decide +kernel
theorem dX3_storeyTouches_65 : decode cX3_storeyTouches 65 = .ok (.aload 5, 2) := by decide +kernel
theorem dX3_storeyTouches_67 : decode cX3_storeyTouches 67 = .ok (.aload_n 3, 1) := by decide +kernel
theorem dX3_storeyTouches_68 : decode cX3_storeyTouches 68 = .ok (.invokevirtual 142, 3) := by decide +kernel
theorem dX3_storeyTouches_71 : decode cX3_storeyTouches 71 = .ok (.ifCond .ne 5, 3) := by decide +kernel
theorem dX3_storeyTouches_74 : decode cX3_storeyTouches 74 = .ok (.iconst 1, 1) := by decide +kernel
theorem dX3_storeyTouches_75 : decode cX3_storeyTouches 75 = .ok (.ireturn, 1) := by decide +kernel
theorem dX3_storeyTouches_76 : decode cX3_storeyTouches 76 = .ok (.iinc 4 1, 3) := by decide +kernel
theorem dX3_storeyTouches_79 : decode cX3_storeyTouches 79 = .ok (.goto (-69), 3) := by decide +kernel
theorem dX3_storeyTouches_82 : decode cX3_storeyTouches 82 = .ok (.iconst 0, 1) := by decide +kernel
theorem dX3_storeyTouches_83 : decode cX3_storeyTouches 83 = .ok (.ireturn, 1) := by decide +kernel
theorem dX3_carMet_0 : decode cX3_carMet 0 = .ok (.iconst 0, 1) := by decide +kernel
theorem dX3_carMet_1 : decode cX3_carMet 1 = .ok (.istore_n 2, 1) := by decide +kernel
theorem dX3_carMet_2 : decode cX3_carMet 2 = .ok (.iload_n 2, 1) := by decide +kernel
theorem dX3_carMet_3 : decode cX3_carMet 3 = .ok (.aload_n 0, 1) := by decide +kernel
theorem dX3_carMet_4 : decode cX3_carMet 4 = .ok (.getfield 41, 3) := by decide +kernel
theorem dX3_carMet_7 : decode cX3_carMet 7 = .ok (.if_icmp .ge 77, 3) := by decide +kernel
theorem dX3_carMet_10 : decode cX3_carMet 10 = .ok (.aload_n 0, 1) := by decide +kernel
theorem dX3_carMet_11 : decode cX3_carMet 11 = .ok (.getfield 13, 3) := by decide +kernel
theorem dX3_carMet_14 : decode cX3_carMet 14 = .ok (.iload_n 2, 1) := by decide +kernel
theorem dX3_carMet_15 : decode cX3_carMet 15 = .ok (.aaload, 1) := by decide +kernel
theorem dX3_carMet_16 : decode cX3_carMet 16 = .ok (.astore_n 3, 1) := by decide +kernel
theorem dX3_carMet_17 : decode cX3_carMet 17 = .ok (.aload_n 3, 1) := by decide +kernel
theorem dX3_carMet_18 : decode cX3_carMet 18 = .ok (.aload_n 1, 1) := by decide +kernel
theorem dX3_carMet_19 : decode cX3_carMet 19 = .ok (.if_acmp .eq 59, 3) := by decide +kernel
theorem dX3_carMet_22 : decode cX3_carMet 22 = .ok (.aload_n 3, 1) := by decide +kernel
theorem dX3_carMet_23 : decode cX3_carMet 23 = .ok (.getfield 51, 3) := by decide +kernel
theorem dX3_carMet_26 : decode cX3_carMet 26 = .ok (.ifCond .ne 6, 3) := by decide +kernel
theorem dX3_carMet_29 : decode cX3_carMet 29 = .ok (.goto 49, 3) := by decide +kernel
theorem dX3_carMet_32 : decode cX3_carMet 32 = .ok (.aload_n 3, 1) := by decide +kernel
theorem dX3_carMet_33 : decode cX3_carMet 33 = .ok (.aload_n 3, 1) := by decide +kernel
theorem dX3_carMet_34 : decode cX3_carMet 34 = .ok (.getfield 55, 3) := by decide +kernel
theorem dX3_carMet_37 : decode cX3_carMet 37 = .ok (.aload_n 3, 1) := by decide +kernel
theorem dX3_carMet_38 : decode cX3_carMet 38 = .ok (.getfield 58, 3) := by decide +kernel
theorem dX3_carMet_41 : decode cX3_carMet 41 = .ok (.aload_n 3, 1) := by decide +kernel
theorem dX3_carMet_42 : decode cX3_carMet 42 = .ok (.getfield 61, 3) := by decide +kernel
theorem dX3_carMet_45 : decode cX3_carMet 45 = .ok (.invokevirtual 102, 3) := by decide +kernel
theorem dX3_carMet_48 : decode cX3_carMet 48 = .ok (.iconst 0, 1) := by decide +kernel
theorem dX3_carMet_49 : decode cX3_carMet 49 = .ok (.istore 4, 2) := by decide +kernel
theorem dX3_carMet_51 : decode cX3_carMet 51 = .ok (.iload 4, 2) := by decide +kernel
theorem dX3_carMet_53 : decode cX3_carMet 53 = .ok (.aload_n 1, 1) := by decide +kernel
theorem dX3_carMet_54 : decode cX3_carMet 54 = .ok (.getfield 125, 3) := by decide +kernel
theorem dX3_carMet_57 : decode cX3_carMet 57 = .ok (.if_icmp .ge 21, 3) := by decide +kernel
theorem dX3_carMet_60 : decode cX3_carMet 60 = .ok (.aload_n 1, 1) := by decide +kernel
theorem dX3_carMet_61 : decode cX3_carMet 61 = .ok (.iload 4, 2) := by decide +kernel
theorem dX3_carMet_63 : decode cX3_carMet 63 = .ok (.aload_n 3, 1) := by decide +kernel
theorem dX3_carMet_64 : decode cX3_carMet 64 = .ok (.invokestatic 128, 3) := by decide +kernel
theorem dX3_carMet_67 : decode cX3_carMet 67 = .ok (.ifCond .eq 5, 3) := by decide +kernel
theorem dX3_carMet_70 : decode cX3_carMet 70 = .ok (.iload_n 2, 1) := by decide +kernel
theorem dX3_carMet_71 : decode cX3_carMet 71 = .ok (.ireturn, 1) := by decide +kernel
theorem dX3_carMet_72 : decode cX3_carMet 72 = .ok (.iinc 4 1, 3) := by decide +kernel
theorem dX3_carMet_75 : decode cX3_carMet 75 = .ok (.goto (-24), 3) := by decide +kernel
theorem dX3_carMet_78 : decode cX3_carMet 78 = .ok (.iinc 2 1, 3) := by decide +kernel
theorem dX3_carMet_81 : decode cX3_carMet 81 = .ok (.goto (-79), 3) := by decide +kernel
theorem dX3_carMet_84 : decode cX3_carMet 84 = .ok (.iconst (-1), 1) := by decide +kernel
theorem dX3_carMet_85 : decode cX3_carMet 85 = .ok (.ireturn, 1) := by decide +kernel
theorem dX3_firstMet_0 : decode cX3_firstMet 0 = .ok (.aload_n 1, 1) := by decide +kernel
theorem dX3_firstMet_1 : decode cX3_firstMet 1 = .ok (.iload_n 2, 1) := by decide +kernel
theorem dX3_firstMet_2 : decode cX3_firstMet 2 = .ok (.iload_n 3, 1) := by decide +kernel
theorem dX3_firstMet_3 : decode cX3_firstMet 3 = .ok (.iload 4, 2) := by decide +kernel
theorem dX3_firstMet_5 : decode cX3_firstMet 5 = .ok (.invokevirtual 102, 3) := by decide +kernel
theorem dX3_firstMet_8 : decode cX3_firstMet 8 = .ok (.aload_n 0, 1) := by decide +kernel
theorem dX3_firstMet_9 : decode cX3_firstMet 9 = .ok (.getfield 37, 3) := by decide +kernel
theorem dX3_firstMet_12 : decode cX3_firstMet 12 = .ok (.aload_n 1, 1) := by decide +kernel
theorem dX3_firstMet_13 : decode cX3_firstMet 13 = .ok (.invokevirtual 105, 3) := by decide +kernel
theorem dX3_firstMet_16 : decode cX3_firstMet 16 = .ok (.istore 5, 2) := by decide +kernel
theorem dX3_firstMet_18 : decode cX3_firstMet 18 = .ok (.iload 5, 2) := by decide +kernel
theorem dX3_firstMet_20 : decode cX3_firstMet 20 = .ok (.iconst (-1), 1) := by decide +kernel
theorem dX3_firstMet_21 : decode cX3_firstMet 21 = .ok (.if_icmp .eq 10, 3) := by decide +kernel
theorem dX3_firstMet_24 : decode cX3_firstMet 24 = .ok (.sipush 1000, 3) := by decide +kernel
theorem dX3_firstMet_27 : decode cX3_firstMet 27 = .ok (.iload 5, 2) := by decide +kernel
theorem dX3_firstMet_29 : decode cX3_firstMet 29 = .ok (.iadd, 1) := by decide +kernel
theorem dX3_firstMet_30 : decode cX3_firstMet 30 = .ok (.ireturn, 1) := by decide +kernel
theorem dX3_firstMet_31 : decode cX3_firstMet 31 = .ok (.aload_n 0, 1) := by decide +kernel
theorem dX3_firstMet_32 : decode cX3_firstMet 32 = .ok (.getfield 37, 3) := by decide +kernel
theorem dX3_firstMet_35 : decode cX3_firstMet 35 = .ok (.aload_n 1, 1) := by decide +kernel
theorem dX3_firstMet_36 : decode cX3_firstMet 36 = .ok (.invokevirtual 111, 3) := by decide +kernel
theorem dX3_firstMet_39 : decode cX3_firstMet 39 = .ok (.istore 5, 2) := by decide +kernel
theorem dX3_firstMet_41 : decode cX3_firstMet 41 = .ok (.iload 5, 2) := by decide +kernel
theorem dX3_firstMet_43 : decode cX3_firstMet 43 = .ok (.iconst (-1), 1) := by decide +kernel
theorem dX3_firstMet_44 : decode cX3_firstMet 44 = .ok (.if_icmp .eq 10, 3) := by decide +kernel
theorem dX3_firstMet_47 : decode cX3_firstMet 47 = .ok (.sipush 2000, 3) := by decide +kernel
theorem dX3_firstMet_50 : decode cX3_firstMet 50 = .ok (.iload 5, 2) := by decide +kernel
theorem dX3_firstMet_52 : decode cX3_firstMet 52 = .ok (.iadd, 1) := by decide +kernel
theorem dX3_firstMet_53 : decode cX3_firstMet 53 = .ok (.ireturn, 1) := by decide +kernel
theorem dX3_firstMet_54 : decode cX3_firstMet 54 = .ok (.aload_n 0, 1) := by decide +kernel
theorem dX3_firstMet_55 : decode cX3_firstMet 55 = .ok (.getfield 37, 3) := by decide +kernel
theorem dX3_firstMet_58 : decode cX3_firstMet 58 = .ok (.aload_n 1, 1) := by decide +kernel
theorem dX3_firstMet_59 : decode cX3_firstMet 59 = .ok (.invokevirtual 114, 3) := by decide +kernel
theorem dX3_firstMet_62 : decode cX3_firstMet 62 = .ok (.istore 5, 2) := by decide +kernel
theorem dX3_firstMet_64 : decode cX3_firstMet 64 = .ok (.iload 5, 2) := by decide +kernel
theorem dX3_firstMet_66 : decode cX3_firstMet 66 = .ok (.iconst (-1), 1) := by decide +kernel
theorem dX3_firstMet_67 : decode cX3_firstMet 67 = .ok (.if_icmp .eq 10, 3) := by decide +kernel
theorem dX3_firstMet_70 : decode cX3_firstMet 70 = .ok (.sipush 3000, 3) := by decide +kernel
theorem dX3_firstMet_73 : decode cX3_firstMet 73 = .ok (.iload 5, 2) := by decide +kernel
theorem dX3_firstMet_75 : decode cX3_firstMet 75 = .ok (.iadd, 1) := by decide +kernel
theorem dX3_firstMet_76 : decode cX3_firstMet 76 = .ok (.ireturn, 1) := by decide +kernel
theorem dX3_firstMet_77 : decode cX3_firstMet 77 = .ok (.aload_n 0, 1) := by decide +kernel
theorem dX3_firstMet_78 : decode cX3_firstMet 78 = .ok (.getfield 37, 3) := by decide +kernel
theorem dX3_firstMet_81 : decode cX3_firstMet 81 = .ok (.aload_n 1, 1) := by decide +kernel
theorem dX3_firstMet_82 : decode cX3_firstMet 82 = .ok (.iload_n 2, 1) := by decide +kernel
theorem dX3_firstMet_83 : decode cX3_firstMet 83 = .ok (.iload_n 3, 1) := by decide +kernel
theorem dX3_firstMet_84 : decode cX3_firstMet 84 = .ok (.iload 4, 2) := by decide +kernel
theorem dX3_firstMet_86 : decode cX3_firstMet 86 = .ok (.invokevirtual 117, 3) := by decide +kernel
theorem dX3_firstMet_89 : decode cX3_firstMet 89 = .ok (.istore 5, 2) := by decide +kernel
theorem dX3_firstMet_91 : decode cX3_firstMet 91 = .ok (.iload 5, 2) := by decide +kernel
theorem dX3_firstMet_93 : decode cX3_firstMet 93 = .ok (.iconst (-1), 1) := by decide +kernel
theorem dX3_firstMet_94 : decode cX3_firstMet 94 = .ok (.if_icmp .eq 10, 3) := by decide +kernel
theorem dX3_firstMet_97 : decode cX3_firstMet 97 = .ok (.sipush 4000, 3) := by decide +kernel
theorem dX3_firstMet_100 : decode cX3_firstMet 100 = .ok (.iload 5, 2) := by decide +kernel
theorem dX3_firstMet_102 : decode cX3_firstMet 102 = .ok (.iadd, 1) := by decide +kernel
theorem dX3_firstMet_103 : decode cX3_firstMet 103 = .ok (.ireturn, 1) := by decide +kernel
theorem dX3_firstMet_104 : decode cX3_firstMet 104 = .ok (.aload_n 0, 1) := by decide +kernel
theorem dX3_firstMet_105 : decode cX3_firstMet 105 = .ok (.aload_n 1, 1) := by decide +kernel
theorem dX3_firstMet_106 : decode cX3_firstMet 106 = .ok (.invokevirtual 120, 3) := by decide +kernel
theorem dX3_firstMet_109 : decode cX3_firstMet 109 = .ok (.istore 5, 2) := by decide +kernel
theorem dX3_firstMet_111 : decode cX3_firstMet 111 = .ok (.iload 5, 2) := by decide +kernel
theorem dX3_firstMet_113 : decode cX3_firstMet 113 = .ok (.iconst (-1), 1) := by decide +kernel
theorem dX3_firstMet_114 : decode cX3_firstMet 114 = .ok (.if_icmp .eq 10, 3) := by decide +kernel
theorem dX3_firstMet_117 : decode cX3_firstMet 117 = .ok (.sipush 5000, 3) := by decide +kernel
theorem dX3_firstMet_120 : decode cX3_firstMet 120 = .ok (.iload 5, 2) := by decide +kernel
theorem dX3_firstMet_122 : decode cX3_firstMet 122 = .ok (.iadd, 1) := by decide +kernel
theorem dX3_firstMet_123 : decode cX3_firstMet 123 = .ok (.ireturn, 1) := by decide +kernel
theorem dX3_firstMet_124 : decode cX3_firstMet 124 = .ok (.iload_n 2, 1) := by decide +kernel
theorem dX3_firstMet_125 : decode cX3_firstMet 125 = .ok (.ldc 123, 2) := by decide +kernel
theorem dX3_firstMet_127 : decode cX3_firstMet 127 = .ok (.ldc 124, 2) := by decide +kernel
theorem dX3_firstMet_129 : decode cX3_firstMet 129 = .ok (.invokestatic 44, 3) := by decide +kernel
theorem dX3_firstMet_132 : decode cX3_firstMet 132 = .ok (.ifCond .eq 18, 3) := by decide +kernel
theorem dX3_firstMet_135 : decode cX3_firstMet 135 = .ok (.iload_n 3, 1) := by decide +kernel
theorem dX3_firstMet_136 : decode cX3_firstMet 136 = .ok (.ldc 123, 2) := by decide +kernel
theorem dX3_firstMet_138 : decode cX3_firstMet 138 = .ok (.ldc 124, 2) := by decide +kernel
theorem dX3_firstMet_140 : decode cX3_firstMet 140 = .ok (.invokestatic 44, 3) := by decide +kernel
theorem dX3_firstMet_143 : decode cX3_firstMet 143 = .ok (.ifCond .eq 7, 3) := by decide +kernel
theorem dX3_firstMet_146 : decode cX3_firstMet 146 = .ok (.iconst 0, 1) := by decide +kernel
theorem dX3_firstMet_147 : decode cX3_firstMet 147 = .ok (.goto 6, 3) := by decide +kernel
theorem dX3_firstMet_150 : decode cX3_firstMet 150 = .ok (.sipush 6000, 3) := by decide +kernel
theorem dX3_firstMet_153 : decode cX3_firstMet 153 = .ok (.ireturn, 1) := by decide +kernel
theorem dX3_drive_0 : decode cX3_drive 0 = .ok (.aload_n 1, 1) := by decide +kernel
theorem dX3_drive_1 : decode cX3_drive 1 = .ok (.getfield 51, 3) := by decide +kernel
theorem dX3_drive_4 : decode cX3_drive 4 = .ok (.ifCond .ne 5, 3) := by decide +kernel
theorem dX3_drive_7 : decode cX3_drive 7 = .ok (.iconst 0, 1) := by decide +kernel
theorem dX3_drive_8 : decode cX3_drive 8 = .ok (.ireturn, 1) := by decide +kernel
theorem dX3_drive_9 : decode cX3_drive 9 = .ok (.aload_n 0, 1) := by decide +kernel
theorem dX3_drive_10 : decode cX3_drive 10 = .ok (.aload_n 1, 1) := by decide +kernel
theorem dX3_drive_11 : decode cX3_drive 11 = .ok (.aload_n 1, 1) := by decide +kernel
theorem dX3_drive_12 : decode cX3_drive 12 = .ok (.getfield 55, 3) := by decide +kernel
theorem dX3_drive_15 : decode cX3_drive 15 = .ok (.aload_n 1, 1) := by decide +kernel
theorem dX3_drive_16 : decode cX3_drive 16 = .ok (.getfield 58, 3) := by decide +kernel
theorem dX3_drive_19 : decode cX3_drive 19 = .ok (.aload_n 1, 1) := by decide +kernel
theorem dX3_drive_20 : decode cX3_drive 20 = .ok (.getfield 61, 3) := by decide +kernel
theorem dX3_drive_23 : decode cX3_drive 23 = .ok (.iload_n 2, 1) := by decide +kernel
theorem dX3_drive_24 : decode cX3_drive 24 = .ok (.invokevirtual 64, 3) := by decide +kernel
theorem dX3_drive_27 : decode cX3_drive 27 = .ok (.aload_n 0, 1) := by decide +kernel
theorem dX3_drive_28 : decode cX3_drive 28 = .ok (.aload_n 1, 1) := by decide +kernel
theorem dX3_drive_29 : decode cX3_drive 29 = .ok (.aload_n 0, 1) := by decide +kernel
theorem dX3_drive_30 : decode cX3_drive 30 = .ok (.getfield 68, 3) := by decide +kernel
theorem dX3_drive_33 : decode cX3_drive 33 = .ok (.aload_n 0, 1) := by decide +kernel
theorem dX3_drive_34 : decode cX3_drive 34 = .ok (.getfield 71, 3) := by decide +kernel
theorem dX3_drive_37 : decode cX3_drive 37 = .ok (.aload_n 0, 1) := by decide +kernel
theorem dX3_drive_38 : decode cX3_drive 38 = .ok (.getfield 74, 3) := by decide +kernel
theorem dX3_drive_41 : decode cX3_drive 41 = .ok (.invokevirtual 77, 3) := by decide +kernel
theorem dX3_drive_44 : decode cX3_drive 44 = .ok (.ifCond .eq 5, 3) := by decide +kernel
theorem dX3_drive_47 : decode cX3_drive 47 = .ok (.iconst 0, 1) := by decide +kernel
theorem dX3_drive_48 : decode cX3_drive 48 = .ok (.ireturn, 1) := by decide +kernel
theorem dX3_drive_49 : decode cX3_drive 49 = .ok (.aload_n 1, 1) := by decide +kernel
theorem dX3_drive_50 : decode cX3_drive 50 = .ok (.aload_n 0, 1) := by decide +kernel
theorem dX3_drive_51 : decode cX3_drive 51 = .ok (.getfield 68, 3) := by decide +kernel
theorem dX3_drive_54 : decode cX3_drive 54 = .ok (.aload_n 0, 1) := by decide +kernel
theorem dX3_drive_55 : decode cX3_drive 55 = .ok (.getfield 71, 3) := by decide +kernel
theorem dX3_drive_58 : decode cX3_drive 58 = .ok (.aload_n 0, 1) := by decide +kernel
theorem dX3_drive_59 : decode cX3_drive 59 = .ok (.getfield 74, 3) := by decide +kernel
theorem dX3_drive_62 : decode cX3_drive 62 = .ok (.invokevirtual 81, 3) := by decide +kernel
theorem dX3_drive_65 : decode cX3_drive 65 = .ok (.aload_n 1, 1) := by decide +kernel
theorem dX3_drive_66 : decode cX3_drive 66 = .ok (.dup, 1) := by decide +kernel
theorem dX3_drive_67 : decode cX3_drive 67 = .ok (.getfield 85, 3) := by decide +kernel
theorem dX3_drive_70 : decode cX3_drive 70 = .ok (.iconst 1, 1) := by decide +kernel
theorem dX3_drive_71 : decode cX3_drive 71 = .ok (.iadd, 1) := by decide +kernel
theorem dX3_drive_72 : decode cX3_drive 72 = .ok (.putfield 85, 3) := by decide +kernel
theorem dX3_drive_75 : decode cX3_drive 75 = .ok (.iconst 1, 1) := by decide +kernel
theorem dX3_drive_76 : decode cX3_drive 76 = .ok (.ireturn, 1) := by decide +kernel
theorem dX3_houseBitten_0 : decode cX3_houseBitten 0 = .ok (.aload_n 1, 1) := by decide +kernel
theorem dX3_houseBitten_1 : decode cX3_houseBitten 1 = .ok (.aload_n 0, 1) := by decide +kernel
theorem dX3_houseBitten_2 : decode cX3_houseBitten 2 = .ok (.getfield 33, 3) := by decide +kernel
theorem dX3_houseBitten_5 : decode cX3_houseBitten 5 = .ok (.iload_n 2, 1) := by decide +kernel
theorem dX3_houseBitten_6 : decode cX3_houseBitten 6 = .ok (.invokevirtual 146, 3) := by decide +kernel
theorem dX3_houseBitten_9 : decode cX3_houseBitten 9 = .ok (.aload_n 0, 1) := by decide +kernel
theorem dX3_houseBitten_10 : decode cX3_houseBitten 10 = .ok (.getfield 37, 3) := by decide +kernel
theorem dX3_houseBitten_13 : decode cX3_houseBitten 13 = .ok (.aload_n 0, 1) := by decide +kernel
theorem dX3_houseBitten_14 : decode cX3_houseBitten 14 = .ok (.getfield 33, 3) := by decide +kernel
theorem dX3_houseBitten_17 : decode cX3_houseBitten 17 = .ok (.invokevirtual 150, 3) := by decide +kernel
theorem dX3_houseBitten_20 : decode cX3_houseBitten 20 = .ok (.ireturn, 1) := by decide +kernel
theorem dX3_isWetUnder_0 : decode cX3_isWetUnder 0 = .ok (.aload_n 0, 1) := by decide +kernel
theorem dX3_isWetUnder_1 : decode cX3_isWetUnder 1 = .ok (.getfield 37, 3) := by decide +kernel
theorem dX3_isWetUnder_4 : decode cX3_isWetUnder 4 = .ok (.aload_n 0, 1) := by decide +kernel
theorem dX3_isWetUnder_5 : decode cX3_isWetUnder 5 = .ok (.getfield 37, 3) := by decide +kernel
theorem dX3_isWetUnder_8 : decode cX3_isWetUnder 8 = .ok (.aload_n 1, 1) := by decide +kernel
theorem dX3_isWetUnder_9 : decode cX3_isWetUnder 9 = .ok (.getfield 55, 3) := by decide +kernel
theorem dX3_isWetUnder_12 : decode cX3_isWetUnder 12 = .ok (.aload_n 1, 1) := by decide +kernel
theorem dX3_isWetUnder_13 : decode cX3_isWetUnder 13 = .ok (.getfield 58, 3) := by decide +kernel
theorem dX3_isWetUnder_16 : decode cX3_isWetUnder 16 = .ok (.invokevirtual 154, 3) := by decide +kernel
theorem dX3_isWetUnder_19 : decode cX3_isWetUnder 19 = .ok (.invokevirtual 157, 3) := by decide +kernel
theorem dX3_isWetUnder_22 : decode cX3_isWetUnder 22 = .ok (.ireturn, 1) := by decide +kernel
theorem dX3_pullOf_0 : decode cX3_pullOf 0 = .ok (.aload_n 0, 1) := by decide +kernel
theorem dX3_pullOf_1 : decode cX3_pullOf 1 = .ok (.aload_n 1, 1) := by decide +kernel
theorem dX3_pullOf_2 : decode cX3_pullOf 2 = .ok (.invokevirtual 161, 3) := by decide +kernel
theorem dX3_pullOf_5 : decode cX3_pullOf 5 = .ok (.istore_n 2, 1) := by decide +kernel
theorem dX3_pullOf_6 : decode cX3_pullOf 6 = .ok (.iconst 0, 1) := by decide +kernel
theorem dX3_pullOf_7 : decode cX3_pullOf 7 = .ok (.istore_n 3, 1) := by decide +kernel
theorem dX3_pullOf_8 : decode cX3_pullOf 8 = .ok (.iconst 0, 1) := by decide +kernel
theorem dX3_pullOf_9 : decode cX3_pullOf 9 = .ok (.istore 4, 2) := by decide +kernel
theorem dX3_pullOf_11 : decode cX3_pullOf 11 = .ok (.iload 4, 2) := by decide +kernel
theorem dX3_pullOf_13 : decode cX3_pullOf 13 = .ok (.iconst 4, 1) := by decide +kernel
theorem dX3_pullOf_14 : decode cX3_pullOf 14 = .ok (.if_icmp .ge 74, 3) := by decide +kernel
theorem dX3_pullOf_17 : decode cX3_pullOf 17 = .ok (.aload_n 1, 1) := by decide +kernel
theorem dX3_pullOf_18 : decode cX3_pullOf 18 = .ok (.iload 4, 2) := by decide +kernel
theorem dX3_pullOf_20 : decode cX3_pullOf 20 = .ok (.invokevirtual 165, 3) := by decide +kernel
theorem dX3_pullOf_23 : decode cX3_pullOf 23 = .ok (.ifCond .ne 59, 3) := by decide +kernel
theorem dX3_pullOf_26 : decode cX3_pullOf 26 = .ok (.aload_n 0, 1) := by decide +kernel
theorem dX3_pullOf_27 : decode cX3_pullOf 27 = .ok (.aload_n 1, 1) := by decide +kernel
theorem dX3_pullOf_28 : decode cX3_pullOf 28 = .ok (.iload 4, 2) := by decide +kernel
theorem dX3_pullOf_30 : decode cX3_pullOf 30 = .ok (.invokevirtual 168, 3) := by decide +kernel
theorem dX3_pullOf_33 : decode cX3_pullOf 33 = .ok (.iconst (-1), 1) := by decide +kernel
theorem dX3_pullOf_34 : decode cX3_pullOf 34 = .ok (.if_icmp .ne 48, 3) := by decide +kernel
theorem dX3_pullOf_37 : decode cX3_pullOf 37 = .ok (.aload_n 1, 1) := by decide +kernel
theorem dX3_pullOf_38 : decode cX3_pullOf 38 = .ok (.getfield 172, 3) := by decide +kernel
theorem dX3_pullOf_41 : decode cX3_pullOf 41 = .ok (.iload 4, 2) := by decide +kernel
theorem dX3_pullOf_43 : decode cX3_pullOf 43 = .ok (.iaload, 1) := by decide +kernel
theorem dX3_pullOf_44 : decode cX3_pullOf 44 = .ok (.aload_n 0, 1) := by decide +kernel
theorem dX3_pullOf_45 : decode cX3_pullOf 45 = .ok (.getfield 21, 3) := by decide +kernel
theorem dX3_pullOf_48 : decode cX3_pullOf 48 = .ok (.imul, 1) := by decide +kernel
theorem dX3_pullOf_49 : decode cX3_pullOf 49 = .ok (.aload_n 1, 1) := by decide +kernel
theorem dX3_pullOf_50 : decode cX3_pullOf 50 = .ok (.iload 4, 2) := by decide +kernel
theorem dX3_pullOf_52 : decode cX3_pullOf 52 = .ok (.invokevirtual 176, 3) := by decide +kernel
theorem dX3_pullOf_55 : decode cX3_pullOf 55 = .ok (.invokestatic 88, 3) := by decide +kernel
theorem dX3_pullOf_58 : decode cX3_pullOf 58 = .ok (.imul, 1) := by decide +kernel
theorem dX3_pullOf_59 : decode cX3_pullOf 59 = .ok (.bipush 65, 2) := by decide +kernel
theorem dX3_pullOf_61 : decode cX3_pullOf 61 = .ok (.idiv, 1) := by decide +kernel
theorem dX3_pullOf_62 : decode cX3_pullOf 62 = .ok (.istore 5, 2) := by decide +kernel
theorem dX3_pullOf_64 : decode cX3_pullOf 64 = .ok (.iload_n 3, 1) := by decide +kernel
theorem dX3_pullOf_65 : decode cX3_pullOf 65 = .ok (.iload_n 2, 1) := by decide +kernel
theorem dX3_pullOf_66 : decode cX3_pullOf 66 = .ok (.ifCond .eq 12, 3) := by decide +kernel
theorem dX3_pullOf_69 : decode cX3_pullOf 69 = .ok (.iload 5, 2) := by decide +kernel
theorem dX3_pullOf_71 : decode cX3_pullOf 71 = .ok (.iconst 3, 1) := by decide +kernel
theorem dX3_pullOf_72 : decode cX3_pullOf 72 = .ok (.imul, 1) := by decide +kernel
theorem dX3_pullOf_73 : decode cX3_pullOf 73 = .ok (.iconst 4, 1) := by decide +kernel
theorem dX3_pullOf_74 : decode cX3_pullOf 74 = .ok (.idiv, 1) := by decide +kernel
theorem dX3_pullOf_75 : decode cX3_pullOf 75 = .ok (.goto 5, 3) := by decide +kernel
theorem dX3_pullOf_78 : decode cX3_pullOf 78 = .ok (.iload 5, 2) := by decide +kernel
theorem dX3_pullOf_80 : decode cX3_pullOf 80 = .ok (.iadd, 1) := by decide +kernel
theorem dX3_pullOf_81 : decode cX3_pullOf 81 = .ok (.istore_n 3, 1) := by decide +kernel
theorem dX3_pullOf_82 : decode cX3_pullOf 82 = .ok (.iinc 4 1, 3) := by decide +kernel
theorem dX3_pullOf_85 : decode cX3_pullOf 85 = .ok (.goto (-74), 3) := by decide +kernel
theorem dX3_pullOf_88 : decode cX3_pullOf 88 = .ok (.iload_n 3, 1) := by decide +kernel
theorem dX3_pullOf_89 : decode cX3_pullOf 89 = .ok (.ireturn, 1) := by decide +kernel
theorem dX3_needOf_0 : decode cX3_needOf 0 = .ok (.aload_n 0, 1) := by decide +kernel
theorem dX3_needOf_1 : decode cX3_needOf 1 = .ok (.getfield 37, 3) := by decide +kernel
theorem dX3_needOf_4 : decode cX3_needOf 4 = .ok (.aload_n 1, 1) := by decide +kernel
theorem dX3_needOf_5 : decode cX3_needOf 5 = .ok (.getfield 55, 3) := by decide +kernel
theorem dX3_needOf_8 : decode cX3_needOf 8 = .ok (.aload_n 1, 1) := by decide +kernel
theorem dX3_needOf_9 : decode cX3_needOf 9 = .ok (.getfield 58, 3) := by decide +kernel
theorem dX3_needOf_12 : decode cX3_needOf 12 = .ok (.invokevirtual 154, 3) := by decide +kernel
theorem dX3_needOf_15 : decode cX3_needOf 15 = .ok (.istore_n 2, 1) := by decide +kernel
theorem dX3_needOf_16 : decode cX3_needOf 16 = .ok (.aload_n 0, 1) := by decide +kernel
theorem dX3_needOf_17 : decode cX3_needOf 17 = .ok (.getfield 37, 3) := by decide +kernel
theorem dX3_needOf_20 : decode cX3_needOf 20 = .ok (.iload_n 2, 1) := by decide +kernel
theorem dX3_needOf_21 : decode cX3_needOf 21 = .ok (.invokevirtual 179, 3) := by decide +kernel
theorem dX3_needOf_24 : decode cX3_needOf 24 = .ok (.aload_n 1, 1) := by decide +kernel
theorem dX3_needOf_25 : decode cX3_needOf 25 = .ok (.getfield 61, 3) := by decide +kernel
theorem dX3_needOf_28 : decode cX3_needOf 28 = .ok (.invokestatic 88, 3) := by decide +kernel
theorem dX3_needOf_31 : decode cX3_needOf 31 = .ok (.imul, 1) := by decide +kernel
theorem dX3_needOf_32 : decode cX3_needOf 32 = .ok (.aload_n 0, 1) := by decide +kernel
theorem dX3_needOf_33 : decode cX3_needOf 33 = .ok (.getfield 37, 3) := by decide +kernel
theorem dX3_needOf_36 : decode cX3_needOf 36 = .ok (.iload_n 2, 1) := by decide +kernel
theorem dX3_needOf_37 : decode cX3_needOf 37 = .ok (.invokevirtual 182, 3) := by decide +kernel
theorem dX3_needOf_40 : decode cX3_needOf 40 = .ok (.aload_n 1, 1) := by decide +kernel
theorem dX3_needOf_41 : decode cX3_needOf 41 = .ok (.getfield 61, 3) := by decide +kernel
theorem dX3_needOf_44 : decode cX3_needOf 44 = .ok (.invokestatic 92, 3) := by decide +kernel
theorem dX3_needOf_47 : decode cX3_needOf 47 = .ok (.imul, 1) := by decide +kernel
theorem dX3_needOf_48 : decode cX3_needOf 48 = .ok (.iadd, 1) := by decide +kernel
theorem dX3_needOf_49 : decode cX3_needOf 49 = .ok (.istore_n 3, 1) := by decide +kernel
theorem dX3_needOf_50 : decode cX3_needOf 50 = .ok (.aload_n 1, 1) := by decide +kernel
theorem dX3_needOf_51 : decode cX3_needOf 51 = .ok (.getfield 185, 3) := by decide +kernel
theorem dX3_needOf_54 : decode cX3_needOf 54 = .ok (.aload_n 0, 1) := by decide +kernel
theorem dX3_needOf_55 : decode cX3_needOf 55 = .ok (.getfield 24, 3) := by decide +kernel
theorem dX3_needOf_58 : decode cX3_needOf 58 = .ok (.iload_n 3, 1) := by decide +kernel
theorem dX3_needOf_59 : decode cX3_needOf 59 = .ok (.bipush 65, 2) := by decide +kernel
theorem dX3_needOf_61 : decode cX3_needOf 61 = .ok (.invokestatic 188, 3) := by decide +kernel
theorem dX3_needOf_64 : decode cX3_needOf 64 = .ok (.iadd, 1) := by decide +kernel
theorem dX3_needOf_65 : decode cX3_needOf 65 = .ok (.imul, 1) := by decide +kernel
theorem dX3_needOf_66 : decode cX3_needOf 66 = .ok (.istore 4, 2) := by decide +kernel
theorem dX3_needOf_68 : decode cX3_needOf 68 = .ok (.iload 4, 2) := by decide +kernel
theorem dX3_needOf_70 : decode cX3_needOf 70 = .ok (.ineg, 1) := by decide +kernel
theorem dX3_needOf_71 : decode cX3_needOf 71 = .ok (.bipush 10, 2) := by decide +kernel
theorem dX3_needOf_73 : decode cX3_needOf 73 = .ok (.invokestatic 188, 3) := by decide +kernel
theorem dX3_needOf_76 : decode cX3_needOf 76 = .ok (.ineg, 1) := by decide +kernel
theorem dX3_needOf_77 : decode cX3_needOf 77 = .ok (.ireturn, 1) := by decide +kernel
theorem dX3_fewestWoods_0 : decode cX3_fewestWoods 0 = .ok (.aload_n 0, 1) := by decide +kernel
theorem dX3_fewestWoods_1 : decode cX3_fewestWoods 1 = .ok (.aload_n 1, 1) := by decide +kernel
theorem dX3_fewestWoods_2 : decode cX3_fewestWoods 2 = .ok (.invokevirtual 193, 3) := by decide +kernel
theorem dX3_fewestWoods_5 : decode cX3_fewestWoods 5 = .ok (.ineg, 1) := by decide +kernel
theorem dX3_fewestWoods_6 : decode cX3_fewestWoods 6 = .ok (.istore_n 2, 1) := by decide +kernel
theorem dX3_fewestWoods_7 : decode cX3_fewestWoods 7 = .ok (.iconst 0, 1) := by decide +kernel
theorem dX3_fewestWoods_8 : decode cX3_fewestWoods 8 = .ok (.aload_n 0, 1) := by decide +kernel
theorem dX3_fewestWoods_9 : decode cX3_fewestWoods 9 = .ok (.aload_n 1, 1) := by decide +kernel
theorem dX3_fewestWoods_10 : decode cX3_fewestWoods 10 = .ok (.invokevirtual 196, 3) := by decide +kernel
theorem dX3_fewestWoods_13 : decode cX3_fewestWoods 13 = .ok (.ineg, 1) := by decide +kernel
theorem dX3_fewestWoods_14 : decode cX3_fewestWoods 14 = .ok (.invokestatic 199, 3) := by decide +kernel
theorem dX3_fewestWoods_17 : decode cX3_fewestWoods 17 = .ok (.istore_n 3, 1) := by decide +kernel
theorem dX3_fewestWoods_18 : decode cX3_fewestWoods 18 = .ok (.aload_n 0, 1) := by decide +kernel
theorem dX3_fewestWoods_19 : decode cX3_fewestWoods 19 = .ok (.aload_n 1, 1) := by decide +kernel
theorem dX3_fewestWoods_20 : decode cX3_fewestWoods 20 = .ok (.invokevirtual 161, 3) := by decide +kernel
theorem dX3_fewestWoods_23 : decode cX3_fewestWoods 23 = .ok (.istore 4, 2) := by decide +kernel
theorem dX3_fewestWoods_25 : decode cX3_fewestWoods 25 = .ok (.iconst 0, 1) := by decide +kernel
theorem dX3_fewestWoods_26 : decode cX3_fewestWoods 26 = .ok (.istore 5, 2) := by decide +kernel
theorem dX3_fewestWoods_28 : decode cX3_fewestWoods 28 = .ok (.iload 5, 2) := by decide +kernel
theorem dX3_fewestWoods_30 : decode cX3_fewestWoods 30 = .ok (.bipush 20, 2) := by decide +kernel
theorem dX3_fewestWoods_32 : decode cX3_fewestWoods 32 = .ok (.if_icmp .gt 46, 3) := by decide +kernel
theorem dX3_fewestWoods_35 : decode cX3_fewestWoods 35 = .ok (.iload 4, 2) := by decide +kernel
theorem dX3_fewestWoods_37 : decode cX3_fewestWoods 37 = .ok (.ifCond .eq 15, 3) := by decide +kernel
theorem dX3_fewestWoods_40 : decode cX3_fewestWoods 40 = .ok (.iload 5, 2) := by decide +kernel
theorem dX3_fewestWoods_42 : decode cX3_fewestWoods 42 = .ok (.aload_n 0, 1) := by decide +kernel
theorem dX3_fewestWoods_43 : decode cX3_fewestWoods 43 = .ok (.getfield 27, 3) := by decide +kernel
theorem dX3_fewestWoods_46 : decode cX3_fewestWoods 46 = .ok (.imul, 1) := by decide +kernel
theorem dX3_fewestWoods_47 : decode cX3_fewestWoods 47 = .ok (.iconst 2, 1) := by decide +kernel
theorem dX3_fewestWoods_48 : decode cX3_fewestWoods 48 = .ok (.idiv, 1) := by decide +kernel
theorem dX3_fewestWoods_49 : decode cX3_fewestWoods 49 = .ok (.goto 10, 3) := by decide +kernel
theorem dX3_fewestWoods_52 : decode cX3_fewestWoods 52 = .ok (.iload 5, 2) := by decide +kernel
theorem dX3_fewestWoods_54 : decode cX3_fewestWoods 54 = .ok (.aload_n 0, 1) := by decide +kernel
theorem dX3_fewestWoods_55 : decode cX3_fewestWoods 55 = .ok (.getfield 27, 3) := by decide +kernel
theorem dX3_fewestWoods_58 : decode cX3_fewestWoods 58 = .ok (.imul, 1) := by decide +kernel
theorem dX3_fewestWoods_59 : decode cX3_fewestWoods 59 = .ok (.istore 6, 2) := by decide +kernel
theorem dX3_fewestWoods_61 : decode cX3_fewestWoods 61 = .ok (.iload 6, 2) := by decide +kernel
theorem dX3_fewestWoods_63 : decode cX3_fewestWoods 63 = .ok (.iload_n 3, 1) := by decide +kernel
theorem dX3_fewestWoods_64 : decode cX3_fewestWoods 64 = .ok (.iadd, 1) := by decide +kernel
theorem dX3_fewestWoods_65 : decode cX3_fewestWoods 65 = .ok (.iload_n 2, 1) := by decide +kernel
theorem dX3_fewestWoods_66 : decode cX3_fewestWoods 66 = .ok (.if_icmp .lt 6, 3) := by decide +kernel
theorem dX3_fewestWoods_69 : decode cX3_fewestWoods 69 = .ok (.iload 5, 2) := by decide +kernel
theorem dX3_fewestWoods_71 : decode cX3_fewestWoods 71 = .ok (.ireturn, 1) := by decide +kernel
theorem dX3_fewestWoods_72 : decode cX3_fewestWoods 72 = .ok (.iinc 5 1, 3) := by decide +kernel
theorem dX3_fewestWoods_75 : decode cX3_fewestWoods 75 = .ok (.goto (-47), 3) := by decide +kernel
theorem dX3_fewestWoods_78 : decode cX3_fewestWoods 78 = .ok (.iconst (-1), 1) := by decide +kernel
theorem dX3_fewestWoods_79 : decode cX3_fewestWoods 79 = .ok (.ireturn, 1) := by decide +kernel
def l_X3_carsThatStand_4 (w : Wd) : Nat → Int32 → Int32 → Option Int32
  | 0, _, _ => none
  | n_4 + 1, x2_4l, x1_4l =>
    q_gt w 3 2 (fun v_6 =>
    if v_6 ≤ x2_4l then
    some x1_4l
    else
    q_ldq w 22 4 x2_4l (fun q_17 =>
    q_gt w q_17 12 (fun v_18 =>
    q_jn (fun (x1_27 : Int32) =>
    q_lt (x2_4l + (1 : Int32)) (fun v_27 =>
    l_X3_carsThatStand_4 w n_4 v_27 x1_27)) (fun j_27 =>
    if v_18 = 0 then
    j_27 x1_4l
    else
    q_lt (x1_4l + (1 : Int32)) (fun v_24 =>
    j_27 v_24)))))
def f_X3_carsThatStand (w : Wd) : Option Int32 :=
l_X3_carsThatStand_4 w FU (0 : Int32) (0 : Int32)
set_option maxRecDepth 100000 in
set_option maxHeartbeats 4000000 in
theorem c_X3_carsThatStand (l : Launch) (D : va_G) (cT : Nat → ClassId) (lo : Nat) (w : Wd) (ad : Nat → Nat)  (r : Int32) (h : f_X3_carsThatStand w = some r) : Met l yX3_carsThatStand (.code yX3_carsThatStand cX3_carsThatStand 3 (some .int) :: TW) { frames := 0, cells := 0, slots := 0, locals := 0 } (mPc D cT lo NB w ad [.ref (ad 3)]) (mQ D cT lo NB w w ad (some (.int r))) 0 0 (fun q => lo ≤ q) := by
  unfold f_X3_carsThatStand at h
  refine x_met (lv := [(0, .ref (ad 3))]) (by decide +kernel) (Nat.le_of_ble_eq_true rfl) rfl ?_
  intro p e s m args below meth c ls F hr hlk hP hin hl
  have hx := F.1
  have hb := F.2.1
  have hS : va_S (fun q => lo ≤ q) s.heap s.heap [] := va_S.rf
  refine lv_iconst (v := 0) hx hb dX3_carsThatStand_0 ic_0 ?_
  refine lv_istore_n (lv' := [(1, .int (0 : Int32)), (0, .ref (ad 3))]) hx hb dX3_carsThatStand_1 rfl hl (Nat.le_of_ble_eq_true rfl) rfl (fun ls hl => ?_)
  refine lv_iconst (v := 0) hx hb dX3_carsThatStand_2 ic_0 ?_
  refine lv_istore_n (lv' := [(2, .int (0 : Int32)), (1, .int (0 : Int32)), (0, .ref (ad 3))]) hx hb dX3_carsThatStand_3 rfl hl (Nat.le_of_ble_eq_true rfl) rfl (fun ls hl => ?_)
  have L_4 : ∀ (n_4 : Nat) (x2_4l : Int32) (x1_4l : Int32), l_X3_carsThatStand_4 w n_4 x2_4l x1_4l = some r → GG p l e { frames := 0, cells := 0, slots := 0, locals := 0 } s m args below meth c 0 0 (MQ below (mQ D cT lo NB w w ad (some (.int r))) args s 0 0 (fun q => lo ≤ q)) D cT lo NB 3 ad w 4 [(2, .int x2_4l), (1, .int x1_4l), (0, .ref (ad 3))] [] := by
    intro n_4
    induction n_4 with
    | zero =>
      intro x2_4l x1_4l h
      exact absurd h (by unfold l_X3_carsThatStand_4; exact fun z => by cases z)
    | succ n_4 ih_4 =>
      intro x2_4l x1_4l h H locs ls hP hS hl
      unfold l_X3_carsThatStand_4 at h
      refine lv_iload_n hx hb dX3_carsThatStand_4 rfl (lv_at hl 0 rfl) ?_
      refine lv_aload_n hx hb dX3_carsThatStand_5 rfl (lv_at hl 2 rfl) ?_
      refine y_geti h F hP k_3 (n2 (hP.al 3 rfl)) fl_X3_41 rfl dX3_carsThatStand_6 (fun v_6 h => ?_)
      refine lv_icmp_ge (tgt := 33) hx hb dX3_carsThatStand_9 (by decide) (fun hc => ?_) (fun hc => ?_)
      · have h := if_t _ hc h
        refine lv_iload_n hx hb dX3_carsThatStand_33 rfl (lv_at hl 1 rfl) ?_
        exact y_iretO h F hr hP hS hlk dX3_carsThatStand_34
      · have h := if_f _ hc h
        refine lv_aload_n hx hb dX3_carsThatStand_12 rfl (lv_at hl 2 rfl) ?_
        refine x_getr F hP k_3 (hP.al 3 rfl) fl_X3_13 rfl r_3_1 dX3_carsThatStand_13 ?_
        refine lv_iload_n hx hb dX3_carsThatStand_16 rfl (lv_at hl 0 rfl) ?_
        refine y_aald h F hP k_22 (by decide) (by decide) (n2 (hP.al 22 rfl)) ek_22 dX3_carsThatStand_17 (fun q_17 hk_q_17 ha_q_17 h => ?_)
        refine y_geti h F hP hk_q_17 (n2 ha_q_17) fl_X3_51 rfl dX3_carsThatStand_18 (fun v_18 h => ?_)
        refine jn_use (fun (j_27 : Int32 → Option Int32) => ∀ (x1_27 : Int32), j_27 x1_27 = some r → GG p l e { frames := 0, cells := 0, slots := 0, locals := 0 } s m args below meth c 0 0 (MQ below (mQ D cT lo NB w w ad (some (.int r))) args s 0 0 (fun q => lo ≤ q)) D cT lo NB 3 ad w 27 [(2, .int x2_4l), (1, .int x1_27), (0, .ref (ad 3))] []) h (fun x1_27 h H locs ls hP hS hl => ?_) (fun j_27 J_27 h => ?_)
        · refine y_iinc (lv' := fun (v_27 : Int32) => [(2, .int v_27), (1, .int x1_27), (0, .ref (ad 3))]) h F ic_1 dX3_carsThatStand_27 hl (kq := 0) rfl (Nat.le_of_ble_eq_true rfl) (fun _ => rfl) (fun v_27 ls hl h => ?_)
          refine lv_goto (tgt := 4) hx hb dX3_carsThatStand_30 (by decide) ?_
          exact ih_4 v_27 x1_27 h _ _ _ hP hS (lv_sub hl [0, 1, 2] rfl)
        · refine lv_if_eq (tgt := 27) hx hb dX3_carsThatStand_21 (by decide) (fun hc => ?_) (fun hc => ?_)
          · have h := if_t _ hc h
            exact J_27 x1_4l h _ _ _ hP hS (lv_sub hl [0, 1, 2] rfl)
          · have h := if_f _ hc h
            refine y_iinc (lv' := fun (v_24 : Int32) => [(1, .int v_24), (2, .int x2_4l), (0, .ref (ad 3))]) h F ic_1 dX3_carsThatStand_24 hl (kq := 1) rfl (Nat.le_of_ble_eq_true rfl) (fun _ => rfl) (fun v_24 ls hl h => ?_)
            exact J_27 v_24 h _ _ _ hP hS (lv_sub hl [1, 0, 2] rfl)
  exact L_4 FU (0 : Int32) (0 : Int32) h _ _ _ hP hS (lv_sub hl [0, 1, 2] rfl)
def f_X3_tellNumber (w : Wd) (a1 : Int32) (a2 : Int32) : Option (Int32 × Wd) :=
q_jn (q_jn (q_jn (some ((-2 : Int32), w)) (fun j_83 =>
if a1 = (2 : Int32) then
if (f_X11_within a2 (1 : Int32) (99 : Int32)) = 0 then
j_83
else
q_gt w 3 6 (fun v_71 =>
q_pt w 3 6 a2 (fun w_77 =>
some (v_71, w_77)))
else
j_83)) (fun j_55 =>
if a1 = (1 : Int32) then
if (f_X11_within a2 (0 : Int32) (100 : Int32)) = 0 then
j_55
else
q_gt w 3 5 (fun v_43 =>
q_pt w 3 5 a2 (fun w_49 =>
some (v_43, w_49)))
else
j_55)) (fun j_27 =>
if a1 = 0 then
if (f_X11_within a2 (1 : Int32) (9 : Int32)) = 0 then
j_27
else
q_gt w 3 4 (fun v_15 =>
q_pt w 3 4 a2 (fun w_21 =>
some (v_15, w_21)))
else
j_27)
set_option maxRecDepth 100000 in
set_option maxHeartbeats 4000000 in
theorem c_X3_tellNumber (l : Launch) (D : va_G) (cT : Nat → ClassId) (lo : Nat) (w : Wd) (ad : Nat → Nat) (a1 : Int32) (a2 : Int32) (r : Int32) (w9 : Wd) (h : f_X3_tellNumber w a1 a2 = some (r, w9)) : Met l yX3_tellNumber (.code yX3_tellNumber cX3_tellNumber 4 (some .int) :: TW) { frames := 1, cells := 0, slots := 0, locals := 22 } (mPc D cT lo NB w ad [.ref (ad 3), .int a1, .int a2]) (mQ D cT lo NB w w9 ad (some (.int r))) 0 0 (fun q => lo ≤ q) := by
  unfold f_X3_tellNumber at h
  refine x_met (lv := [(0, .ref (ad 3)), (1, .int a1), (2, .int a2)]) (by decide +kernel) (Nat.le_of_ble_eq_true rfl) rfl ?_
  intro p e s m args below meth c ls F hr hlk hP hin hl
  have hx := F.1
  have hb := F.2.1
  have hS : va_S (fun q => lo ≤ q) s.heap s.heap [] := va_S.rf
  have hM_w : mono w w := mono.refl
  refine lv_iload_n hx hb dX3_tellNumber_0 rfl (lv_at hl 1 rfl) ?_
  refine jn_use (fun (j_27 : Option (Int32 × Wd)) => j_27 = some (r, w9) → GG p l e { frames := 1, cells := 0, slots := 0, locals := 22 } s m args below meth c 0 0 (MQ below (mQ D cT lo NB w w9 ad (some (.int r))) args s 0 0 (fun q => lo ≤ q)) D cT lo NB 4 ad w 27 [(0, .ref (ad 3)), (1, .int a1), (2, .int a2)] []) h (fun h H locs ls hP hS hl => ?_) (fun j_27 J_27 h => ?_)
  · refine lv_iload_n hx hb dX3_tellNumber_27 rfl (lv_at hl 1 rfl) ?_
    refine lv_iconst (v := 1) hx hb dX3_tellNumber_28 ic_1 ?_
    refine jn_use (fun (j_55 : Option (Int32 × Wd)) => j_55 = some (r, w9) → GG p l e { frames := 1, cells := 0, slots := 0, locals := 22 } s m args below meth c 0 0 (MQ below (mQ D cT lo NB w w9 ad (some (.int r))) args s 0 0 (fun q => lo ≤ q)) D cT lo NB 4 ad w 55 [(0, .ref (ad 3)), (1, .int a1), (2, .int a2)] []) h (fun h H locs ls hP hS hl => ?_) (fun j_55 J_55 h => ?_)
    · refine lv_iload_n hx hb dX3_tellNumber_55 rfl (lv_at hl 1 rfl) ?_
      refine lv_iconst (v := 2) hx hb dX3_tellNumber_56 ic_2 ?_
      refine jn_use (fun (j_83 : Option (Int32 × Wd)) => j_83 = some (r, w9) → GG p l e { frames := 1, cells := 0, slots := 0, locals := 22 } s m args below meth c 0 0 (MQ below (mQ D cT lo NB w w9 ad (some (.int r))) args s 0 0 (fun q => lo ≤ q)) D cT lo NB 4 ad w 83 [] []) h (fun h H locs ls hP hS hl => ?_) (fun j_83 J_83 h => ?_)
      · refine lv_bipush (v := -2) hx hb dX3_tellNumber_83 ib_m2 ?_
        refine lv_istore_n (lv' := [(3, .int (-2 : Int32))]) hx hb dX3_tellNumber_85 rfl hl (Nat.le_of_ble_eq_true rfl) rfl (fun ls hl => ?_)
        refine lv_iload_n hx hb dX3_tellNumber_86 rfl (lv_at hl 0 rfl) ?_
        exact y_iretM h F hr hP hS mono.refl hlk dX3_tellNumber_87
      · refine lv_icmp_ne (tgt := 83) hx hb dX3_tellNumber_57 (by decide) (fun hc => ?_) (fun hc => ?_)
        · have h := if_f _ hc h
          exact J_83  h _ _ _ hP hS (lv_sub hl [] rfl)
        · have h := if_t _ hc h
          refine lv_iload_n hx hb dX3_tellNumber_60 rfl (lv_at hl 2 rfl) ?_
          refine lv_iconst (v := 1) hx hb dX3_tellNumber_61 ic_1 ?_
          refine lv_bipush (v := 99) hx hb dX3_tellNumber_62 ib_99 ?_
          refine x_goesZ (x_runSN (As := [.int a2, .int (1 : Int32), .int (99 : Int32)]) (rest := []) F hP hS (c_X11_within l D cT lo NB w ad a2 (1 : Int32) (99 : Int32)) cw_X11_within nl_X3_44 st_X11_within ⟨rfl, rfl, Nat.le_of_ble_eq_true rfl, Nat.le_of_ble_eq_true rfl⟩ hl.1 rfl (Nat.le_of_ble_eq_true rfl) dX3_tellNumber_64 ⟨Nat.zero_le _, Nat.zero_le _⟩) hS (fun H locs hz_64 hP hS _ => ?_)
          refine lv_if_eq (tgt := 83) hx hb dX3_tellNumber_67 (by decide) (fun hc => ?_) (fun hc => ?_)
          · have h := if_t _ hc h
            exact J_83  h _ _ _ hP hS (lv_sub hl [] rfl)
          · have h := if_f _ hc h
            refine lv_aload_n hx hb dX3_tellNumber_70 rfl (lv_at hl 0 rfl) ?_
            refine y_geti h F hP k_3 (n2 (hP.al 3 rfl)) fl_X3_27 rfl dX3_tellNumber_71 (fun v_71 h => ?_)
            refine lv_istore_n (lv' := [(3, .int v_71), (0, .ref (ad 3)), (1, .int a1), (2, .int a2)]) hx hb dX3_tellNumber_74 rfl hl (Nat.le_of_ble_eq_true rfl) rfl (fun ls hl => ?_)
            refine lv_aload_n hx hb dX3_tellNumber_75 rfl (lv_at hl 1 rfl) ?_
            refine lv_iload_n hx hb dX3_tellNumber_76 rfl (lv_at hl 3 rfl) ?_
            refine y_puti h F hP hS k_3 (n2 (hP.al 3 rfl)) fl_X3_27 rfl dX3_tellNumber_77 (fun w_77 H locs hm h hP hS => ?_)
            have hM_w := hm
            refine lv_goto (tgt := 86) hx hb dX3_tellNumber_80 (by decide) ?_
            refine lv_iload_n hx hb dX3_tellNumber_86 rfl (lv_at hl 0 rfl) ?_
            exact y_iretM h F hr hP hS hM_w hlk dX3_tellNumber_87
    · refine lv_icmp_ne (tgt := 55) hx hb dX3_tellNumber_29 (by decide) (fun hc => ?_) (fun hc => ?_)
      · have h := if_f _ hc h
        exact J_55  h _ _ _ hP hS (lv_sub hl [0, 1, 2] rfl)
      · have h := if_t _ hc h
        refine lv_iload_n hx hb dX3_tellNumber_32 rfl (lv_at hl 2 rfl) ?_
        refine lv_iconst (v := 0) hx hb dX3_tellNumber_33 ic_0 ?_
        refine lv_bipush (v := 100) hx hb dX3_tellNumber_34 ib_100 ?_
        refine x_goesZ (x_runSN (As := [.int a2, .int (0 : Int32), .int (100 : Int32)]) (rest := []) F hP hS (c_X11_within l D cT lo NB w ad a2 (0 : Int32) (100 : Int32)) cw_X11_within nl_X3_44 st_X11_within ⟨rfl, rfl, Nat.le_of_ble_eq_true rfl, Nat.le_of_ble_eq_true rfl⟩ hl.1 rfl (Nat.le_of_ble_eq_true rfl) dX3_tellNumber_36 ⟨Nat.zero_le _, Nat.zero_le _⟩) hS (fun H locs hz_36 hP hS _ => ?_)
        refine lv_if_eq (tgt := 55) hx hb dX3_tellNumber_39 (by decide) (fun hc => ?_) (fun hc => ?_)
        · have h := if_t _ hc h
          exact J_55  h _ _ _ hP hS (lv_sub hl [0, 1, 2] rfl)
        · have h := if_f _ hc h
          refine lv_aload_n hx hb dX3_tellNumber_42 rfl (lv_at hl 0 rfl) ?_
          refine y_geti h F hP k_3 (n2 (hP.al 3 rfl)) fl_X3_24 rfl dX3_tellNumber_43 (fun v_43 h => ?_)
          refine lv_istore_n (lv' := [(3, .int v_43), (0, .ref (ad 3)), (1, .int a1), (2, .int a2)]) hx hb dX3_tellNumber_46 rfl hl (Nat.le_of_ble_eq_true rfl) rfl (fun ls hl => ?_)
          refine lv_aload_n hx hb dX3_tellNumber_47 rfl (lv_at hl 1 rfl) ?_
          refine lv_iload_n hx hb dX3_tellNumber_48 rfl (lv_at hl 3 rfl) ?_
          refine y_puti h F hP hS k_3 (n2 (hP.al 3 rfl)) fl_X3_24 rfl dX3_tellNumber_49 (fun w_49 H locs hm h hP hS => ?_)
          have hM_w := hm
          refine lv_goto (tgt := 86) hx hb dX3_tellNumber_52 (by decide) ?_
          refine lv_iload_n hx hb dX3_tellNumber_86 rfl (lv_at hl 0 rfl) ?_
          exact y_iretM h F hr hP hS hM_w hlk dX3_tellNumber_87
  · refine lv_if_ne (tgt := 27) hx hb dX3_tellNumber_1 (by decide) (fun hc => ?_) (fun hc => ?_)
    · have h := if_f _ hc h
      exact J_27  h _ _ _ hP hS (lv_sub hl [0, 1, 2] rfl)
    · have h := if_t _ hc h
      refine lv_iload_n hx hb dX3_tellNumber_4 rfl (lv_at hl 2 rfl) ?_
      refine lv_iconst (v := 1) hx hb dX3_tellNumber_5 ic_1 ?_
      refine lv_bipush (v := 9) hx hb dX3_tellNumber_6 ib_9 ?_
      refine x_goesZ (x_runSN (As := [.int a2, .int (1 : Int32), .int (9 : Int32)]) (rest := []) F hP hS (c_X11_within l D cT lo NB w ad a2 (1 : Int32) (9 : Int32)) cw_X11_within nl_X3_44 st_X11_within ⟨rfl, rfl, Nat.le_of_ble_eq_true rfl, Nat.le_of_ble_eq_true rfl⟩ hl.1 rfl (Nat.le_of_ble_eq_true rfl) dX3_tellNumber_8 ⟨Nat.zero_le _, Nat.zero_le _⟩) hS (fun H locs hz_8 hP hS _ => ?_)
      refine lv_if_eq (tgt := 27) hx hb dX3_tellNumber_11 (by decide) (fun hc => ?_) (fun hc => ?_)
      · have h := if_t _ hc h
        exact J_27  h _ _ _ hP hS (lv_sub hl [0, 1, 2] rfl)
      · have h := if_f _ hc h
        refine lv_aload_n hx hb dX3_tellNumber_14 rfl (lv_at hl 0 rfl) ?_
        refine y_geti h F hP k_3 (n2 (hP.al 3 rfl)) fl_X3_21 rfl dX3_tellNumber_15 (fun v_15 h => ?_)
        refine lv_istore_n (lv' := [(3, .int v_15), (0, .ref (ad 3)), (1, .int a1), (2, .int a2)]) hx hb dX3_tellNumber_18 rfl hl (Nat.le_of_ble_eq_true rfl) rfl (fun ls hl => ?_)
        refine lv_aload_n hx hb dX3_tellNumber_19 rfl (lv_at hl 1 rfl) ?_
        refine lv_iload_n hx hb dX3_tellNumber_20 rfl (lv_at hl 3 rfl) ?_
        refine y_puti h F hP hS k_3 (n2 (hP.al 3 rfl)) fl_X3_21 rfl dX3_tellNumber_21 (fun w_21 H locs hm h hP hS => ?_)
        have hM_w := hm
        refine lv_goto (tgt := 86) hx hb dX3_tellNumber_24 (by decide) ?_
        refine lv_iload_n hx hb dX3_tellNumber_86 rfl (lv_at hl 0 rfl) ?_
        exact y_iretM h F hr hP hS hM_w hlk dX3_tellNumber_87
def f_X3_aim (w : Wd) (a1 : Nat) (a2 : Int32) (a3 : Int32) (a4 : Int32) (a5 : Int32) : Option Wd :=
if (2 : Int32) ≤ a5 then
q_lt ((a5 - (2 : Int32)) - (a5 - (2 : Int32)) / (4 : Int32) * (4 : Int32)) (fun v_68 =>
q_jn (fun (s0_92 : Int32) =>
q_pt w 3 10 (s0_92 - s0_92 / (36 : Int32) * (36 : Int32)) (fun w_95 =>
q_gt w_95 3 10 (fun v_113 =>
q_pt w_95 3 8 ((a2 + (f_X1_wheelX w_95 a1 v_68 a4)) - (f_X1_wheelX w_95 a1 v_68 v_113)) (fun w_120 =>
q_gt w_120 3 10 (fun v_138 =>
q_pt w_120 3 9 ((a3 + (f_X1_wheelY w_120 a1 v_68 a4)) - (f_X1_wheelY w_120 a1 v_68 v_138)) (fun w_145 =>
some w_145)))))) (fun j_92 =>
if (6 : Int32) ≤ a5 then
j_92 ((a4 + (36 : Int32)) - (1 : Int32))
else
j_92 (a4 + (1 : Int32))))
else
q_jn (fun (s0_23 : Int32) =>
q_pt w 3 8 (a2 + (s0_23 * (f_X11_cosine a4))) (fun w_36 =>
q_pt w_36 3 9 (a3 + (s0_23 * (f_X11_sine a4))) (fun w_50 =>
q_pt w_50 3 10 a4 (fun w_56 =>
some w_56)))) (fun j_23 =>
if a5 = 0 then
q_gt w 3 3 (fun v_12 =>
j_23 v_12)
else
q_gt w 3 3 (fun v_19 =>
j_23 (-v_19)))
set_option maxRecDepth 100000 in
set_option maxHeartbeats 4000000 in
theorem c_X3_aim (l : Launch) (D : va_G) (cT : Nat → ClassId) (lo : Nat) (w : Wd) (ad : Nat → Nat) (a1 : Nat) (hk1 : kt a1 = (11, 0)) (ha1 : wA w a1 = 2) (a2 : Int32) (a3 : Int32) (a4 : Int32) (a5 : Int32) (w9 : Wd) (h : f_X3_aim w a1 a2 a3 a4 a5 = some w9) : Met l yX3_aim (.code yX3_aim cX3_aim 7 none :: TW) { frames := 3, cells := 0, slots := 0, locals := 64 } (mPc D cT lo NB w ad [.ref (ad 3), .ref (ad a1), .int a2, .int a3, .int a4, .int a5]) (mQ D cT lo NB w w9 ad none) 0 0 (fun q => lo ≤ q) := by
  unfold f_X3_aim at h
  refine x_met (lv := [(0, .ref (ad 3)), (1, .ref (ad a1)), (2, .int a2), (3, .int a3), (4, .int a4), (5, .int a5)]) (by decide +kernel) (Nat.le_of_ble_eq_true rfl) rfl ?_
  intro p e s m args below meth c ls F hr hlk hP hin hl
  have hx := F.1
  have hb := F.2.1
  have hS : va_S (fun q => lo ≤ q) s.heap s.heap [] := va_S.rf
  have hM_w : mono w w := mono.refl
  refine lv_iload hx hb dX3_aim_0 (lv_at hl 5 rfl) ?_
  refine lv_iconst (v := 2) hx hb dX3_aim_2 ic_2 ?_
  refine lv_icmp_ge (tgt := 62) hx hb dX3_aim_3 (by decide) (fun hc => ?_) (fun hc => ?_)
  · have h := if_t _ hc h
    refine lv_iload hx hb dX3_aim_62 (lv_at hl 5 rfl) ?_
    refine lv_iconst (v := 2) hx hb dX3_aim_64 ic_2 ?_
    refine lv_isub hx hb dX3_aim_65 ?_
    refine lv_iconst (v := 4) hx hb dX3_aim_66 ic_4 ?_
    refine lv_irem hx hb dX3_aim_67 (by decide) ?_
    refine y_let h (fun v_68 h => ?_)
    refine lv_istore (lv' := [(6, .int v_68), (0, .ref (ad 3)), (1, .ref (ad a1)), (2, .int a2), (3, .int a3), (4, .int a4), (5, .int a5)]) hx hb dX3_aim_68 hl (Nat.le_of_ble_eq_true rfl) rfl (fun ls hl => ?_)
    refine lv_aload_n hx hb dX3_aim_70 rfl (lv_at hl 1 rfl) ?_
    refine lv_iload hx hb dX3_aim_71 (lv_at hl 6 rfl) ?_
    refine lv_bipush (v := 6) hx hb dX3_aim_73 ib_6 ?_
    refine jn_use (fun (j_92 : Int32 → Option Wd) => ∀ (s0_92 : Int32), j_92 s0_92 = some w9 → GG p l e { frames := 3, cells := 0, slots := 0, locals := 64 } s m args below meth c 0 0 (MQ below (mQ D cT lo NB w w9 ad none) args s 0 0 (fun q => lo ≤ q)) D cT lo NB 7 ad w 92 [(6, .int v_68), (0, .ref (ad 3)), (1, .ref (ad a1)), (2, .int a2), (3, .int a3), (4, .int a4)] [.int s0_92, .ref (ad 3)]) h (fun s0_92 h H locs ls hP hS hl => ?_) (fun j_92 J_92 h => ?_)
    · refine lv_bipush (v := 36) hx hb dX3_aim_92 ib_36 ?_
      refine lv_irem hx hb dX3_aim_94 (by decide) ?_
      refine y_puti h F hP hS k_3 (n2 (hP.al 3 rfl)) fl_X3_74 rfl dX3_aim_95 (fun w_95 H locs hm h hP hS => ?_)
      have hM_w := hm
      have ha1 := hm.2 _ ha1
      refine lv_aload_n hx hb dX3_aim_98 rfl (lv_at hl 1 rfl) ?_
      refine lv_iload_n hx hb dX3_aim_99 rfl (lv_at hl 3 rfl) ?_
      refine lv_aload_n hx hb dX3_aim_100 rfl (lv_at hl 2 rfl) ?_
      refine lv_iload hx hb dX3_aim_101 (lv_at hl 0 rfl) ?_
      refine lv_iload hx hb dX3_aim_103 (lv_at hl 5 rfl) ?_
      refine x_goes (x_runV (As := [.int v_68, .int a4]) (rest := [.int a2, .ref (ad 3)]) F hP hS (c_X1_wheelX l D cT lo NB w_95 ad a1 hk1 ha1 v_68 a4) cw_X1_wheelX lk_X3_95 vi_X1_wheelX hk1 (n2 ha1) rfl ⟨rfl, rfl, Nat.le_of_ble_eq_true rfl, Nat.le_of_ble_eq_true rfl⟩ hl.1 rfl (Nat.le_of_ble_eq_true rfl) dX3_aim_105 ⟨Nat.zero_le _, Nat.zero_le _⟩) hS (fun H locs hP hS _ => ?_)
      refine lv_iadd hx hb dX3_aim_108 ?_
      refine lv_aload_n hx hb dX3_aim_109 rfl (lv_at hl 2 rfl) ?_
      refine lv_iload hx hb dX3_aim_110 (lv_at hl 0 rfl) ?_
      refine lv_aload_n hx hb dX3_aim_112 rfl (lv_at hl 1 rfl) ?_
      refine y_geti h F hP k_3 (n2 (hP.al 3 rfl)) fl_X3_74 rfl dX3_aim_113 (fun v_113 h => ?_)
      refine x_goes (x_runV (As := [.int v_68, .int v_113]) (rest := [.int (a2 + (f_X1_wheelX w_95 a1 v_68 a4)), .ref (ad 3)]) F hP hS (c_X1_wheelX l D cT lo NB w_95 ad a1 hk1 ha1 v_68 v_113) cw_X1_wheelX lk_X3_95 vi_X1_wheelX hk1 (n2 ha1) rfl ⟨rfl, rfl, Nat.le_of_ble_eq_true rfl, Nat.le_of_ble_eq_true rfl⟩ hl.1 rfl (Nat.le_of_ble_eq_true rfl) dX3_aim_116 ⟨Nat.zero_le _, Nat.zero_le _⟩) hS (fun H locs hP hS _ => ?_)
      refine lv_isub hx hb dX3_aim_119 ?_
      refine y_puti h F hP hS k_3 (n2 (hP.al 3 rfl)) fl_X3_68 rfl dX3_aim_120 (fun w_120 H locs hm h hP hS => ?_)
      have hM_w := hM_w.trans hm
      have ha1 := hm.2 _ ha1
      refine lv_aload_n hx hb dX3_aim_123 rfl (lv_at hl 1 rfl) ?_
      refine lv_iload_n hx hb dX3_aim_124 rfl (lv_at hl 4 rfl) ?_
      refine lv_aload_n hx hb dX3_aim_125 rfl (lv_at hl 2 rfl) ?_
      refine lv_iload hx hb dX3_aim_126 (lv_at hl 0 rfl) ?_
      refine lv_iload hx hb dX3_aim_128 (lv_at hl 5 rfl) ?_
      refine x_goes (x_runV (As := [.int v_68, .int a4]) (rest := [.int a3, .ref (ad 3)]) F hP hS (c_X1_wheelY l D cT lo NB w_120 ad a1 hk1 ha1 v_68 a4) cw_X1_wheelY lk_X3_99 vi_X1_wheelY hk1 (n2 ha1) rfl ⟨rfl, rfl, Nat.le_of_ble_eq_true rfl, Nat.le_of_ble_eq_true rfl⟩ hl.1 rfl (Nat.le_of_ble_eq_true rfl) dX3_aim_130 ⟨Nat.zero_le _, Nat.zero_le _⟩) hS (fun H locs hP hS _ => ?_)
      refine lv_iadd hx hb dX3_aim_133 ?_
      refine lv_aload_n hx hb dX3_aim_134 rfl (lv_at hl 2 rfl) ?_
      refine lv_iload hx hb dX3_aim_135 (lv_at hl 0 rfl) ?_
      refine lv_aload_n hx hb dX3_aim_137 rfl (lv_at hl 1 rfl) ?_
      refine y_geti h F hP k_3 (n2 (hP.al 3 rfl)) fl_X3_74 rfl dX3_aim_138 (fun v_138 h => ?_)
      refine x_goes (x_runV (As := [.int v_68, .int v_138]) (rest := [.int (a3 + (f_X1_wheelY w_120 a1 v_68 a4)), .ref (ad 3)]) F hP hS (c_X1_wheelY l D cT lo NB w_120 ad a1 hk1 ha1 v_68 v_138) cw_X1_wheelY lk_X3_99 vi_X1_wheelY hk1 (n2 ha1) rfl ⟨rfl, rfl, Nat.le_of_ble_eq_true rfl, Nat.le_of_ble_eq_true rfl⟩ hl.1 rfl (Nat.le_of_ble_eq_true rfl) dX3_aim_141 ⟨Nat.zero_le _, Nat.zero_le _⟩) hS (fun H locs hP hS _ => ?_)
      refine lv_isub hx hb dX3_aim_144 ?_
      refine y_puti h F hP hS k_3 (n2 (hP.al 3 rfl)) fl_X3_71 rfl dX3_aim_145 (fun w_145 H locs hm h hP hS => ?_)
      have hM_w := hM_w.trans hm
      have ha1 := hm.2 _ ha1
      exact y_vret h F hr hP hS hM_w hlk dX3_aim_148
    · refine lv_icmp_ge (tgt := 85) hx hb dX3_aim_75 (by decide) (fun hc => ?_) (fun hc => ?_)
      · have h := if_t _ hc h
        refine lv_iload hx hb dX3_aim_85 (lv_at hl 5 rfl) ?_
        refine lv_bipush (v := 36) hx hb dX3_aim_87 ib_36 ?_
        refine lv_iadd hx hb dX3_aim_89 ?_
        refine lv_iconst (v := 1) hx hb dX3_aim_90 ic_1 ?_
        refine lv_isub hx hb dX3_aim_91 ?_
        exact J_92 ((a4 + (36 : Int32)) - (1 : Int32)) h _ _ _ hP hS (lv_sub hl [0, 1, 2, 3, 4, 5] rfl)
      · have h := if_f _ hc h
        refine lv_iload hx hb dX3_aim_78 (lv_at hl 5 rfl) ?_
        refine lv_iconst (v := 1) hx hb dX3_aim_80 ic_1 ?_
        refine lv_iadd hx hb dX3_aim_81 ?_
        refine lv_goto (tgt := 92) hx hb dX3_aim_82 (by decide) ?_
        exact J_92 (a4 + (1 : Int32)) h _ _ _ hP hS (lv_sub hl [0, 1, 2, 3, 4, 5] rfl)
  · have h := if_f _ hc h
    refine lv_iload hx hb dX3_aim_6 (lv_at hl 5 rfl) ?_
    refine jn_use (fun (j_23 : Int32 → Option Wd) => ∀ (s0_23 : Int32), j_23 s0_23 = some w9 → GG p l e { frames := 3, cells := 0, slots := 0, locals := 64 } s m args below meth c 0 0 (MQ below (mQ D cT lo NB w w9 ad none) args s 0 0 (fun q => lo ≤ q)) D cT lo NB 7 ad w 23 [(0, .ref (ad 3)), (2, .int a2), (3, .int a3), (4, .int a4)] [.int s0_23]) h (fun s0_23 h H locs ls hP hS hl => ?_) (fun j_23 J_23 h => ?_)
    · refine lv_istore (lv' := [(6, .int s0_23), (0, .ref (ad 3)), (2, .int a2), (3, .int a3), (4, .int a4)]) hx hb dX3_aim_23 hl (Nat.le_of_ble_eq_true rfl) rfl (fun ls hl => ?_)
      refine lv_aload_n hx hb dX3_aim_25 rfl (lv_at hl 1 rfl) ?_
      refine lv_iload_n hx hb dX3_aim_26 rfl (lv_at hl 2 rfl) ?_
      refine lv_iload hx hb dX3_aim_27 (lv_at hl 0 rfl) ?_
      refine lv_iload hx hb dX3_aim_29 (lv_at hl 4 rfl) ?_
      refine x_goes (x_runSN (As := [.int a4]) (rest := [.int s0_23, .int a2, .ref (ad 3)]) F hP hS (c_X11_cosine l D cT lo NB w ad a4) cw_X11_cosine nl_X3_88 st_X11_cosine ⟨rfl, rfl, Nat.le_of_ble_eq_true rfl, Nat.le_of_ble_eq_true rfl⟩ hl.1 rfl (Nat.le_of_ble_eq_true rfl) dX3_aim_31 ⟨Nat.zero_le _, Nat.zero_le _⟩) hS (fun H locs hP hS _ => ?_)
      refine lv_imul hx hb dX3_aim_34 ?_
      refine lv_iadd hx hb dX3_aim_35 ?_
      refine y_puti h F hP hS k_3 (n2 (hP.al 3 rfl)) fl_X3_68 rfl dX3_aim_36 (fun w_36 H locs hm h hP hS => ?_)
      have hM_w := hm
      have ha1 := hm.2 _ ha1
      refine lv_aload_n hx hb dX3_aim_39 rfl (lv_at hl 1 rfl) ?_
      refine lv_iload_n hx hb dX3_aim_40 rfl (lv_at hl 3 rfl) ?_
      refine lv_iload hx hb dX3_aim_41 (lv_at hl 0 rfl) ?_
      refine lv_iload hx hb dX3_aim_43 (lv_at hl 4 rfl) ?_
      refine x_goes (x_runSN (As := [.int a4]) (rest := [.int s0_23, .int a3, .ref (ad 3)]) F hP hS (c_X11_sine l D cT lo NB w_36 ad a4) cw_X11_sine nl_X3_92 st_X11_sine ⟨rfl, rfl, Nat.le_of_ble_eq_true rfl, Nat.le_of_ble_eq_true rfl⟩ hl.1 rfl (Nat.le_of_ble_eq_true rfl) dX3_aim_45 ⟨Nat.zero_le _, Nat.zero_le _⟩) hS (fun H locs hP hS _ => ?_)
      refine lv_imul hx hb dX3_aim_48 ?_
      refine lv_iadd hx hb dX3_aim_49 ?_
      refine y_puti h F hP hS k_3 (n2 (hP.al 3 rfl)) fl_X3_71 rfl dX3_aim_50 (fun w_50 H locs hm h hP hS => ?_)
      have hM_w := hM_w.trans hm
      have ha1 := hm.2 _ ha1
      refine lv_aload_n hx hb dX3_aim_53 rfl (lv_at hl 1 rfl) ?_
      refine lv_iload hx hb dX3_aim_54 (lv_at hl 4 rfl) ?_
      refine y_puti h F hP hS k_3 (n2 (hP.al 3 rfl)) fl_X3_74 rfl dX3_aim_56 (fun w_56 H locs hm h hP hS => ?_)
      have hM_w := hM_w.trans hm
      have ha1 := hm.2 _ ha1
      refine lv_goto (tgt := 148) hx hb dX3_aim_59 (by decide) ?_
      exact y_vret h F hr hP hS hM_w hlk dX3_aim_148
    · refine lv_if_ne (tgt := 18) hx hb dX3_aim_8 (by decide) (fun hc => ?_) (fun hc => ?_)
      · have h := if_f _ hc h
        refine lv_aload_n hx hb dX3_aim_18 rfl (lv_at hl 0 rfl) ?_
        refine y_geti h F hP k_3 (n2 (hP.al 3 rfl)) fl_X3_17 rfl dX3_aim_19 (fun v_19 h => ?_)
        refine lv_ineg hx hb dX3_aim_22 ?_
        exact J_23 (-v_19) h _ _ _ hP hS (lv_sub hl [0, 2, 3, 4] rfl)
      · have h := if_t _ hc h
        refine lv_aload_n hx hb dX3_aim_11 rfl (lv_at hl 0 rfl) ?_
        refine y_geti h F hP k_3 (n2 (hP.al 3 rfl)) fl_X3_17 rfl dX3_aim_12 (fun v_12 h => ?_)
        refine lv_goto (tgt := 23) hx hb dX3_aim_15 (by decide) ?_
        exact J_23 v_12 h _ _ _ hP hS (lv_sub hl [0, 2, 3, 4] rfl)
def l_X3_storeyTouches_10 (a1 : Nat) (a2 : Int32) (a3 : Nat) (w : Wd) (q_5 : Nat) : Nat → Int32 → Option Int32
  | 0, _ => none
  | n_10 + 1, x4_10l =>
    q_gt w a3 7 (fun v_13 =>
    if v_13 ≤ x4_10l then
    some (0 : Int32)
    else
    q_ldq w (a3 + 4) 5 x4_10l (fun q_25 =>
    q_bo (f_X1_footOf w a1 a2) (fun v_30 =>
    q_bo (f_X1_heightOf w a3 x4_10l) (fun v_36 =>
    q_jn (q_lt (x4_10l + (1 : Int32)) (fun v_76 =>
    l_X3_storeyTouches_10 a1 a2 a3 w q_5 n_10 v_76)) (fun j_76 =>
    if v_36 ≤ v_30 then
    j_76
    else
    q_bo (f_X1_footOf w a3 x4_10l) (fun v_45 =>
    q_bo (f_X1_heightOf w a1 a2) (fun v_50 =>
    if v_50 ≤ v_45 then
    j_76
    else
    if (f_X5_liesApartFrom w q_5 q_25) = 0 then
    if (f_X5_liesApartFrom w q_25 q_5) = 0 then
    some (1 : Int32)
    else
    j_76
    else
    j_76)))))))
def f_X3_storeyTouches (w : Wd) (a1 : Nat) (a2 : Int32) (a3 : Nat) : Option Int32 :=
q_ldq w (a1 + 4) 5 a2 (fun q_5 =>
l_X3_storeyTouches_10 a1 a2 a3 w q_5 FU (0 : Int32))
set_option maxRecDepth 100000 in
set_option maxHeartbeats 4000000 in
theorem c_X3_storeyTouches (l : Launch) (D : va_G) (cT : Nat → ClassId) (lo nb : Nat) (w : Wd) (ad : Nat → Nat) (a1 : Nat) (hk1 : kt a1 = (11, 0)) (ha1 : wA w a1 = 2) (a2 : Int32) (a3 : Nat) (hk3 : kt a3 = (11, 0)) (ha3 : wA w a3 = 2) (r : Int32) (h : f_X3_storeyTouches w a1 a2 a3 = some r) : Met l yX3_storeyTouches (.code yX3_storeyTouches cX3_storeyTouches 6 (some .boolean) :: TW) { frames := 2, cells := 0, slots := 0, locals := 45 } (mPc D cT lo nb w ad [.ref (ad a1), .int a2, .ref (ad a3)]) (mQz D cT lo nb w w ad r) 0 0 (fun q => lo ≤ q) := by
  unfold f_X3_storeyTouches at h
  refine x_met (lv := [(0, .ref (ad a1)), (1, .int a2), (2, .ref (ad a3))]) (by decide +kernel) (Nat.le_of_ble_eq_true rfl) rfl ?_
  intro p e s m args below meth c ls F hr hlk hP hin hl
  have hx := F.1
  have hb := F.2.1
  have hS : va_S (fun q => lo ≤ q) s.heap s.heap [] := va_S.rf
  refine lv_aload_n hx hb dX3_storeyTouches_0 rfl (lv_at hl 0 rfl) ?_
  refine x_getr F hP hk1 ha1 fl_X3_132 rfl (carR_8 hk1) dX3_storeyTouches_1 ?_
  have ha_a1_4 := x_al hP hk1 ha1 (show ft 1 8 = 1 from rfl) (carR_8 hk1)
  refine lv_iload_n hx hb dX3_storeyTouches_4 rfl (lv_at hl 1 rfl) ?_
  refine y_aald h F hP (carK_8 hk1) (by decide) (by decide) (n2 ha_a1_4) (ek_rects (carK_8 hk1)) dX3_storeyTouches_5 (fun q_5 hk_q_5 ha_q_5 h => ?_)
  refine lv_astore_n (lv' := [(3, .ref (ad q_5)), (0, .ref (ad a1)), (1, .int a2), (2, .ref (ad a3))]) hx hb dX3_storeyTouches_6 rfl hl (Nat.le_of_ble_eq_true rfl) rfl (fun ls hl => ?_)
  refine lv_iconst (v := 0) hx hb dX3_storeyTouches_7 ic_0 ?_
  refine lv_istore (lv' := [(4, .int (0 : Int32)), (3, .ref (ad q_5)), (0, .ref (ad a1)), (1, .int a2), (2, .ref (ad a3))]) hx hb dX3_storeyTouches_8 hl (Nat.le_of_ble_eq_true rfl) rfl (fun ls hl => ?_)
  have L_10 : ∀ (n_10 : Nat) (x4_10l : Int32), l_X3_storeyTouches_10 a1 a2 a3 w q_5 n_10 x4_10l = some r → GG p l e { frames := 2, cells := 0, slots := 0, locals := 45 } s m args below meth c 0 0 (MQ below (mQz D cT lo nb w w ad r) args s 0 0 (fun q => lo ≤ q)) D cT lo nb 6 ad w 10 [(4, .int x4_10l), (3, .ref (ad q_5)), (0, .ref (ad a1)), (1, .int a2), (2, .ref (ad a3))] [] := by
    intro n_10
    induction n_10 with
    | zero =>
      intro x4_10l h
      exact absurd h (by unfold l_X3_storeyTouches_10; exact fun z => by cases z)
    | succ n_10 ih_10 =>
      intro x4_10l h H locs ls hP hS hl
      unfold l_X3_storeyTouches_10 at h
      refine lv_iload hx hb dX3_storeyTouches_10 (lv_at hl 0 rfl) ?_
      refine lv_aload_n hx hb dX3_storeyTouches_12 rfl (lv_at hl 4 rfl) ?_
      refine y_geti h F hP hk3 (n2 ha3) fl_X3_125 rfl dX3_storeyTouches_13 (fun v_13 h => ?_)
      refine lv_icmp_ge (tgt := 82) hx hb dX3_storeyTouches_16 (by decide) (fun hc => ?_) (fun hc => ?_)
      · have h := if_t _ hc h
        refine lv_iconst (v := 0) hx hb dX3_storeyTouches_82 ic_0 ?_
        exact y_zretO h F hr hP hS hlk rfl dX3_storeyTouches_83
      · have h := if_f _ hc h
        refine lv_aload_n hx hb dX3_storeyTouches_19 rfl (lv_at hl 4 rfl) ?_
        refine x_getr F hP hk3 ha3 fl_X3_132 rfl (carR_8 hk3) dX3_storeyTouches_20 ?_
        have ha_a3_4 := x_al hP hk3 ha3 (show ft 1 8 = 1 from rfl) (carR_8 hk3)
        refine lv_iload hx hb dX3_storeyTouches_23 (lv_at hl 0 rfl) ?_
        refine y_aald h F hP (carK_8 hk3) (by decide) (by decide) (n2 ha_a3_4) (ek_rects (carK_8 hk3)) dX3_storeyTouches_25 (fun q_25 hk_q_25 ha_q_25 h => ?_)
        refine lv_astore (lv' := [(5, .ref (ad q_25)), (4, .int x4_10l), (3, .ref (ad q_5)), (0, .ref (ad a1)), (1, .int a2), (2, .ref (ad a3))]) hx hb dX3_storeyTouches_26 hl (Nat.le_of_ble_eq_true rfl) rfl (fun ls hl => ?_)
        refine lv_aload_n hx hb dX3_storeyTouches_28 rfl (lv_at hl 3 rfl) ?_
        refine lv_iload_n hx hb dX3_storeyTouches_29 rfl (lv_at hl 4 rfl) ?_
        obtain ⟨v_30, hc_30, h⟩ := bo_s h
        refine x_goes (x_runV (As := [.int a2]) (rest := []) F hP hS (c_X1_footOf l D cT lo nb w ad a1 hk1 ha1 a2 v_30 hc_30) cw_X1_footOf lk_X3_136 vi_X1_footOf hk1 (n2 ha1) rfl ⟨rfl, rfl, Nat.le_of_ble_eq_true rfl, Nat.le_of_ble_eq_true rfl⟩ hl.1 rfl (Nat.le_of_ble_eq_true rfl) dX3_storeyTouches_30 ⟨Nat.zero_le _, Nat.zero_le _⟩) hS (fun H locs hP hS _ => ?_)
        refine lv_aload_n hx hb dX3_storeyTouches_33 rfl (lv_at hl 5 rfl) ?_
        refine lv_iload hx hb dX3_storeyTouches_34 (lv_at hl 1 rfl) ?_
        obtain ⟨v_36, hc_36, h⟩ := bo_s h
        refine x_goes (x_runV (As := [.int x4_10l]) (rest := [.int v_30]) F hP hS (c_X1_heightOf l D cT lo nb w ad a3 hk3 ha3 x4_10l v_36 hc_36) cw_X1_heightOf lk_X3_139 vi_X1_heightOf hk3 (n2 ha3) rfl ⟨rfl, rfl, Nat.le_of_ble_eq_true rfl, Nat.le_of_ble_eq_true rfl⟩ hl.1 rfl (Nat.le_of_ble_eq_true rfl) dX3_storeyTouches_36 ⟨Nat.zero_le _, Nat.zero_le _⟩) hS (fun H locs hP hS _ => ?_)
        refine jn_use (fun (j_76 : Option Int32) => j_76 = some r → GG p l e { frames := 2, cells := 0, slots := 0, locals := 45 } s m args below meth c 0 0 (MQ below (mQz D cT lo nb w w ad r) args s 0 0 (fun q => lo ≤ q)) D cT lo nb 6 ad w 76 [(4, .int x4_10l), (3, .ref (ad q_5)), (0, .ref (ad a1)), (1, .int a2), (2, .ref (ad a3))] []) h (fun h H locs ls hP hS hl => ?_) (fun j_76 J_76 h => ?_)
        · refine y_iinc (lv' := fun (v_76 : Int32) => [(4, .int v_76), (3, .ref (ad q_5)), (0, .ref (ad a1)), (1, .int a2), (2, .ref (ad a3))]) h F ic_1 dX3_storeyTouches_76 hl (kq := 0) rfl (Nat.le_of_ble_eq_true rfl) (fun _ => rfl) (fun v_76 ls hl h => ?_)
          refine lv_goto (tgt := 10) hx hb dX3_storeyTouches_79 (by decide) ?_
          exact ih_10 v_76 h _ _ _ hP hS (lv_sub hl [0, 1, 2, 3, 4] rfl)
        · refine lv_icmp_ge (tgt := 76) hx hb dX3_storeyTouches_39 (by decide) (fun hc => ?_) (fun hc => ?_)
          · have h := if_t _ hc h
            exact J_76  h _ _ _ hP hS (lv_sub hl [1, 2, 3, 4, 5] rfl)
          · have h := if_f _ hc h
            refine lv_aload_n hx hb dX3_storeyTouches_42 rfl (lv_at hl 5 rfl) ?_
            refine lv_iload hx hb dX3_storeyTouches_43 (lv_at hl 1 rfl) ?_
            obtain ⟨v_45, hc_45, h⟩ := bo_s h
            refine x_goes (x_runV (As := [.int x4_10l]) (rest := []) F hP hS (c_X1_footOf l D cT lo nb w ad a3 hk3 ha3 x4_10l v_45 hc_45) cw_X1_footOf lk_X3_136 vi_X1_footOf hk3 (n2 ha3) rfl ⟨rfl, rfl, Nat.le_of_ble_eq_true rfl, Nat.le_of_ble_eq_true rfl⟩ hl.1 rfl (Nat.le_of_ble_eq_true rfl) dX3_storeyTouches_45 ⟨Nat.zero_le _, Nat.zero_le _⟩) hS (fun H locs hP hS _ => ?_)
            refine lv_aload_n hx hb dX3_storeyTouches_48 rfl (lv_at hl 3 rfl) ?_
            refine lv_iload_n hx hb dX3_storeyTouches_49 rfl (lv_at hl 4 rfl) ?_
            obtain ⟨v_50, hc_50, h⟩ := bo_s h
            refine x_goes (x_runV (As := [.int a2]) (rest := [.int v_45]) F hP hS (c_X1_heightOf l D cT lo nb w ad a1 hk1 ha1 a2 v_50 hc_50) cw_X1_heightOf lk_X3_139 vi_X1_heightOf hk1 (n2 ha1) rfl ⟨rfl, rfl, Nat.le_of_ble_eq_true rfl, Nat.le_of_ble_eq_true rfl⟩ hl.1 rfl (Nat.le_of_ble_eq_true rfl) dX3_storeyTouches_50 ⟨Nat.zero_le _, Nat.zero_le _⟩) hS (fun H locs hP hS _ => ?_)
            refine lv_icmp_ge (tgt := 76) hx hb dX3_storeyTouches_53 (by decide) (fun hc => ?_) (fun hc => ?_)
            · have h := if_t _ hc h
              exact J_76  h _ _ _ hP hS (lv_sub hl [1, 2, 3, 4, 5] rfl)
            · have h := if_f _ hc h
              refine lv_aload_n hx hb dX3_storeyTouches_56 rfl (lv_at hl 2 rfl) ?_
              refine lv_aload hx hb dX3_storeyTouches_57 (lv_at hl 0 rfl) ?_
              refine x_goesZ (x_runV (As := [.ref (ad q_25)]) (rest := []) F hP hS (c_X5_liesApartFrom l D cT lo nb w ad q_5 hk_q_5 ha_q_5 q_25 hk_q_25 ha_q_25) cw_X5_liesApartFrom lk_X3_142 vi_X5_liesApartFrom hk_q_5 (n2 ha_q_5) rfl ⟨rfl, rfl, Nat.le_of_ble_eq_true rfl, Nat.le_of_ble_eq_true rfl⟩ hl.1 rfl (Nat.le_of_ble_eq_true rfl) dX3_storeyTouches_59 ⟨Nat.zero_le _, Nat.zero_le _⟩) hS (fun H locs hz_59 hP hS _ => ?_)
              refine lv_if_ne (tgt := 76) hx hb dX3_storeyTouches_62 (by decide) (fun hc => ?_) (fun hc => ?_)
              · have h := if_f _ hc h
                exact J_76  h _ _ _ hP hS (lv_sub hl [1, 2, 3, 4, 5] rfl)
              · have h := if_t _ hc h
                refine lv_aload hx hb dX3_storeyTouches_65 (lv_at hl 0 rfl) ?_
                refine lv_aload_n hx hb dX3_storeyTouches_67 rfl (lv_at hl 2 rfl) ?_
                refine x_goesZ (x_runV (As := [.ref (ad q_5)]) (rest := []) F hP hS (c_X5_liesApartFrom l D cT lo nb w ad q_25 hk_q_25 ha_q_25 q_5 hk_q_5 ha_q_5) cw_X5_liesApartFrom lk_X3_142 vi_X5_liesApartFrom hk_q_25 (n2 ha_q_25) rfl ⟨rfl, rfl, Nat.le_of_ble_eq_true rfl, Nat.le_of_ble_eq_true rfl⟩ hl.1 rfl (Nat.le_of_ble_eq_true rfl) dX3_storeyTouches_68 ⟨Nat.zero_le _, Nat.zero_le _⟩) hS (fun H locs hz_68 hP hS _ => ?_)
                refine lv_if_ne (tgt := 76) hx hb dX3_storeyTouches_71 (by decide) (fun hc => ?_) (fun hc => ?_)
                · have h := if_f _ hc h
                  exact J_76  h _ _ _ hP hS (lv_sub hl [1, 2, 3, 4, 5] rfl)
                · have h := if_t _ hc h
                  refine lv_iconst (v := 1) hx hb dX3_storeyTouches_74 ic_1 ?_
                  exact y_zretO h F hr hP hS hlk rfl dX3_storeyTouches_75
  exact L_10 FU (0 : Int32) h _ _ _ hP hS (lv_sub hl [0, 1, 2, 3, 4] rfl)
def l_X3_carMet_51 (a1 : Nat) (x2_2l : Int32) (q_15 : Nat) (j_78 : Wd → Option (Int32 × Wd)) (w_45 : Wd) : Nat → Int32 → Option (Int32 × Wd)
  | 0, _ => none
  | n_51 + 1, x4_51l =>
    q_gt w_45 a1 7 (fun v_54 =>
    if v_54 ≤ x4_51l then
    j_78 w_45
    else
    q_bo (f_X3_storeyTouches w_45 a1 x4_51l q_15) (fun v_64 =>
    if v_64 = 0 then
    q_lt (x4_51l + (1 : Int32)) (fun v_72 =>
    l_X3_carMet_51 a1 x2_2l q_15 j_78 w_45 n_51 v_72)
    else
    some (x2_2l, w_45)))
def l_X3_carMet_2 (a1 : Nat) : Nat → Wd → Int32 → Option (Int32 × Wd)
  | 0, _, _ => none
  | n_2 + 1, w_2l, x2_2l =>
    q_gt w_2l 3 2 (fun v_4 =>
    if v_4 ≤ x2_2l then
    some ((-1 : Int32), w_2l)
    else
    q_ldq w_2l 22 4 x2_2l (fun q_15 =>
    q_jn (fun (w_78j : Wd) =>
    q_lt (x2_2l + (1 : Int32)) (fun v_78 =>
    l_X3_carMet_2 a1 n_2 w_78j v_78)) (fun j_78 =>
    if q_15 = a1 then
    j_78 w_2l
    else
    q_gt w_2l q_15 12 (fun v_23 =>
    if v_23 = 0 then
    j_78 w_2l
    else
    q_gt w_2l q_15 9 (fun v_34 =>
    q_gt w_2l q_15 10 (fun v_38 =>
    q_gt w_2l q_15 11 (fun v_42 =>
    q_bo (f_X1_layAt w_2l q_15 v_34 v_38 v_42) (fun w_45 =>
    l_X3_carMet_51 a1 x2_2l q_15 j_78 w_45 FU (0 : Int32)))))))))
def f_X3_carMet (w : Wd) (a1 : Nat) : Option (Int32 × Wd) :=
l_X3_carMet_2 a1 FU w (0 : Int32)
set_option maxRecDepth 100000 in
set_option maxHeartbeats 4000000 in
theorem c_X3_carMet (l : Launch) (D : va_G) (cT : Nat → ClassId) (lo : Nat) (w : Wd) (ad : Nat → Nat) (a1 : Nat) (hk1 : kt a1 = (11, 0)) (ha1 : wA w a1 = 2) (r : Int32) (w9 : Wd) (h : f_X3_carMet w a1 = some (r, w9)) : Met l yX3_carMet (.code yX3_carMet cX3_carMet 5 (some .int) :: TW) { frames := 3, cells := 0, slots := 0, locals := 75 } (mPc D cT lo NB w ad [.ref (ad 3), .ref (ad a1)]) (mQ D cT lo NB w w9 ad (some (.int r))) 0 0 (fun q => lo ≤ q) := by
  unfold f_X3_carMet at h
  refine x_met (lv := [(0, .ref (ad 3)), (1, .ref (ad a1))]) (by decide +kernel) (Nat.le_of_ble_eq_true rfl) rfl ?_
  intro p e s m args below meth c ls F hr hlk hP hin hl
  have hx := F.1
  have hb := F.2.1
  have hS : va_S (fun q => lo ≤ q) s.heap s.heap [] := va_S.rf
  have hM_w : mono w w := mono.refl
  refine lv_iconst (v := 0) hx hb dX3_carMet_0 ic_0 ?_
  refine lv_istore_n (lv' := [(2, .int (0 : Int32)), (0, .ref (ad 3)), (1, .ref (ad a1))]) hx hb dX3_carMet_1 rfl hl (Nat.le_of_ble_eq_true rfl) rfl (fun ls hl => ?_)
  have L_2 : ∀ (n_2 : Nat) (w_2l : Wd) (x2_2l : Int32), mono w w_2l → l_X3_carMet_2 a1 n_2 w_2l x2_2l = some (r, w9) → GG p l e { frames := 3, cells := 0, slots := 0, locals := 75 } s m args below meth c 0 0 (MQ below (mQ D cT lo NB w w9 ad (some (.int r))) args s 0 0 (fun q => lo ≤ q)) D cT lo NB 5 ad w_2l 2 [(2, .int x2_2l), (0, .ref (ad 3)), (1, .ref (ad a1))] [] := by
    intro n_2
    induction n_2 with
    | zero =>
      intro w_2l x2_2l _ h
      exact absurd h (by unfold l_X3_carMet_2; exact fun z => by cases z)
    | succ n_2 ih_2 =>
      intro w_2l x2_2l hm h H locs ls hP hS hl
      unfold l_X3_carMet_2 at h
      have hM_w := hm
      have ha1 := hm.2 _ ha1
      refine lv_iload_n hx hb dX3_carMet_2 rfl (lv_at hl 0 rfl) ?_
      refine lv_aload_n hx hb dX3_carMet_3 rfl (lv_at hl 1 rfl) ?_
      refine y_geti h F hP k_3 (n2 (hP.al 3 rfl)) fl_X3_41 rfl dX3_carMet_4 (fun v_4 h => ?_)
      refine lv_icmp_ge (tgt := 84) hx hb dX3_carMet_7 (by decide) (fun hc => ?_) (fun hc => ?_)
      · have h := if_t _ hc h
        refine lv_iconst (v := -1) hx hb dX3_carMet_84 ic_m1 ?_
        exact y_iretM h F hr hP hS hM_w hlk dX3_carMet_85
      · have h := if_f _ hc h
        refine lv_aload_n hx hb dX3_carMet_10 rfl (lv_at hl 1 rfl) ?_
        refine x_getr F hP k_3 (hP.al 3 rfl) fl_X3_13 rfl r_3_1 dX3_carMet_11 ?_
        refine lv_iload_n hx hb dX3_carMet_14 rfl (lv_at hl 0 rfl) ?_
        refine y_aald h F hP k_22 (by decide) (by decide) (n2 (hP.al 22 rfl)) ek_22 dX3_carMet_15 (fun q_15 hk_q_15 ha_q_15 h => ?_)
        refine lv_astore_n (lv' := [(3, .ref (ad q_15)), (2, .int x2_2l), (0, .ref (ad 3)), (1, .ref (ad a1))]) hx hb dX3_carMet_16 rfl hl (Nat.le_of_ble_eq_true rfl) rfl (fun ls hl => ?_)
        refine lv_aload_n hx hb dX3_carMet_17 rfl (lv_at hl 0 rfl) ?_
        refine lv_aload_n hx hb dX3_carMet_18 rfl (lv_at hl 3 rfl) ?_
        refine jn_use (fun (j_78 : Wd → Option (Int32 × Wd)) => ∀ (w_78j : Wd), mono w_2l w_78j → j_78 w_78j = some (r, w9) → GG p l e { frames := 3, cells := 0, slots := 0, locals := 75 } s m args below meth c 0 0 (MQ below (mQ D cT lo NB w w9 ad (some (.int r))) args s 0 0 (fun q => lo ≤ q)) D cT lo NB 5 ad w_78j 78 [(2, .int x2_2l), (0, .ref (ad 3)), (1, .ref (ad a1))] []) h (fun w_78j hm h H locs ls hP hS hl => ?_) (fun j_78 J_78 h => ?_)
        · have hM_w := hM_w.trans hm
          have hM_w_2l := hm
          have ha1 := hm.2 _ ha1
          have ha_q_15 := hm.2 _ ha_q_15
          refine y_iinc (lv' := fun (v_78 : Int32) => [(2, .int v_78), (0, .ref (ad 3)), (1, .ref (ad a1))]) h F ic_1 dX3_carMet_78 hl (kq := 0) rfl (Nat.le_of_ble_eq_true rfl) (fun _ => rfl) (fun v_78 ls hl h => ?_)
          refine lv_goto (tgt := 2) hx hb dX3_carMet_81 (by decide) ?_
          exact ih_2 w_78j v_78 hM_w h _ _ _ hP hS (lv_sub hl [0, 1, 2] rfl)
        · refine y_acmp_eq (tgt := 78) F hP (n2 ha_q_15) (n2 ha1) dX3_carMet_19 (by decide) (fun hc => ?_) (fun hc => ?_)
          · have h := if_t _ hc h
            exact J_78 w_2l mono.refl h _ _ _ hP hS (lv_sub hl [1, 2, 3] rfl)
          · have h := if_f _ hc h
            refine lv_aload_n hx hb dX3_carMet_22 rfl (lv_at hl 0 rfl) ?_
            refine y_geti h F hP hk_q_15 (n2 ha_q_15) fl_X3_51 rfl dX3_carMet_23 (fun v_23 h => ?_)
            refine lv_if_ne (tgt := 32) hx hb dX3_carMet_26 (by decide) (fun hc => ?_) (fun hc => ?_)
            · have h := if_f _ hc h
              refine lv_aload_n hx hb dX3_carMet_32 rfl (lv_at hl 0 rfl) ?_
              refine lv_aload_n hx hb dX3_carMet_33 rfl (lv_at hl 0 rfl) ?_
              refine y_geti h F hP hk_q_15 (n2 ha_q_15) fl_X3_55 rfl dX3_carMet_34 (fun v_34 h => ?_)
              refine lv_aload_n hx hb dX3_carMet_37 rfl (lv_at hl 0 rfl) ?_
              refine y_geti h F hP hk_q_15 (n2 ha_q_15) fl_X3_58 rfl dX3_carMet_38 (fun v_38 h => ?_)
              refine lv_aload_n hx hb dX3_carMet_41 rfl (lv_at hl 0 rfl) ?_
              refine y_geti h F hP hk_q_15 (n2 ha_q_15) fl_X3_61 rfl dX3_carMet_42 (fun v_42 h => ?_)
              obtain ⟨w_45, hc_45, h⟩ := bo_s h
              refine x_goes (x_runV (As := [.int v_34, .int v_38, .int v_42]) (rest := []) F hP hS (c_X1_layAt l D cT lo NB w_2l ad q_15 hk_q_15 ha_q_15 v_34 v_38 v_42 w_45 hc_45) cw_X1_layAt lk_X3_102 vi_X1_layAt hk_q_15 (n2 ha_q_15) rfl ⟨rfl, rfl, Nat.le_of_ble_eq_true rfl, Nat.le_of_ble_eq_true rfl⟩ hl.1 rfl (Nat.le_of_ble_eq_true rfl) dX3_carMet_45 ⟨Nat.zero_le _, Nat.zero_le _⟩) hS (fun H locs hP hS hm => ?_)
              have hM_w := hM_w.trans hm
              have hM_w_2l := hm
              have ha1 := hm.2 _ ha1
              have ha_q_15 := hm.2 _ ha_q_15
              refine lv_iconst (v := 0) hx hb dX3_carMet_48 ic_0 ?_
              refine lv_istore (lv' := [(4, .int (0 : Int32)), (3, .ref (ad q_15)), (2, .int x2_2l), (0, .ref (ad 3)), (1, .ref (ad a1))]) hx hb dX3_carMet_49 hl (Nat.le_of_ble_eq_true rfl) rfl (fun ls hl => ?_)
              have L_51 : ∀ (n_51 : Nat) (x4_51l : Int32), l_X3_carMet_51 a1 x2_2l q_15 j_78 w_45 n_51 x4_51l = some (r, w9) → GG p l e { frames := 3, cells := 0, slots := 0, locals := 75 } s m args below meth c 0 0 (MQ below (mQ D cT lo NB w w9 ad (some (.int r))) args s 0 0 (fun q => lo ≤ q)) D cT lo NB 5 ad w_45 51 [(4, .int x4_51l), (3, .ref (ad q_15)), (2, .int x2_2l), (0, .ref (ad 3)), (1, .ref (ad a1))] [] := by
                intro n_51
                induction n_51 with
                | zero =>
                  intro x4_51l h
                  exact absurd h (by unfold l_X3_carMet_51; exact fun z => by cases z)
                | succ n_51 ih_51 =>
                  intro x4_51l h H locs ls hP hS hl
                  unfold l_X3_carMet_51 at h
                  refine lv_iload hx hb dX3_carMet_51 (lv_at hl 0 rfl) ?_
                  refine lv_aload_n hx hb dX3_carMet_53 rfl (lv_at hl 4 rfl) ?_
                  refine y_geti h F hP hk1 (n2 ha1) fl_X3_125 rfl dX3_carMet_54 (fun v_54 h => ?_)
                  refine lv_icmp_ge (tgt := 78) hx hb dX3_carMet_57 (by decide) (fun hc => ?_) (fun hc => ?_)
                  · have h := if_t _ hc h
                    exact J_78 w_45 hM_w_2l h _ _ _ hP hS (lv_sub hl [2, 3, 4] rfl)
                  · have h := if_f _ hc h
                    refine lv_aload_n hx hb dX3_carMet_60 rfl (lv_at hl 4 rfl) ?_
                    refine lv_iload hx hb dX3_carMet_61 (lv_at hl 0 rfl) ?_
                    refine lv_aload_n hx hb dX3_carMet_63 rfl (lv_at hl 1 rfl) ?_
                    obtain ⟨v_64, hc_64, h⟩ := bo_s h
                    refine x_goesZ (x_runS (As := [.ref (ad a1), .int x4_51l, .ref (ad q_15)]) (rest := []) F hP hS (c_X3_storeyTouches l D cT lo NB w_45 ad a1 hk1 ha1 x4_51l q_15 hk_q_15 ha_q_15 v_64 hc_64) cw_X3_storeyTouches lk_X3_128 st_X3_storeyTouches ⟨rfl, rfl, Nat.le_of_ble_eq_true rfl, Nat.le_of_ble_eq_true rfl⟩ hl.1 rfl (Nat.le_of_ble_eq_true rfl) dX3_carMet_64 ⟨Nat.zero_le _, Nat.zero_le _⟩) hS (fun H locs hz_64 hP hS _ => ?_)
                    refine lv_if_eq (tgt := 72) hx hb dX3_carMet_67 (by decide) (fun hc => ?_) (fun hc => ?_)
                    · have h := if_t _ hc h
                      refine y_iinc (lv' := fun (v_72 : Int32) => [(4, .int v_72), (3, .ref (ad q_15)), (2, .int x2_2l), (0, .ref (ad 3)), (1, .ref (ad a1))]) h F ic_1 dX3_carMet_72 hl (kq := 0) rfl (Nat.le_of_ble_eq_true rfl) (fun _ => rfl) (fun v_72 ls hl h => ?_)
                      refine lv_goto (tgt := 51) hx hb dX3_carMet_75 (by decide) ?_
                      exact ih_51 v_72 h _ _ _ hP hS (lv_sub hl [0, 1, 2, 3, 4] rfl)
                    · have h := if_f _ hc h
                      refine lv_iload_n hx hb dX3_carMet_70 rfl (lv_at hl 2 rfl) ?_
                      exact y_iretM h F hr hP hS hM_w hlk dX3_carMet_71
              exact L_51 FU (0 : Int32) h _ _ _ hP hS (lv_sub hl [0, 1, 2, 3, 4] rfl)
            · have h := if_t _ hc h
              refine lv_goto (tgt := 78) hx hb dX3_carMet_29 (by decide) ?_
              exact J_78 w_2l mono.refl h _ _ _ hP hS (lv_sub hl [1, 2, 3] rfl)
  exact L_2 FU w (0 : Int32) mono.refl h _ _ _ hP hS (lv_sub hl [0, 1, 2] rfl)
def f_X3_firstMet (w : Wd) (a1 : Nat) (a2 : Int32) (a3 : Int32) (a4 : Int32) : Option (Int32 × Wd) :=
q_bo (f_X1_layAt w a1 a2 a3 a4) (fun w_5 =>
q_bo (f_X8_houseMet w_5 a1) (fun v_13 =>
if v_13 = (-1 : Int32) then
q_bo (f_X8_eavesMet w_5 a1) (fun v_36 =>
if v_36 = (-1 : Int32) then
q_bo (f_X8_wireMet w_5 a1) (fun v_59 =>
if v_59 = (-1 : Int32) then
q_bo (f_X8_kerbMet w_5 a1 a2 a3 a4) (fun v_86 =>
if v_86 = (-1 : Int32) then
q_bi (f_X3_carMet w_5 a1) (fun v_106 w_106 =>
if v_106 = (-1 : Int32) then
if (f_X11_within a2 (-40000 : Int32) (40000 : Int32)) = 0 then
some ((6000 : Int32), w_106)
else
if (f_X11_within a3 (-40000 : Int32) (40000 : Int32)) = 0 then
some ((6000 : Int32), w_106)
else
some ((0 : Int32), w_106)
else
some ((5000 : Int32) + v_106, w_106))
else
some ((4000 : Int32) + v_86, w_5))
else
some ((3000 : Int32) + v_59, w_5))
else
some ((2000 : Int32) + v_36, w_5))
else
some ((1000 : Int32) + v_13, w_5)))
set_option maxRecDepth 100000 in
set_option maxHeartbeats 4000000 in
theorem c_X3_firstMet (l : Launch) (D : va_G) (cT : Nat → ClassId) (lo : Nat) (w : Wd) (ad : Nat → Nat) (a1 : Nat) (hk1 : kt a1 = (11, 0)) (ha1 : wA w a1 = 2) (a2 : Int32) (a3 : Int32) (a4 : Int32) (r : Int32) (w9 : Wd) (h : f_X3_firstMet w a1 a2 a3 a4 = some (r, w9)) : Met l yX3_firstMet (.code yX3_firstMet cX3_firstMet 6 (some .int) :: TW) { frames := 4, cells := 0, slots := 0, locals := 99 } (mPc D cT lo NB w ad [.ref (ad 3), .ref (ad a1), .int a2, .int a3, .int a4]) (mQ D cT lo NB w w9 ad (some (.int r))) 0 0 (fun q => lo ≤ q) := by
  unfold f_X3_firstMet at h
  refine x_met (lv := [(0, .ref (ad 3)), (1, .ref (ad a1)), (2, .int a2), (3, .int a3), (4, .int a4)]) (by decide +kernel) (Nat.le_of_ble_eq_true rfl) rfl ?_
  intro p e s m args below meth c ls F hr hlk hP hin hl
  have hx := F.1
  have hb := F.2.1
  have hS : va_S (fun q => lo ≤ q) s.heap s.heap [] := va_S.rf
  have hM_w : mono w w := mono.refl
  refine lv_aload_n hx hb dX3_firstMet_0 rfl (lv_at hl 1 rfl) ?_
  refine lv_iload_n hx hb dX3_firstMet_1 rfl (lv_at hl 2 rfl) ?_
  refine lv_iload_n hx hb dX3_firstMet_2 rfl (lv_at hl 3 rfl) ?_
  refine lv_iload hx hb dX3_firstMet_3 (lv_at hl 4 rfl) ?_
  obtain ⟨w_5, hc_5, h⟩ := bo_s h
  refine x_goes (x_runV (As := [.int a2, .int a3, .int a4]) (rest := []) F hP hS (c_X1_layAt l D cT lo NB w ad a1 hk1 ha1 a2 a3 a4 w_5 hc_5) cw_X1_layAt lk_X3_102 vi_X1_layAt hk1 (n2 ha1) rfl ⟨rfl, rfl, Nat.le_of_ble_eq_true rfl, Nat.le_of_ble_eq_true rfl⟩ hl.1 rfl (Nat.le_of_ble_eq_true rfl) dX3_firstMet_5 ⟨Nat.zero_le _, Nat.zero_le _⟩) hS (fun H locs hP hS hm => ?_)
  have hM_w := hm
  have ha1 := hm.2 _ ha1
  refine lv_aload_n hx hb dX3_firstMet_8 rfl (lv_at hl 0 rfl) ?_
  refine x_getr F hP k_3 (hP.al 3 rfl) fl_X3_37 rfl r_3_0 dX3_firstMet_9 ?_
  refine lv_aload_n hx hb dX3_firstMet_12 rfl (lv_at hl 1 rfl) ?_
  obtain ⟨v_13, hc_13, h⟩ := bo_s h
  refine x_goes (x_runV (As := [.ref (ad a1)]) (rest := []) F hP hS (c_X8_houseMet l D cT lo w_5 ad a1 hk1 ha1 v_13 hc_13) cw_X8_houseMet lk_X3_105 vi_X8_houseMet k_2 (n2 (hP.al 2 rfl)) rfl ⟨rfl, rfl, Nat.le_of_ble_eq_true rfl, Nat.le_of_ble_eq_true rfl⟩ hl.1 rfl (Nat.le_of_ble_eq_true rfl) dX3_firstMet_13 ⟨Nat.zero_le _, Nat.zero_le _⟩) hS (fun H locs hP hS _ => ?_)
  refine lv_istore (lv' := [(5, .int v_13), (0, .ref (ad 3)), (1, .ref (ad a1)), (2, .int a2), (3, .int a3), (4, .int a4)]) hx hb dX3_firstMet_16 hl (Nat.le_of_ble_eq_true rfl) rfl (fun ls hl => ?_)
  refine lv_iload hx hb dX3_firstMet_18 (lv_at hl 0 rfl) ?_
  refine lv_iconst (v := -1) hx hb dX3_firstMet_20 ic_m1 ?_
  refine lv_icmp_eq (tgt := 31) hx hb dX3_firstMet_21 (by decide) (fun hc => ?_) (fun hc => ?_)
  · have h := if_t _ hc h
    refine lv_aload_n hx hb dX3_firstMet_31 rfl (lv_at hl 1 rfl) ?_
    refine x_getr F hP k_3 (hP.al 3 rfl) fl_X3_37 rfl r_3_0 dX3_firstMet_32 ?_
    refine lv_aload_n hx hb dX3_firstMet_35 rfl (lv_at hl 2 rfl) ?_
    obtain ⟨v_36, hc_36, h⟩ := bo_s h
    refine x_goes (x_runV (As := [.ref (ad a1)]) (rest := []) F hP hS (c_X8_eavesMet l D cT lo w_5 ad a1 hk1 ha1 v_36 hc_36) cw_X8_eavesMet lk_X3_111 vi_X8_eavesMet k_2 (n2 (hP.al 2 rfl)) rfl ⟨rfl, rfl, Nat.le_of_ble_eq_true rfl, Nat.le_of_ble_eq_true rfl⟩ hl.1 rfl (Nat.le_of_ble_eq_true rfl) dX3_firstMet_36 ⟨Nat.zero_le _, Nat.zero_le _⟩) hS (fun H locs hP hS _ => ?_)
    refine lv_istore (lv' := [(5, .int v_36), (0, .ref (ad 3)), (1, .ref (ad a1)), (2, .int a2), (3, .int a3), (4, .int a4)]) hx hb dX3_firstMet_39 hl (Nat.le_of_ble_eq_true rfl) rfl (fun ls hl => ?_)
    refine lv_iload hx hb dX3_firstMet_41 (lv_at hl 0 rfl) ?_
    refine lv_iconst (v := -1) hx hb dX3_firstMet_43 ic_m1 ?_
    refine lv_icmp_eq (tgt := 54) hx hb dX3_firstMet_44 (by decide) (fun hc => ?_) (fun hc => ?_)
    · have h := if_t _ hc h
      refine lv_aload_n hx hb dX3_firstMet_54 rfl (lv_at hl 1 rfl) ?_
      refine x_getr F hP k_3 (hP.al 3 rfl) fl_X3_37 rfl r_3_0 dX3_firstMet_55 ?_
      refine lv_aload_n hx hb dX3_firstMet_58 rfl (lv_at hl 2 rfl) ?_
      obtain ⟨v_59, hc_59, h⟩ := bo_s h
      refine x_goes (x_runV (As := [.ref (ad a1)]) (rest := []) F hP hS (c_X8_wireMet l D cT lo w_5 ad a1 hk1 ha1 v_59 hc_59) cw_X8_wireMet lk_X3_114 vi_X8_wireMet k_2 (n2 (hP.al 2 rfl)) rfl ⟨rfl, rfl, Nat.le_of_ble_eq_true rfl, Nat.le_of_ble_eq_true rfl⟩ hl.1 rfl (Nat.le_of_ble_eq_true rfl) dX3_firstMet_59 ⟨Nat.zero_le _, Nat.zero_le _⟩) hS (fun H locs hP hS _ => ?_)
      refine lv_istore (lv' := [(5, .int v_59), (0, .ref (ad 3)), (1, .ref (ad a1)), (2, .int a2), (3, .int a3), (4, .int a4)]) hx hb dX3_firstMet_62 hl (Nat.le_of_ble_eq_true rfl) rfl (fun ls hl => ?_)
      refine lv_iload hx hb dX3_firstMet_64 (lv_at hl 0 rfl) ?_
      refine lv_iconst (v := -1) hx hb dX3_firstMet_66 ic_m1 ?_
      refine lv_icmp_eq (tgt := 77) hx hb dX3_firstMet_67 (by decide) (fun hc => ?_) (fun hc => ?_)
      · have h := if_t _ hc h
        refine lv_aload_n hx hb dX3_firstMet_77 rfl (lv_at hl 1 rfl) ?_
        refine x_getr F hP k_3 (hP.al 3 rfl) fl_X3_37 rfl r_3_0 dX3_firstMet_78 ?_
        refine lv_aload_n hx hb dX3_firstMet_81 rfl (lv_at hl 2 rfl) ?_
        refine lv_iload_n hx hb dX3_firstMet_82 rfl (lv_at hl 3 rfl) ?_
        refine lv_iload_n hx hb dX3_firstMet_83 rfl (lv_at hl 4 rfl) ?_
        refine lv_iload hx hb dX3_firstMet_84 (lv_at hl 5 rfl) ?_
        obtain ⟨v_86, hc_86, h⟩ := bo_s h
        refine x_goes (x_runV (As := [.ref (ad a1), .int a2, .int a3, .int a4]) (rest := []) F hP hS (c_X8_kerbMet l D cT lo w_5 ad a1 hk1 ha1 a2 a3 a4 v_86 hc_86) cw_X8_kerbMet lk_X3_117 vi_X8_kerbMet k_2 (n2 (hP.al 2 rfl)) rfl ⟨rfl, rfl, Nat.le_of_ble_eq_true rfl, Nat.le_of_ble_eq_true rfl⟩ hl.1 rfl (Nat.le_of_ble_eq_true rfl) dX3_firstMet_86 ⟨Nat.zero_le _, Nat.zero_le _⟩) hS (fun H locs hP hS _ => ?_)
        refine lv_istore (lv' := [(5, .int v_86), (0, .ref (ad 3)), (1, .ref (ad a1)), (2, .int a2), (3, .int a3), (4, .int a4)]) hx hb dX3_firstMet_89 hl (Nat.le_of_ble_eq_true rfl) rfl (fun ls hl => ?_)
        refine lv_iload hx hb dX3_firstMet_91 (lv_at hl 0 rfl) ?_
        refine lv_iconst (v := -1) hx hb dX3_firstMet_93 ic_m1 ?_
        refine lv_icmp_eq (tgt := 104) hx hb dX3_firstMet_94 (by decide) (fun hc => ?_) (fun hc => ?_)
        · have h := if_t _ hc h
          refine lv_aload_n hx hb dX3_firstMet_104 rfl (lv_at hl 1 rfl) ?_
          refine lv_aload_n hx hb dX3_firstMet_105 rfl (lv_at hl 2 rfl) ?_
          obtain ⟨v_106, w_106, hc_106, h⟩ := bi_s h
          refine x_goes (x_runV (As := [.ref (ad a1)]) (rest := []) F hP hS (c_X3_carMet l D cT lo w_5 ad a1 hk1 ha1 v_106 w_106 hc_106) cw_X3_carMet lk_X3_120 vi_X3_carMet k_3 (n2 (hP.al 3 rfl)) rfl ⟨rfl, rfl, Nat.le_of_ble_eq_true rfl, Nat.le_of_ble_eq_true rfl⟩ hl.1 rfl (Nat.le_of_ble_eq_true rfl) dX3_firstMet_106 ⟨Nat.zero_le _, Nat.zero_le _⟩) hS (fun H locs hP hS hm => ?_)
          have hM_w := hM_w.trans hm
          have ha1 := hm.2 _ ha1
          refine lv_istore (lv' := [(5, .int v_106), (0, .ref (ad 3)), (1, .ref (ad a1)), (2, .int a2), (3, .int a3), (4, .int a4)]) hx hb dX3_firstMet_109 hl (Nat.le_of_ble_eq_true rfl) rfl (fun ls hl => ?_)
          refine lv_iload hx hb dX3_firstMet_111 (lv_at hl 0 rfl) ?_
          refine lv_iconst (v := -1) hx hb dX3_firstMet_113 ic_m1 ?_
          refine lv_icmp_eq (tgt := 124) hx hb dX3_firstMet_114 (by decide) (fun hc => ?_) (fun hc => ?_)
          · have h := if_t _ hc h
            refine lv_iload_n hx hb dX3_firstMet_124 rfl (lv_at hl 3 rfl) ?_
            refine lv_ldc F.1 F.2.1 F.2.2.1 (F.2.2.2.1 _ ct_X3_123) dX3_firstMet_125 ?_
            refine lv_ldc F.1 F.2.1 F.2.2.1 (F.2.2.2.1 _ ct_X3_124) dX3_firstMet_127 ?_
            refine x_goesZ (x_runSN (As := [.int a2, .int (-40000 : Int32), .int (40000 : Int32)]) (rest := []) F hP hS (c_X11_within l D cT lo NB w_106 ad a2 (-40000 : Int32) (40000 : Int32)) cw_X11_within nl_X3_44 st_X11_within ⟨rfl, rfl, Nat.le_of_ble_eq_true rfl, Nat.le_of_ble_eq_true rfl⟩ hl.1 rfl (Nat.le_of_ble_eq_true rfl) dX3_firstMet_129 ⟨Nat.zero_le _, Nat.zero_le _⟩) hS (fun H locs hz_129 hP hS _ => ?_)
            refine lv_if_eq (tgt := 150) hx hb dX3_firstMet_132 (by decide) (fun hc => ?_) (fun hc => ?_)
            · have h := if_t _ hc h
              refine lv_sipush (v := 6000) hx hb dX3_firstMet_150 is_6000 ?_
              exact y_iretM h F hr hP hS hM_w hlk dX3_firstMet_153
            · have h := if_f _ hc h
              refine lv_iload_n hx hb dX3_firstMet_135 rfl (lv_at hl 4 rfl) ?_
              refine lv_ldc F.1 F.2.1 F.2.2.1 (F.2.2.2.1 _ ct_X3_123) dX3_firstMet_136 ?_
              refine lv_ldc F.1 F.2.1 F.2.2.1 (F.2.2.2.1 _ ct_X3_124) dX3_firstMet_138 ?_
              refine x_goesZ (x_runSN (As := [.int a3, .int (-40000 : Int32), .int (40000 : Int32)]) (rest := []) F hP hS (c_X11_within l D cT lo NB w_106 ad a3 (-40000 : Int32) (40000 : Int32)) cw_X11_within nl_X3_44 st_X11_within ⟨rfl, rfl, Nat.le_of_ble_eq_true rfl, Nat.le_of_ble_eq_true rfl⟩ hl.1 rfl (Nat.le_of_ble_eq_true rfl) dX3_firstMet_140 ⟨Nat.zero_le _, Nat.zero_le _⟩) hS (fun H locs hz_140 hP hS _ => ?_)
              refine lv_if_eq (tgt := 150) hx hb dX3_firstMet_143 (by decide) (fun hc => ?_) (fun hc => ?_)
              · have h := if_t _ hc h
                refine lv_sipush (v := 6000) hx hb dX3_firstMet_150 is_6000 ?_
                exact y_iretM h F hr hP hS hM_w hlk dX3_firstMet_153
              · have h := if_f _ hc h
                refine lv_iconst (v := 0) hx hb dX3_firstMet_146 ic_0 ?_
                refine lv_goto (tgt := 153) hx hb dX3_firstMet_147 (by decide) ?_
                exact y_iretM h F hr hP hS hM_w hlk dX3_firstMet_153
          · have h := if_f _ hc h
            refine lv_sipush (v := 5000) hx hb dX3_firstMet_117 is_5000 ?_
            refine lv_iload hx hb dX3_firstMet_120 (lv_at hl 0 rfl) ?_
            refine lv_iadd hx hb dX3_firstMet_122 ?_
            exact y_iretM h F hr hP hS hM_w hlk dX3_firstMet_123
        · have h := if_f _ hc h
          refine lv_sipush (v := 4000) hx hb dX3_firstMet_97 is_4000 ?_
          refine lv_iload hx hb dX3_firstMet_100 (lv_at hl 0 rfl) ?_
          refine lv_iadd hx hb dX3_firstMet_102 ?_
          exact y_iretM h F hr hP hS hM_w hlk dX3_firstMet_103
      · have h := if_f _ hc h
        refine lv_sipush (v := 3000) hx hb dX3_firstMet_70 is_3000 ?_
        refine lv_iload hx hb dX3_firstMet_73 (lv_at hl 0 rfl) ?_
        refine lv_iadd hx hb dX3_firstMet_75 ?_
        exact y_iretM h F hr hP hS hM_w hlk dX3_firstMet_76
    · have h := if_f _ hc h
      refine lv_sipush (v := 2000) hx hb dX3_firstMet_47 is_2000 ?_
      refine lv_iload hx hb dX3_firstMet_50 (lv_at hl 0 rfl) ?_
      refine lv_iadd hx hb dX3_firstMet_52 ?_
      exact y_iretM h F hr hP hS hM_w hlk dX3_firstMet_53
  · have h := if_f _ hc h
    refine lv_sipush (v := 1000) hx hb dX3_firstMet_24 is_1000 ?_
    refine lv_iload hx hb dX3_firstMet_27 (lv_at hl 0 rfl) ?_
    refine lv_iadd hx hb dX3_firstMet_29 ?_
    exact y_iretM h F hr hP hS hM_w hlk dX3_firstMet_30
def f_X3_drive (w : Wd) (a1 : Nat) (a2 : Int32) : Option (Int32 × Wd) :=
q_gt w a1 12 (fun v_1 =>
if v_1 = 0 then
some ((0 : Int32), w)
else
q_gt w a1 9 (fun v_12 =>
q_gt w a1 10 (fun v_16 =>
q_gt w a1 11 (fun v_20 =>
q_bo (f_X3_aim w a1 v_12 v_16 v_20 a2) (fun w_24 =>
q_gt w_24 3 8 (fun v_30 =>
q_gt w_24 3 9 (fun v_34 =>
q_gt w_24 3 10 (fun v_38 =>
q_bi (f_X3_firstMet w_24 a1 v_30 v_34 v_38) (fun v_41 w_41 =>
if v_41 = 0 then
q_gt w_41 3 8 (fun v_51 =>
q_gt w_41 3 9 (fun v_55 =>
q_gt w_41 3 10 (fun v_59 =>
q_bo (f_X1_standAt w_41 a1 v_51 v_55 v_59) (fun w_62 =>
q_gt w_62 a1 13 (fun v_67 =>
q_pt w_62 a1 13 (v_67 + (1 : Int32)) (fun w_72 =>
some ((1 : Int32), w_72)))))))
else
some ((0 : Int32), w_41))))))))))
set_option maxRecDepth 100000 in
set_option maxHeartbeats 4000000 in
theorem c_X3_drive (l : Launch) (D : va_G) (cT : Nat → ClassId) (lo : Nat) (w : Wd) (ad : Nat → Nat) (a1 : Nat) (hk1 : kt a1 = (11, 0)) (ha1 : wA w a1 = 2) (a2 : Int32) (r : Int32) (w9 : Wd) (h : f_X3_drive w a1 a2 = some (r, w9)) : Met l yX3_drive (.code yX3_drive cX3_drive 3 (some .boolean) :: TW) { frames := 5, cells := 0, slots := 0, locals := 124 } (mPc D cT lo NB w ad [.ref (ad 3), .ref (ad a1), .int a2]) (mQz D cT lo NB w w9 ad r) 0 0 (fun q => lo ≤ q) := by
  unfold f_X3_drive at h
  refine x_met (lv := [(0, .ref (ad 3)), (1, .ref (ad a1)), (2, .int a2)]) (by decide +kernel) (Nat.le_of_ble_eq_true rfl) rfl ?_
  intro p e s m args below meth c ls F hr hlk hP hin hl
  have hx := F.1
  have hb := F.2.1
  have hS : va_S (fun q => lo ≤ q) s.heap s.heap [] := va_S.rf
  have hM_w : mono w w := mono.refl
  refine lv_aload_n hx hb dX3_drive_0 rfl (lv_at hl 1 rfl) ?_
  refine y_geti h F hP hk1 (n2 ha1) fl_X3_51 rfl dX3_drive_1 (fun v_1 h => ?_)
  refine lv_if_ne (tgt := 9) hx hb dX3_drive_4 (by decide) (fun hc => ?_) (fun hc => ?_)
  · have h := if_f _ hc h
    refine lv_aload_n hx hb dX3_drive_9 rfl (lv_at hl 0 rfl) ?_
    refine lv_aload_n hx hb dX3_drive_10 rfl (lv_at hl 1 rfl) ?_
    refine lv_aload_n hx hb dX3_drive_11 rfl (lv_at hl 1 rfl) ?_
    refine y_geti h F hP hk1 (n2 ha1) fl_X3_55 rfl dX3_drive_12 (fun v_12 h => ?_)
    refine lv_aload_n hx hb dX3_drive_15 rfl (lv_at hl 1 rfl) ?_
    refine y_geti h F hP hk1 (n2 ha1) fl_X3_58 rfl dX3_drive_16 (fun v_16 h => ?_)
    refine lv_aload_n hx hb dX3_drive_19 rfl (lv_at hl 1 rfl) ?_
    refine y_geti h F hP hk1 (n2 ha1) fl_X3_61 rfl dX3_drive_20 (fun v_20 h => ?_)
    refine lv_iload_n hx hb dX3_drive_23 rfl (lv_at hl 2 rfl) ?_
    obtain ⟨w_24, hc_24, h⟩ := bo_s h
    refine x_goes (x_runV (As := [.ref (ad a1), .int v_12, .int v_16, .int v_20, .int a2]) (rest := []) F hP hS (c_X3_aim l D cT lo w ad a1 hk1 ha1 v_12 v_16 v_20 a2 w_24 hc_24) cw_X3_aim lk_X3_64 vi_X3_aim k_3 (n2 (hP.al 3 rfl)) rfl ⟨rfl, rfl, Nat.le_of_ble_eq_true rfl, Nat.le_of_ble_eq_true rfl⟩ hl.1 rfl (Nat.le_of_ble_eq_true rfl) dX3_drive_24 ⟨Nat.zero_le _, Nat.zero_le _⟩) hS (fun H locs hP hS hm => ?_)
    have hM_w := hm
    have ha1 := hm.2 _ ha1
    refine lv_aload_n hx hb dX3_drive_27 rfl (lv_at hl 0 rfl) ?_
    refine lv_aload_n hx hb dX3_drive_28 rfl (lv_at hl 1 rfl) ?_
    refine lv_aload_n hx hb dX3_drive_29 rfl (lv_at hl 0 rfl) ?_
    refine y_geti h F hP k_3 (n2 (hP.al 3 rfl)) fl_X3_68 rfl dX3_drive_30 (fun v_30 h => ?_)
    refine lv_aload_n hx hb dX3_drive_33 rfl (lv_at hl 0 rfl) ?_
    refine y_geti h F hP k_3 (n2 (hP.al 3 rfl)) fl_X3_71 rfl dX3_drive_34 (fun v_34 h => ?_)
    refine lv_aload_n hx hb dX3_drive_37 rfl (lv_at hl 0 rfl) ?_
    refine y_geti h F hP k_3 (n2 (hP.al 3 rfl)) fl_X3_74 rfl dX3_drive_38 (fun v_38 h => ?_)
    obtain ⟨v_41, w_41, hc_41, h⟩ := bi_s h
    refine x_goes (x_runV (As := [.ref (ad a1), .int v_30, .int v_34, .int v_38]) (rest := []) F hP hS (c_X3_firstMet l D cT lo w_24 ad a1 hk1 ha1 v_30 v_34 v_38 v_41 w_41 hc_41) cw_X3_firstMet lk_X3_77 vi_X3_firstMet k_3 (n2 (hP.al 3 rfl)) rfl ⟨rfl, rfl, Nat.le_of_ble_eq_true rfl, Nat.le_of_ble_eq_true rfl⟩ hl.1 rfl (Nat.le_of_ble_eq_true rfl) dX3_drive_41 ⟨Nat.zero_le _, Nat.zero_le _⟩) hS (fun H locs hP hS hm => ?_)
    have hM_w := hM_w.trans hm
    have ha1 := hm.2 _ ha1
    refine lv_if_eq (tgt := 49) hx hb dX3_drive_44 (by decide) (fun hc => ?_) (fun hc => ?_)
    · have h := if_t _ hc h
      refine lv_aload_n hx hb dX3_drive_49 rfl (lv_at hl 1 rfl) ?_
      refine lv_aload_n hx hb dX3_drive_50 rfl (lv_at hl 0 rfl) ?_
      refine y_geti h F hP k_3 (n2 (hP.al 3 rfl)) fl_X3_68 rfl dX3_drive_51 (fun v_51 h => ?_)
      refine lv_aload_n hx hb dX3_drive_54 rfl (lv_at hl 0 rfl) ?_
      refine y_geti h F hP k_3 (n2 (hP.al 3 rfl)) fl_X3_71 rfl dX3_drive_55 (fun v_55 h => ?_)
      refine lv_aload_n hx hb dX3_drive_58 rfl (lv_at hl 0 rfl) ?_
      refine y_geti h F hP k_3 (n2 (hP.al 3 rfl)) fl_X3_74 rfl dX3_drive_59 (fun v_59 h => ?_)
      obtain ⟨w_62, hc_62, h⟩ := bo_s h
      refine x_goes (x_runV (As := [.int v_51, .int v_55, .int v_59]) (rest := []) F hP hS (c_X1_standAt l D cT lo NB w_41 ad a1 hk1 ha1 v_51 v_55 v_59 w_62 hc_62) cw_X1_standAt lk_X3_81 vi_X1_standAt hk1 (n2 ha1) rfl ⟨rfl, rfl, Nat.le_of_ble_eq_true rfl, Nat.le_of_ble_eq_true rfl⟩ hl.1 rfl (Nat.le_of_ble_eq_true rfl) dX3_drive_62 ⟨Nat.zero_le _, Nat.zero_le _⟩) hS (fun H locs hP hS hm => ?_)
      have hM_w := hM_w.trans hm
      have ha1 := hm.2 _ ha1
      refine lv_aload_n hx hb dX3_drive_65 rfl (lv_at hl 1 rfl) ?_
      refine lv_dup hx hb dX3_drive_66 rfl ?_
      refine y_geti h F hP hk1 (n2 ha1) fl_X3_85 rfl dX3_drive_67 (fun v_67 h => ?_)
      refine lv_iconst (v := 1) hx hb dX3_drive_70 ic_1 ?_
      refine lv_iadd hx hb dX3_drive_71 ?_
      refine y_puti h F hP hS hk1 (n2 ha1) fl_X3_85 rfl dX3_drive_72 (fun w_72 H locs hm h hP hS => ?_)
      have hM_w := hM_w.trans hm
      have ha1 := hm.2 _ ha1
      refine lv_iconst (v := 1) hx hb dX3_drive_75 ic_1 ?_
      exact y_zretM h F hr hP hS hM_w hlk rfl dX3_drive_76
    · have h := if_f _ hc h
      refine lv_iconst (v := 0) hx hb dX3_drive_47 ic_0 ?_
      exact y_zretM h F hr hP hS hM_w hlk rfl dX3_drive_48
  · have h := if_t _ hc h
    refine lv_iconst (v := 0) hx hb dX3_drive_7 ic_0 ?_
    exact y_zretM h F hr hP hS mono.refl hlk rfl dX3_drive_8
def f_X3_houseBitten (w : Wd) (a1 : Nat) (a2 : Int32) : Option (Int32 × Wd) :=
q_bo (f_X1_layRope w a1 23 a2) (fun w_6 =>
q_bo (f_X8_houseOnLine w_6 23) (fun v_17 =>
some (v_17, w_6)))
set_option maxRecDepth 100000 in
set_option maxHeartbeats 4000000 in
theorem c_X3_houseBitten (l : Launch) (D : va_G) (cT : Nat → ClassId) (lo : Nat) (w : Wd) (ad : Nat → Nat) (a1 : Nat) (hk1 : kt a1 = (11, 0)) (ha1 : wA w a1 = 2) (a2 : Int32) (r : Int32) (w9 : Wd) (h : f_X3_houseBitten w a1 a2 = some (r, w9)) : Met l yX3_houseBitten (.code yX3_houseBitten cX3_houseBitten 3 (some .int) :: TW) { frames := 4, cells := 0, slots := 0, locals := 92 } (mPc D cT lo NB w ad [.ref (ad 3), .ref (ad a1), .int a2]) (mQ D cT lo NB w w9 ad (some (.int r))) 0 0 (fun q => lo ≤ q) := by
  unfold f_X3_houseBitten at h
  refine x_met (lv := [(0, .ref (ad 3)), (1, .ref (ad a1)), (2, .int a2)]) (by decide +kernel) (Nat.le_of_ble_eq_true rfl) rfl ?_
  intro p e s m args below meth c ls F hr hlk hP hin hl
  have hx := F.1
  have hb := F.2.1
  have hS : va_S (fun q => lo ≤ q) s.heap s.heap [] := va_S.rf
  have hM_w : mono w w := mono.refl
  refine lv_aload_n hx hb dX3_houseBitten_0 rfl (lv_at hl 1 rfl) ?_
  refine lv_aload_n hx hb dX3_houseBitten_1 rfl (lv_at hl 0 rfl) ?_
  refine x_getr F hP k_3 (hP.al 3 rfl) fl_X3_33 rfl r_3_7 dX3_houseBitten_2 ?_
  refine lv_iload_n hx hb dX3_houseBitten_5 rfl (lv_at hl 2 rfl) ?_
  obtain ⟨w_6, hc_6, h⟩ := bo_s h
  refine x_goes (x_runV (As := [.ref (ad 23), .int a2]) (rest := []) F hP hS (c_X1_layRope l D cT lo NB w ad a1 hk1 ha1 23 k_23 (hP.al 23 rfl) a2 w_6 hc_6) cw_X1_layRope lk_X3_146 vi_X1_layRope hk1 (n2 ha1) rfl ⟨rfl, rfl, Nat.le_of_ble_eq_true rfl, Nat.le_of_ble_eq_true rfl⟩ hl.1 rfl (Nat.le_of_ble_eq_true rfl) dX3_houseBitten_6 ⟨Nat.zero_le _, Nat.zero_le _⟩) hS (fun H locs hP hS hm => ?_)
  have hM_w := hm
  have ha1 := hm.2 _ ha1
  refine lv_aload_n hx hb dX3_houseBitten_9 rfl (lv_at hl 0 rfl) ?_
  refine x_getr F hP k_3 (hP.al 3 rfl) fl_X3_37 rfl r_3_0 dX3_houseBitten_10 ?_
  refine lv_aload_n hx hb dX3_houseBitten_13 rfl (lv_at hl 0 rfl) ?_
  refine x_getr F hP k_3 (hP.al 3 rfl) fl_X3_33 rfl r_3_7 dX3_houseBitten_14 ?_
  obtain ⟨v_17, hc_17, h⟩ := bo_s h
  refine x_goes (x_runV (As := [.ref (ad 23)]) (rest := []) F hP hS (c_X8_houseOnLine l D cT lo w_6 ad 23 k_23 (hP.al 23 rfl) v_17 hc_17) cw_X8_houseOnLine lk_X3_150 vi_X8_houseOnLine k_2 (n2 (hP.al 2 rfl)) rfl ⟨rfl, rfl, Nat.le_of_ble_eq_true rfl, Nat.le_of_ble_eq_true rfl⟩ hl.1 rfl (Nat.le_of_ble_eq_true rfl) dX3_houseBitten_17 ⟨Nat.zero_le _, Nat.zero_le _⟩) hS (fun H locs hP hS _ => ?_)
  exact y_iretM h F hr hP hS hM_w hlk dX3_houseBitten_20
def f_X3_isWetUnder (w : Wd) (a1 : Nat) : Option Int32 :=
q_gt w a1 9 (fun v_9 =>
q_gt w a1 10 (fun v_13 =>
q_bo (f_X8_slopeAt w v_9 v_13) (fun v_16 =>
q_bo (f_X8_isWet w v_16) (fun v_19 =>
some v_19))))
set_option maxRecDepth 100000 in
set_option maxHeartbeats 4000000 in
theorem c_X3_isWetUnder (l : Launch) (D : va_G) (cT : Nat → ClassId) (lo : Nat) (w : Wd) (ad : Nat → Nat) (a1 : Nat) (hk1 : kt a1 = (11, 0)) (ha1 : wA w a1 = 2) (r : Int32) (h : f_X3_isWetUnder w a1 = some r) : Met l yX3_isWetUnder (.code yX3_isWetUnder cX3_isWetUnder 2 (some .boolean) :: TW) { frames := 3, cells := 0, slots := 0, locals := 67 } (mPc D cT lo NB w ad [.ref (ad 3), .ref (ad a1)]) (mQz D cT lo NB w w ad r) 0 0 (fun q => lo ≤ q) := by
  unfold f_X3_isWetUnder at h
  refine x_met (lv := [(0, .ref (ad 3)), (1, .ref (ad a1))]) (by decide +kernel) (Nat.le_of_ble_eq_true rfl) rfl ?_
  intro p e s m args below meth c ls F hr hlk hP hin hl
  have hx := F.1
  have hb := F.2.1
  have hS : va_S (fun q => lo ≤ q) s.heap s.heap [] := va_S.rf
  refine lv_aload_n hx hb dX3_isWetUnder_0 rfl (lv_at hl 0 rfl) ?_
  refine x_getr F hP k_3 (hP.al 3 rfl) fl_X3_37 rfl r_3_0 dX3_isWetUnder_1 ?_
  refine lv_aload_n hx hb dX3_isWetUnder_4 rfl (lv_at hl 0 rfl) ?_
  refine x_getr F hP k_3 (hP.al 3 rfl) fl_X3_37 rfl r_3_0 dX3_isWetUnder_5 ?_
  refine lv_aload_n hx hb dX3_isWetUnder_8 rfl (lv_at hl 1 rfl) ?_
  refine y_geti h F hP hk1 (n2 ha1) fl_X3_55 rfl dX3_isWetUnder_9 (fun v_9 h => ?_)
  refine lv_aload_n hx hb dX3_isWetUnder_12 rfl (lv_at hl 1 rfl) ?_
  refine y_geti h F hP hk1 (n2 ha1) fl_X3_58 rfl dX3_isWetUnder_13 (fun v_13 h => ?_)
  obtain ⟨v_16, hc_16, h⟩ := bo_s h
  refine x_goes (x_runV (As := [.int v_9, .int v_13]) (rest := [.ref (ad 2)]) F hP hS (c_X8_slopeAt l D cT lo w ad v_9 v_13 v_16 hc_16) cw_X8_slopeAt lk_X3_154 vi_X8_slopeAt k_2 (n2 (hP.al 2 rfl)) rfl ⟨rfl, rfl, Nat.le_of_ble_eq_true rfl, Nat.le_of_ble_eq_true rfl⟩ hl.1 rfl (Nat.le_of_ble_eq_true rfl) dX3_isWetUnder_16 ⟨Nat.zero_le _, Nat.zero_le _⟩) hS (fun H locs hP hS _ => ?_)
  obtain ⟨v_19, hc_19, h⟩ := bo_s h
  refine x_goesZ (x_runV (As := [.int v_16]) (rest := []) F hP hS (c_X8_isWet l D cT lo w ad v_16 v_19 hc_19) cw_X8_isWet lk_X3_157 vi_X8_isWet k_2 (n2 (hP.al 2 rfl)) rfl ⟨rfl, rfl, Nat.le_of_ble_eq_true rfl, Nat.le_of_ble_eq_true rfl⟩ hl.1 rfl (Nat.le_of_ble_eq_true rfl) dX3_isWetUnder_19 ⟨Nat.zero_le _, Nat.zero_le _⟩) hS (fun H locs hz_19 hP hS _ => ?_)
  exact y_zretO h F hr hP hS hlk hz_19 dX3_isWetUnder_22
def l_X3_pullOf_11 (a1 : Nat) (v_2 : Int32) : Nat → Wd → Int32 → Int32 → Option (Int32 × Wd)
  | 0, _, _, _ => none
  | n_11 + 1, w_11l, x4_11l, x3_11l =>
    if (4 : Int32) ≤ x4_11l then
    some (x3_11l, w_11l)
    else
    q_bo (f_X1_isSlack w_11l a1 x4_11l) (fun v_20 =>
    q_jn (fun (w_82j : Wd) (x3_82 : Int32) =>
    q_lt (x4_11l + (1 : Int32)) (fun v_82 =>
    l_X3_pullOf_11 a1 v_2 n_11 w_82j v_82 x3_82)) (fun j_82 =>
    if v_20 = 0 then
    q_bi (f_X3_houseBitten w_11l a1 x4_11l) (fun v_30 w_30 =>
    if v_30 = (-1 : Int32) then
    q_ld w_30 (a1 + 10) 4 x4_11l (fun v_43 =>
    q_gt w_30 3 4 (fun v_45 =>
    q_bo (f_X1_ropeTurn w_30 a1 x4_11l) (fun v_52 =>
    q_lt (((v_43 * v_45) * (f_X11_cosine v_52)) / (65 : Int32)) (fun v_62 =>
    q_jn (fun (s0_80 : Int32) =>
    q_lt (x3_11l + s0_80) (fun v_81 =>
    j_82 w_30 v_81)) (fun j_80 =>
    if v_2 = 0 then
    j_80 v_62
    else
    j_80 ((v_62 * (3 : Int32)) / (4 : Int32)))))))
    else
    j_82 w_30 x3_11l)
    else
    j_82 w_11l x3_11l))
def f_X3_pullOf (w : Wd) (a1 : Nat) : Option (Int32 × Wd) :=
q_bo (f_X3_isWetUnder w a1) (fun v_2 =>
l_X3_pullOf_11 a1 v_2 FU w (0 : Int32) (0 : Int32))
set_option maxRecDepth 100000 in
set_option maxHeartbeats 4000000 in
theorem c_X3_pullOf (l : Launch) (D : va_G) (cT : Nat → ClassId) (lo : Nat) (w : Wd) (ad : Nat → Nat) (a1 : Nat) (hk1 : kt a1 = (11, 0)) (ha1 : wA w a1 = 2) (r : Int32) (w9 : Wd) (h : f_X3_pullOf w a1 = some (r, w9)) : Met l yX3_pullOf (.code yX3_pullOf cX3_pullOf 6 (some .int) :: TW) { frames := 5, cells := 0, slots := 0, locals := 114 } (mPc D cT lo NB w ad [.ref (ad 3), .ref (ad a1)]) (mQ D cT lo NB w w9 ad (some (.int r))) 0 0 (fun q => lo ≤ q) := by
  unfold f_X3_pullOf at h
  refine x_met (lv := [(0, .ref (ad 3)), (1, .ref (ad a1))]) (by decide +kernel) (Nat.le_of_ble_eq_true rfl) rfl ?_
  intro p e s m args below meth c ls F hr hlk hP hin hl
  have hx := F.1
  have hb := F.2.1
  have hS : va_S (fun q => lo ≤ q) s.heap s.heap [] := va_S.rf
  have hM_w : mono w w := mono.refl
  refine lv_aload_n hx hb dX3_pullOf_0 rfl (lv_at hl 0 rfl) ?_
  refine lv_aload_n hx hb dX3_pullOf_1 rfl (lv_at hl 1 rfl) ?_
  obtain ⟨v_2, hc_2, h⟩ := bo_s h
  refine x_goesZ (x_runV (As := [.ref (ad a1)]) (rest := []) F hP hS (c_X3_isWetUnder l D cT lo w ad a1 hk1 ha1 v_2 hc_2) cw_X3_isWetUnder lk_X3_161 vi_X3_isWetUnder k_3 (n2 (hP.al 3 rfl)) rfl ⟨rfl, rfl, Nat.le_of_ble_eq_true rfl, Nat.le_of_ble_eq_true rfl⟩ hl.1 rfl (Nat.le_of_ble_eq_true rfl) dX3_pullOf_2 ⟨Nat.zero_le _, Nat.zero_le _⟩) hS (fun H locs hz_2 hP hS _ => ?_)
  refine lv_istore_n (lv' := [(2, .int v_2), (0, .ref (ad 3)), (1, .ref (ad a1))]) hx hb dX3_pullOf_5 rfl hl (Nat.le_of_ble_eq_true rfl) rfl (fun ls hl => ?_)
  refine lv_iconst (v := 0) hx hb dX3_pullOf_6 ic_0 ?_
  refine lv_istore_n (lv' := [(3, .int (0 : Int32)), (2, .int v_2), (0, .ref (ad 3)), (1, .ref (ad a1))]) hx hb dX3_pullOf_7 rfl hl (Nat.le_of_ble_eq_true rfl) rfl (fun ls hl => ?_)
  refine lv_iconst (v := 0) hx hb dX3_pullOf_8 ic_0 ?_
  refine lv_istore (lv' := [(4, .int (0 : Int32)), (3, .int (0 : Int32)), (2, .int v_2), (0, .ref (ad 3)), (1, .ref (ad a1))]) hx hb dX3_pullOf_9 hl (Nat.le_of_ble_eq_true rfl) rfl (fun ls hl => ?_)
  have L_11 : ∀ (n_11 : Nat) (w_11l : Wd) (x4_11l : Int32) (x3_11l : Int32), mono w w_11l → l_X3_pullOf_11 a1 v_2 n_11 w_11l x4_11l x3_11l = some (r, w9) → GG p l e { frames := 5, cells := 0, slots := 0, locals := 114 } s m args below meth c 0 0 (MQ below (mQ D cT lo NB w w9 ad (some (.int r))) args s 0 0 (fun q => lo ≤ q)) D cT lo NB 6 ad w_11l 11 [(4, .int x4_11l), (3, .int x3_11l), (2, .int v_2), (0, .ref (ad 3)), (1, .ref (ad a1))] [] := by
    intro n_11
    induction n_11 with
    | zero =>
      intro w_11l x4_11l x3_11l _ h
      exact absurd h (by unfold l_X3_pullOf_11; exact fun z => by cases z)
    | succ n_11 ih_11 =>
      intro w_11l x4_11l x3_11l hm h H locs ls hP hS hl
      unfold l_X3_pullOf_11 at h
      have hM_w := hm
      have ha1 := hm.2 _ ha1
      refine lv_iload hx hb dX3_pullOf_11 (lv_at hl 0 rfl) ?_
      refine lv_iconst (v := 4) hx hb dX3_pullOf_13 ic_4 ?_
      refine lv_icmp_ge (tgt := 88) hx hb dX3_pullOf_14 (by decide) (fun hc => ?_) (fun hc => ?_)
      · have h := if_t _ hc h
        refine lv_iload_n hx hb dX3_pullOf_88 rfl (lv_at hl 1 rfl) ?_
        exact y_iretM h F hr hP hS hM_w hlk dX3_pullOf_89
      · have h := if_f _ hc h
        refine lv_aload_n hx hb dX3_pullOf_17 rfl (lv_at hl 4 rfl) ?_
        refine lv_iload hx hb dX3_pullOf_18 (lv_at hl 0 rfl) ?_
        obtain ⟨v_20, hc_20, h⟩ := bo_s h
        refine x_goesZ (x_runV (As := [.int x4_11l]) (rest := []) F hP hS (c_X1_isSlack l D cT lo NB w_11l ad a1 hk1 ha1 x4_11l v_20 hc_20) cw_X1_isSlack lk_X3_165 vi_X1_isSlack hk1 (n2 ha1) rfl ⟨rfl, rfl, Nat.le_of_ble_eq_true rfl, Nat.le_of_ble_eq_true rfl⟩ hl.1 rfl (Nat.le_of_ble_eq_true rfl) dX3_pullOf_20 ⟨Nat.zero_le _, Nat.zero_le _⟩) hS (fun H locs hz_20 hP hS _ => ?_)
        refine jn_use (fun (j_82 : Wd → Int32 → Option (Int32 × Wd)) => ∀ (w_82j : Wd) (x3_82 : Int32), mono w_11l w_82j → j_82 w_82j x3_82 = some (r, w9) → GG p l e { frames := 5, cells := 0, slots := 0, locals := 114 } s m args below meth c 0 0 (MQ below (mQ D cT lo NB w w9 ad (some (.int r))) args s 0 0 (fun q => lo ≤ q)) D cT lo NB 6 ad w_82j 82 [(4, .int x4_11l), (3, .int x3_82), (2, .int v_2), (0, .ref (ad 3)), (1, .ref (ad a1))] []) h (fun w_82j x3_82 hm h H locs ls hP hS hl => ?_) (fun j_82 J_82 h => ?_)
        · have hM_w := hM_w.trans hm
          have hM_w_11l := hm
          have ha1 := hm.2 _ ha1
          refine y_iinc (lv' := fun (v_82 : Int32) => [(4, .int v_82), (3, .int x3_82), (2, .int v_2), (0, .ref (ad 3)), (1, .ref (ad a1))]) h F ic_1 dX3_pullOf_82 hl (kq := 0) rfl (Nat.le_of_ble_eq_true rfl) (fun _ => rfl) (fun v_82 ls hl h => ?_)
          refine lv_goto (tgt := 11) hx hb dX3_pullOf_85 (by decide) ?_
          exact ih_11 w_82j v_82 x3_82 hM_w h _ _ _ hP hS (lv_sub hl [0, 1, 2, 3, 4] rfl)
        · refine lv_if_ne (tgt := 82) hx hb dX3_pullOf_23 (by decide) (fun hc => ?_) (fun hc => ?_)
          · have h := if_f _ hc h
            exact J_82 w_11l x3_11l mono.refl h _ _ _ hP hS (lv_sub hl [0, 1, 2, 3, 4] rfl)
          · have h := if_t _ hc h
            refine lv_aload_n hx hb dX3_pullOf_26 rfl (lv_at hl 3 rfl) ?_
            refine lv_aload_n hx hb dX3_pullOf_27 rfl (lv_at hl 4 rfl) ?_
            refine lv_iload hx hb dX3_pullOf_28 (lv_at hl 0 rfl) ?_
            obtain ⟨v_30, w_30, hc_30, h⟩ := bi_s h
            refine x_goes (x_runV (As := [.ref (ad a1), .int x4_11l]) (rest := []) F hP hS (c_X3_houseBitten l D cT lo w_11l ad a1 hk1 ha1 x4_11l v_30 w_30 hc_30) cw_X3_houseBitten lk_X3_168 vi_X3_houseBitten k_3 (n2 (hP.al 3 rfl)) rfl ⟨rfl, rfl, Nat.le_of_ble_eq_true rfl, Nat.le_of_ble_eq_true rfl⟩ hl.1 rfl (Nat.le_of_ble_eq_true rfl) dX3_pullOf_30 ⟨Nat.zero_le _, Nat.zero_le _⟩) hS (fun H locs hP hS hm => ?_)
            have hM_w := hM_w.trans hm
            have hM_w_11l := hm
            have ha1 := hm.2 _ ha1
            refine lv_iconst (v := -1) hx hb dX3_pullOf_33 ic_m1 ?_
            refine lv_icmp_ne (tgt := 82) hx hb dX3_pullOf_34 (by decide) (fun hc => ?_) (fun hc => ?_)
            · have h := if_f _ hc h
              exact J_82 w_30 x3_11l hM_w_11l h _ _ _ hP hS (lv_sub hl [0, 1, 2, 3, 4] rfl)
            · have h := if_t _ hc h
              refine lv_aload_n hx hb dX3_pullOf_37 rfl (lv_at hl 4 rfl) ?_
              refine x_getr F hP hk1 ha1 fl_X3_172 rfl (carR_14 hk1) dX3_pullOf_38 ?_
              have ha_a1_10 := x_al hP hk1 ha1 (show ft 1 14 = 1 from rfl) (carR_14 hk1)
              refine lv_iload hx hb dX3_pullOf_41 (lv_at hl 0 rfl) ?_
              refine y_iald h F hP (carK_14 hk1) (n2 ha_a1_10) dX3_pullOf_43 (fun v_43 h => ?_)
              refine lv_aload_n hx hb dX3_pullOf_44 rfl (lv_at hl 3 rfl) ?_
              refine y_geti h F hP k_3 (n2 (hP.al 3 rfl)) fl_X3_21 rfl dX3_pullOf_45 (fun v_45 h => ?_)
              refine lv_imul hx hb dX3_pullOf_48 ?_
              refine lv_aload_n hx hb dX3_pullOf_49 rfl (lv_at hl 4 rfl) ?_
              refine lv_iload hx hb dX3_pullOf_50 (lv_at hl 0 rfl) ?_
              obtain ⟨v_52, hc_52, h⟩ := bo_s h
              refine x_goes (x_runV (As := [.int x4_11l]) (rest := [.int (v_43 * v_45)]) F hP hS (c_X1_ropeTurn l D cT lo NB w_30 ad a1 hk1 ha1 x4_11l v_52 hc_52) cw_X1_ropeTurn lk_X3_176 vi_X1_ropeTurn hk1 (n2 ha1) rfl ⟨rfl, rfl, Nat.le_of_ble_eq_true rfl, Nat.le_of_ble_eq_true rfl⟩ hl.1 rfl (Nat.le_of_ble_eq_true rfl) dX3_pullOf_52 ⟨Nat.zero_le _, Nat.zero_le _⟩) hS (fun H locs hP hS _ => ?_)
              refine x_goes (x_runSN (As := [.int v_52]) (rest := [.int (v_43 * v_45)]) F hP hS (c_X11_cosine l D cT lo NB w_30 ad v_52) cw_X11_cosine nl_X3_88 st_X11_cosine ⟨rfl, rfl, Nat.le_of_ble_eq_true rfl, Nat.le_of_ble_eq_true rfl⟩ hl.1 rfl (Nat.le_of_ble_eq_true rfl) dX3_pullOf_55 ⟨Nat.zero_le _, Nat.zero_le _⟩) hS (fun H locs hP hS _ => ?_)
              refine lv_imul hx hb dX3_pullOf_58 ?_
              refine lv_bipush (v := 65) hx hb dX3_pullOf_59 ib_65 ?_
              refine lv_idiv hx hb dX3_pullOf_61 (by decide) ?_
              refine y_let h (fun v_62 h => ?_)
              refine lv_istore (lv' := [(5, .int v_62), (4, .int x4_11l), (3, .int x3_11l), (2, .int v_2), (0, .ref (ad 3)), (1, .ref (ad a1))]) hx hb dX3_pullOf_62 hl (Nat.le_of_ble_eq_true rfl) rfl (fun ls hl => ?_)
              refine lv_iload_n hx hb dX3_pullOf_64 rfl (lv_at hl 2 rfl) ?_
              refine lv_iload_n hx hb dX3_pullOf_65 rfl (lv_at hl 3 rfl) ?_
              refine jn_use (fun (j_80 : Int32 → Option (Int32 × Wd)) => ∀ (s0_80 : Int32), j_80 s0_80 = some (r, w9) → GG p l e { frames := 5, cells := 0, slots := 0, locals := 114 } s m args below meth c 0 0 (MQ below (mQ D cT lo NB w w9 ad (some (.int r))) args s 0 0 (fun q => lo ≤ q)) D cT lo NB 6 ad w_30 80 [(4, .int x4_11l), (2, .int v_2), (0, .ref (ad 3)), (1, .ref (ad a1))] [.int s0_80, .int x3_11l]) h (fun s0_80 h H locs ls hP hS hl => ?_) (fun j_80 J_80 h => ?_)
              · refine lv_iadd hx hb dX3_pullOf_80 ?_
                refine y_let h (fun v_81 h => ?_)
                refine lv_istore_n (lv' := [(3, .int v_81), (4, .int x4_11l), (2, .int v_2), (0, .ref (ad 3)), (1, .ref (ad a1))]) hx hb dX3_pullOf_81 rfl hl (Nat.le_of_ble_eq_true rfl) rfl (fun ls hl => ?_)
                exact J_82 w_30 v_81 hM_w_11l h _ _ _ hP hS (lv_sub hl [1, 0, 2, 3, 4] rfl)
              · refine lv_if_eq (tgt := 78) hx hb dX3_pullOf_66 (by decide) (fun hc => ?_) (fun hc => ?_)
                · have h := if_t _ hc h
                  refine lv_iload hx hb dX3_pullOf_78 (lv_at hl 0 rfl) ?_
                  exact J_80 v_62 h _ _ _ hP hS (lv_sub hl [1, 3, 4, 5] rfl)
                · have h := if_f _ hc h
                  refine lv_iload hx hb dX3_pullOf_69 (lv_at hl 0 rfl) ?_
                  refine lv_iconst (v := 3) hx hb dX3_pullOf_71 ic_3 ?_
                  refine lv_imul hx hb dX3_pullOf_72 ?_
                  refine lv_iconst (v := 4) hx hb dX3_pullOf_73 ic_4 ?_
                  refine lv_idiv hx hb dX3_pullOf_74 (by decide) ?_
                  refine lv_goto (tgt := 80) hx hb dX3_pullOf_75 (by decide) ?_
                  exact J_80 ((v_62 * (3 : Int32)) / (4 : Int32)) h _ _ _ hP hS (lv_sub hl [1, 3, 4, 5] rfl)
  exact L_11 FU w (0 : Int32) (0 : Int32) mono.refl h _ _ _ hP hS (lv_sub hl [0, 1, 2, 3, 4] rfl)
def f_X3_needOf (w : Wd) (a1 : Nat) : Option Int32 :=
q_gt w a1 9 (fun v_5 =>
q_gt w a1 10 (fun v_9 =>
q_bo (f_X8_slopeAt w v_5 v_9) (fun v_12 =>
q_bo (f_X8_riseXOf w v_12) (fun v_21 =>
q_gt w a1 11 (fun v_25 =>
q_bo (f_X8_riseYOf w v_12) (fun v_37 =>
q_gt w a1 11 (fun v_41 =>
q_lt ((v_21 * (f_X11_cosine v_25)) + (v_37 * (f_X11_sine v_41))) (fun v_49 =>
q_gt w a1 2 (fun v_51 =>
q_gt w 3 5 (fun v_55 =>
q_lt (v_51 * (v_55 + (f_J9_floorDiv_7cf53 v_49 (65 : Int32)))) (fun v_66 =>
some (-(f_J9_floorDiv_7cf53 (-v_66) (10 : Int32))))))))))))))
set_option maxRecDepth 100000 in
set_option maxHeartbeats 4000000 in
theorem c_X3_needOf (l : Launch) (D : va_G) (cT : Nat → ClassId) (lo : Nat) (w : Wd) (ad : Nat → Nat) (a1 : Nat) (hk1 : kt a1 = (11, 0)) (ha1 : wA w a1 = 2) (r : Int32) (h : f_X3_needOf w a1 = some r) : Met l yX3_needOf (.code yX3_needOf cX3_needOf 5 (some .int) :: TW) { frames := 3, cells := 0, slots := 0, locals := 67 } (mPc D cT lo NB w ad [.ref (ad 3), .ref (ad a1)]) (mQ D cT lo NB w w ad (some (.int r))) 0 0 (fun q => lo ≤ q) := by
  unfold f_X3_needOf at h
  refine x_met (lv := [(0, .ref (ad 3)), (1, .ref (ad a1))]) (by decide +kernel) (Nat.le_of_ble_eq_true rfl) rfl ?_
  intro p e s m args below meth c ls F hr hlk hP hin hl
  have hx := F.1
  have hb := F.2.1
  have hS : va_S (fun q => lo ≤ q) s.heap s.heap [] := va_S.rf
  refine lv_aload_n hx hb dX3_needOf_0 rfl (lv_at hl 0 rfl) ?_
  refine x_getr F hP k_3 (hP.al 3 rfl) fl_X3_37 rfl r_3_0 dX3_needOf_1 ?_
  refine lv_aload_n hx hb dX3_needOf_4 rfl (lv_at hl 1 rfl) ?_
  refine y_geti h F hP hk1 (n2 ha1) fl_X3_55 rfl dX3_needOf_5 (fun v_5 h => ?_)
  refine lv_aload_n hx hb dX3_needOf_8 rfl (lv_at hl 1 rfl) ?_
  refine y_geti h F hP hk1 (n2 ha1) fl_X3_58 rfl dX3_needOf_9 (fun v_9 h => ?_)
  obtain ⟨v_12, hc_12, h⟩ := bo_s h
  refine x_goes (x_runV (As := [.int v_5, .int v_9]) (rest := []) F hP hS (c_X8_slopeAt l D cT lo w ad v_5 v_9 v_12 hc_12) cw_X8_slopeAt lk_X3_154 vi_X8_slopeAt k_2 (n2 (hP.al 2 rfl)) rfl ⟨rfl, rfl, Nat.le_of_ble_eq_true rfl, Nat.le_of_ble_eq_true rfl⟩ hl.1 rfl (Nat.le_of_ble_eq_true rfl) dX3_needOf_12 ⟨Nat.zero_le _, Nat.zero_le _⟩) hS (fun H locs hP hS _ => ?_)
  refine lv_istore_n (lv' := [(2, .int v_12), (0, .ref (ad 3)), (1, .ref (ad a1))]) hx hb dX3_needOf_15 rfl hl (Nat.le_of_ble_eq_true rfl) rfl (fun ls hl => ?_)
  refine lv_aload_n hx hb dX3_needOf_16 rfl (lv_at hl 1 rfl) ?_
  refine x_getr F hP k_3 (hP.al 3 rfl) fl_X3_37 rfl r_3_0 dX3_needOf_17 ?_
  refine lv_iload_n hx hb dX3_needOf_20 rfl (lv_at hl 0 rfl) ?_
  obtain ⟨v_21, hc_21, h⟩ := bo_s h
  refine x_goes (x_runV (As := [.int v_12]) (rest := []) F hP hS (c_X8_riseXOf l D cT lo w ad v_12 v_21 hc_21) cw_X8_riseXOf lk_X3_179 vi_X8_riseXOf k_2 (n2 (hP.al 2 rfl)) rfl ⟨rfl, rfl, Nat.le_of_ble_eq_true rfl, Nat.le_of_ble_eq_true rfl⟩ hl.1 rfl (Nat.le_of_ble_eq_true rfl) dX3_needOf_21 ⟨Nat.zero_le _, Nat.zero_le _⟩) hS (fun H locs hP hS _ => ?_)
  refine lv_aload_n hx hb dX3_needOf_24 rfl (lv_at hl 2 rfl) ?_
  refine y_geti h F hP hk1 (n2 ha1) fl_X3_61 rfl dX3_needOf_25 (fun v_25 h => ?_)
  refine x_goes (x_runSN (As := [.int v_25]) (rest := [.int v_21]) F hP hS (c_X11_cosine l D cT lo NB w ad v_25) cw_X11_cosine nl_X3_88 st_X11_cosine ⟨rfl, rfl, Nat.le_of_ble_eq_true rfl, Nat.le_of_ble_eq_true rfl⟩ hl.1 rfl (Nat.le_of_ble_eq_true rfl) dX3_needOf_28 ⟨Nat.zero_le _, Nat.zero_le _⟩) hS (fun H locs hP hS _ => ?_)
  refine lv_imul hx hb dX3_needOf_31 ?_
  refine lv_aload_n hx hb dX3_needOf_32 rfl (lv_at hl 1 rfl) ?_
  refine x_getr F hP k_3 (hP.al 3 rfl) fl_X3_37 rfl r_3_0 dX3_needOf_33 ?_
  refine lv_iload_n hx hb dX3_needOf_36 rfl (lv_at hl 0 rfl) ?_
  obtain ⟨v_37, hc_37, h⟩ := bo_s h
  refine x_goes (x_runV (As := [.int v_12]) (rest := [.int (v_21 * (f_X11_cosine v_25))]) F hP hS (c_X8_riseYOf l D cT lo w ad v_12 v_37 hc_37) cw_X8_riseYOf lk_X3_182 vi_X8_riseYOf k_2 (n2 (hP.al 2 rfl)) rfl ⟨rfl, rfl, Nat.le_of_ble_eq_true rfl, Nat.le_of_ble_eq_true rfl⟩ hl.1 rfl (Nat.le_of_ble_eq_true rfl) dX3_needOf_37 ⟨Nat.zero_le _, Nat.zero_le _⟩) hS (fun H locs hP hS _ => ?_)
  refine lv_aload_n hx hb dX3_needOf_40 rfl (lv_at hl 2 rfl) ?_
  refine y_geti h F hP hk1 (n2 ha1) fl_X3_61 rfl dX3_needOf_41 (fun v_41 h => ?_)
  refine x_goes (x_runSN (As := [.int v_41]) (rest := [.int v_37, .int (v_21 * (f_X11_cosine v_25))]) F hP hS (c_X11_sine l D cT lo NB w ad v_41) cw_X11_sine nl_X3_92 st_X11_sine ⟨rfl, rfl, Nat.le_of_ble_eq_true rfl, Nat.le_of_ble_eq_true rfl⟩ hl.1 rfl (Nat.le_of_ble_eq_true rfl) dX3_needOf_44 ⟨Nat.zero_le _, Nat.zero_le _⟩) hS (fun H locs hP hS _ => ?_)
  refine lv_imul hx hb dX3_needOf_47 ?_
  refine lv_iadd hx hb dX3_needOf_48 ?_
  refine y_let h (fun v_49 h => ?_)
  refine lv_istore_n (lv' := [(3, .int v_49), (2, .int v_12), (0, .ref (ad 3)), (1, .ref (ad a1))]) hx hb dX3_needOf_49 rfl hl (Nat.le_of_ble_eq_true rfl) rfl (fun ls hl => ?_)
  refine lv_aload_n hx hb dX3_needOf_50 rfl (lv_at hl 3 rfl) ?_
  refine y_geti h F hP hk1 (n2 ha1) fl_X3_185 rfl dX3_needOf_51 (fun v_51 h => ?_)
  refine lv_aload_n hx hb dX3_needOf_54 rfl (lv_at hl 2 rfl) ?_
  refine y_geti h F hP k_3 (n2 (hP.al 3 rfl)) fl_X3_24 rfl dX3_needOf_55 (fun v_55 h => ?_)
  refine lv_iload_n hx hb dX3_needOf_58 rfl (lv_at hl 0 rfl) ?_
  refine lv_bipush (v := 65) hx hb dX3_needOf_59 ib_65 ?_
  refine x_goes (x_runS (As := [.int v_49, .int (65 : Int32)]) (rest := [.int v_55, .int v_51]) F hP hS (c_J9_floorDiv_7cf53 l D cT lo NB w ad v_49 (65 : Int32) (by decide)) cw_J9_floorDiv_7cf53 lk_X3_188 st_J9_floorDiv_7cf53 ⟨rfl, rfl, Nat.le_of_ble_eq_true rfl, Nat.le_of_ble_eq_true rfl⟩ hl.1 rfl (Nat.le_of_ble_eq_true rfl) dX3_needOf_61 ⟨Nat.zero_le _, Nat.zero_le _⟩) hS (fun H locs hP hS _ => ?_)
  refine lv_iadd hx hb dX3_needOf_64 ?_
  refine lv_imul hx hb dX3_needOf_65 ?_
  refine y_let h (fun v_66 h => ?_)
  refine lv_istore (lv' := [(4, .int v_66), (3, .int v_49), (2, .int v_12), (0, .ref (ad 3)), (1, .ref (ad a1))]) hx hb dX3_needOf_66 hl (Nat.le_of_ble_eq_true rfl) rfl (fun ls hl => ?_)
  refine lv_iload hx hb dX3_needOf_68 (lv_at hl 0 rfl) ?_
  refine lv_ineg hx hb dX3_needOf_70 ?_
  refine lv_bipush (v := 10) hx hb dX3_needOf_71 ib_10 ?_
  refine x_goes (x_runS (As := [.int (-v_66), .int (10 : Int32)]) (rest := []) F hP hS (c_J9_floorDiv_7cf53 l D cT lo NB w ad (-v_66) (10 : Int32) (by decide)) cw_J9_floorDiv_7cf53 lk_X3_188 st_J9_floorDiv_7cf53 ⟨rfl, rfl, Nat.le_of_ble_eq_true rfl, Nat.le_of_ble_eq_true rfl⟩ hl.1 rfl (Nat.le_of_ble_eq_true rfl) dX3_needOf_73 ⟨Nat.zero_le _, Nat.zero_le _⟩) hS (fun H locs hP hS _ => ?_)
  refine lv_ineg hx hb dX3_needOf_76 ?_
  exact y_iretO h F hr hP hS hlk dX3_needOf_77
def l_X3_fewestWoods_28 (v_6 : Int32) (w_10 : Wd) (v_17 : Int32) (v_20 : Int32) : Nat → Int32 → Option (Int32 × Wd)
  | 0, _ => none
  | n_28 + 1, x5_28l =>
    if (20 : Int32) < x5_28l then
    some ((-1 : Int32), w_10)
    else
    q_jn (fun (s0_59 : Int32) =>
    if (s0_59 + v_17) < v_6 then
    q_lt (x5_28l + (1 : Int32)) (fun v_72 =>
    l_X3_fewestWoods_28 v_6 w_10 v_17 v_20 n_28 v_72)
    else
    some (x5_28l, w_10)) (fun j_59 =>
    if v_20 = 0 then
    q_gt w_10 3 6 (fun v_55 =>
    j_59 (x5_28l * v_55))
    else
    q_gt w_10 3 6 (fun v_43 =>
    j_59 ((x5_28l * v_43) / (2 : Int32))))
def f_X3_fewestWoods (w : Wd) (a1 : Nat) : Option (Int32 × Wd) :=
q_bo (f_X3_needOf w a1) (fun v_2 =>
q_lt (-v_2) (fun v_6 =>
q_bi (f_X3_pullOf w a1) (fun v_10 w_10 =>
q_lt (f_J9_max_7cf53 (0 : Int32) (-v_10)) (fun v_17 =>
q_bo (f_X3_isWetUnder w_10 a1) (fun v_20 =>
l_X3_fewestWoods_28 v_6 w_10 v_17 v_20 FU (0 : Int32))))))
set_option maxRecDepth 100000 in
set_option maxHeartbeats 4000000 in
theorem c_X3_fewestWoods (l : Launch) (D : va_G) (cT : Nat → ClassId) (lo : Nat) (w : Wd) (ad : Nat → Nat) (a1 : Nat) (hk1 : kt a1 = (11, 0)) (ha1 : wA w a1 = 2) (r : Int32) (w9 : Wd) (h : f_X3_fewestWoods w a1 = some (r, w9)) : Met l yX3_fewestWoods (.code yX3_fewestWoods cX3_fewestWoods 7 (some .int) :: TW) { frames := 6, cells := 0, slots := 0, locals := 139 } (mPc D cT lo NB w ad [.ref (ad 3), .ref (ad a1)]) (mQ D cT lo NB w w9 ad (some (.int r))) 0 0 (fun q => lo ≤ q) := by
  unfold f_X3_fewestWoods at h
  refine x_met (lv := [(0, .ref (ad 3)), (1, .ref (ad a1))]) (by decide +kernel) (Nat.le_of_ble_eq_true rfl) rfl ?_
  intro p e s m args below meth c ls F hr hlk hP hin hl
  have hx := F.1
  have hb := F.2.1
  have hS : va_S (fun q => lo ≤ q) s.heap s.heap [] := va_S.rf
  have hM_w : mono w w := mono.refl
  refine lv_aload_n hx hb dX3_fewestWoods_0 rfl (lv_at hl 0 rfl) ?_
  refine lv_aload_n hx hb dX3_fewestWoods_1 rfl (lv_at hl 1 rfl) ?_
  obtain ⟨v_2, hc_2, h⟩ := bo_s h
  refine x_goes (x_runV (As := [.ref (ad a1)]) (rest := []) F hP hS (c_X3_needOf l D cT lo w ad a1 hk1 ha1 v_2 hc_2) cw_X3_needOf lk_X3_193 vi_X3_needOf k_3 (n2 (hP.al 3 rfl)) rfl ⟨rfl, rfl, Nat.le_of_ble_eq_true rfl, Nat.le_of_ble_eq_true rfl⟩ hl.1 rfl (Nat.le_of_ble_eq_true rfl) dX3_fewestWoods_2 ⟨Nat.zero_le _, Nat.zero_le _⟩) hS (fun H locs hP hS _ => ?_)
  refine lv_ineg hx hb dX3_fewestWoods_5 ?_
  refine y_let h (fun v_6 h => ?_)
  refine lv_istore_n (lv' := [(2, .int v_6), (0, .ref (ad 3)), (1, .ref (ad a1))]) hx hb dX3_fewestWoods_6 rfl hl (Nat.le_of_ble_eq_true rfl) rfl (fun ls hl => ?_)
  refine lv_iconst (v := 0) hx hb dX3_fewestWoods_7 ic_0 ?_
  refine lv_aload_n hx hb dX3_fewestWoods_8 rfl (lv_at hl 1 rfl) ?_
  refine lv_aload_n hx hb dX3_fewestWoods_9 rfl (lv_at hl 2 rfl) ?_
  obtain ⟨v_10, w_10, hc_10, h⟩ := bi_s h
  refine x_goes (x_runV (As := [.ref (ad a1)]) (rest := [.int (0 : Int32)]) F hP hS (c_X3_pullOf l D cT lo w ad a1 hk1 ha1 v_10 w_10 hc_10) cw_X3_pullOf lk_X3_196 vi_X3_pullOf k_3 (n2 (hP.al 3 rfl)) rfl ⟨rfl, rfl, Nat.le_of_ble_eq_true rfl, Nat.le_of_ble_eq_true rfl⟩ hl.1 rfl (Nat.le_of_ble_eq_true rfl) dX3_fewestWoods_10 ⟨Nat.zero_le _, Nat.zero_le _⟩) hS (fun H locs hP hS hm => ?_)
  have hM_w := hm
  have ha1 := hm.2 _ ha1
  refine lv_ineg hx hb dX3_fewestWoods_13 ?_
  refine x_goes (x_runS (As := [.int (0 : Int32), .int (-v_10)]) (rest := []) F hP hS (c_J9_max_7cf53 l D cT lo NB w_10 ad (0 : Int32) (-v_10)) cw_J9_max_7cf53 lk_X3_199 st_J9_max_7cf53 ⟨rfl, rfl, Nat.le_of_ble_eq_true rfl, Nat.le_of_ble_eq_true rfl⟩ hl.1 rfl (Nat.le_of_ble_eq_true rfl) dX3_fewestWoods_14 ⟨Nat.zero_le _, Nat.zero_le _⟩) hS (fun H locs hP hS _ => ?_)
  refine y_let h (fun v_17 h => ?_)
  refine lv_istore_n (lv' := [(3, .int v_17), (2, .int v_6), (0, .ref (ad 3)), (1, .ref (ad a1))]) hx hb dX3_fewestWoods_17 rfl hl (Nat.le_of_ble_eq_true rfl) rfl (fun ls hl => ?_)
  refine lv_aload_n hx hb dX3_fewestWoods_18 rfl (lv_at hl 2 rfl) ?_
  refine lv_aload_n hx hb dX3_fewestWoods_19 rfl (lv_at hl 3 rfl) ?_
  obtain ⟨v_20, hc_20, h⟩ := bo_s h
  refine x_goesZ (x_runV (As := [.ref (ad a1)]) (rest := []) F hP hS (c_X3_isWetUnder l D cT lo w_10 ad a1 hk1 ha1 v_20 hc_20) cw_X3_isWetUnder lk_X3_161 vi_X3_isWetUnder k_3 (n2 (hP.al 3 rfl)) rfl ⟨rfl, rfl, Nat.le_of_ble_eq_true rfl, Nat.le_of_ble_eq_true rfl⟩ hl.1 rfl (Nat.le_of_ble_eq_true rfl) dX3_fewestWoods_20 ⟨Nat.zero_le _, Nat.zero_le _⟩) hS (fun H locs hz_20 hP hS _ => ?_)
  refine lv_istore (lv' := [(4, .int v_20), (3, .int v_17), (2, .int v_6), (0, .ref (ad 3)), (1, .ref (ad a1))]) hx hb dX3_fewestWoods_23 hl (Nat.le_of_ble_eq_true rfl) rfl (fun ls hl => ?_)
  refine lv_iconst (v := 0) hx hb dX3_fewestWoods_25 ic_0 ?_
  refine lv_istore (lv' := [(5, .int (0 : Int32)), (4, .int v_20), (3, .int v_17), (2, .int v_6), (0, .ref (ad 3)), (1, .ref (ad a1))]) hx hb dX3_fewestWoods_26 hl (Nat.le_of_ble_eq_true rfl) rfl (fun ls hl => ?_)
  have L_28 : ∀ (n_28 : Nat) (x5_28l : Int32), l_X3_fewestWoods_28 v_6 w_10 v_17 v_20 n_28 x5_28l = some (r, w9) → GG p l e { frames := 6, cells := 0, slots := 0, locals := 139 } s m args below meth c 0 0 (MQ below (mQ D cT lo NB w w9 ad (some (.int r))) args s 0 0 (fun q => lo ≤ q)) D cT lo NB 7 ad w_10 28 [(5, .int x5_28l), (4, .int v_20), (3, .int v_17), (2, .int v_6), (0, .ref (ad 3))] [] := by
    intro n_28
    induction n_28 with
    | zero =>
      intro x5_28l h
      exact absurd h (by unfold l_X3_fewestWoods_28; exact fun z => by cases z)
    | succ n_28 ih_28 =>
      intro x5_28l h H locs ls hP hS hl
      unfold l_X3_fewestWoods_28 at h
      refine lv_iload hx hb dX3_fewestWoods_28 (lv_at hl 0 rfl) ?_
      refine lv_bipush (v := 20) hx hb dX3_fewestWoods_30 ib_20 ?_
      refine lv_icmp_gt (tgt := 78) hx hb dX3_fewestWoods_32 (by decide) (fun hc => ?_) (fun hc => ?_)
      · have h := if_t _ hc h
        refine lv_iconst (v := -1) hx hb dX3_fewestWoods_78 ic_m1 ?_
        exact y_iretM h F hr hP hS hM_w hlk dX3_fewestWoods_79
      · have h := if_f _ hc h
        refine lv_iload hx hb dX3_fewestWoods_35 (lv_at hl 1 rfl) ?_
        refine jn_use (fun (j_59 : Int32 → Option (Int32 × Wd)) => ∀ (s0_59 : Int32), j_59 s0_59 = some (r, w9) → GG p l e { frames := 6, cells := 0, slots := 0, locals := 139 } s m args below meth c 0 0 (MQ below (mQ D cT lo NB w w9 ad (some (.int r))) args s 0 0 (fun q => lo ≤ q)) D cT lo NB 7 ad w_10 59 [(5, .int x5_28l), (4, .int v_20), (3, .int v_17), (2, .int v_6), (0, .ref (ad 3))] [.int s0_59]) h (fun s0_59 h H locs ls hP hS hl => ?_) (fun j_59 J_59 h => ?_)
        · refine lv_istore (lv' := [(6, .int s0_59), (5, .int x5_28l), (4, .int v_20), (3, .int v_17), (2, .int v_6), (0, .ref (ad 3))]) hx hb dX3_fewestWoods_59 hl (Nat.le_of_ble_eq_true rfl) rfl (fun ls hl => ?_)
          refine lv_iload hx hb dX3_fewestWoods_61 (lv_at hl 0 rfl) ?_
          refine lv_iload_n hx hb dX3_fewestWoods_63 rfl (lv_at hl 3 rfl) ?_
          refine lv_iadd hx hb dX3_fewestWoods_64 ?_
          refine lv_iload_n hx hb dX3_fewestWoods_65 rfl (lv_at hl 4 rfl) ?_
          refine lv_icmp_lt (tgt := 72) hx hb dX3_fewestWoods_66 (by decide) (fun hc => ?_) (fun hc => ?_)
          · have h := if_t _ hc h
            refine y_iinc (lv' := fun (v_72 : Int32) => [(5, .int v_72), (6, .int s0_59), (4, .int v_20), (3, .int v_17), (2, .int v_6), (0, .ref (ad 3))]) h F ic_1 dX3_fewestWoods_72 hl (kq := 1) rfl (Nat.le_of_ble_eq_true rfl) (fun _ => rfl) (fun v_72 ls hl h => ?_)
            refine lv_goto (tgt := 28) hx hb dX3_fewestWoods_75 (by decide) ?_
            exact ih_28 v_72 h _ _ _ hP hS (lv_sub hl [0, 2, 3, 4, 5] rfl)
          · have h := if_f _ hc h
            refine lv_iload hx hb dX3_fewestWoods_69 (lv_at hl 1 rfl) ?_
            exact y_iretM h F hr hP hS hM_w hlk dX3_fewestWoods_71
        · refine lv_if_eq (tgt := 52) hx hb dX3_fewestWoods_37 (by decide) (fun hc => ?_) (fun hc => ?_)
          · have h := if_t _ hc h
            refine lv_iload hx hb dX3_fewestWoods_52 (lv_at hl 0 rfl) ?_
            refine lv_aload_n hx hb dX3_fewestWoods_54 rfl (lv_at hl 4 rfl) ?_
            refine y_geti h F hP k_3 (n2 (hP.al 3 rfl)) fl_X3_27 rfl dX3_fewestWoods_55 (fun v_55 h => ?_)
            refine lv_imul hx hb dX3_fewestWoods_58 ?_
            exact J_59 (x5_28l * v_55) h _ _ _ hP hS (lv_sub hl [0, 1, 2, 3, 4] rfl)
          · have h := if_f _ hc h
            refine lv_iload hx hb dX3_fewestWoods_40 (lv_at hl 0 rfl) ?_
            refine lv_aload_n hx hb dX3_fewestWoods_42 rfl (lv_at hl 4 rfl) ?_
            refine y_geti h F hP k_3 (n2 (hP.al 3 rfl)) fl_X3_27 rfl dX3_fewestWoods_43 (fun v_43 h => ?_)
            refine lv_imul hx hb dX3_fewestWoods_46 ?_
            refine lv_iconst (v := 2) hx hb dX3_fewestWoods_47 ic_2 ?_
            refine lv_idiv hx hb dX3_fewestWoods_48 (by decide) ?_
            refine lv_goto (tgt := 59) hx hb dX3_fewestWoods_49 (by decide) ?_
            exact J_59 ((x5_28l * v_43) / (2 : Int32)) h _ _ _ hP hS (lv_sub hl [0, 1, 2, 3, 4] rfl)
  exact L_28 FU (0 : Int32) h _ _ _ hP hS (lv_sub hl [0, 1, 2, 3, 4] rfl)
