theorem dX2_tellBlock_0 : decode cX2_tellBlock 0 = .ok (.iload_n 1, 1) := by decide +kernel
theorem dX2_tellBlock_1 : decode cX2_tellBlock 1 = .ok (.iconst 0, 1) := by decide +kernel
theorem dX2_tellBlock_2 : decode cX2_tellBlock 2 = .ok (.bipush 19, 2) := by decide +kernel
theorem dX2_tellBlock_4 : decode cX2_tellBlock 4 = .ok (.invokestatic 49, 3) := by decide +kernel
theorem dX2_tellBlock_7 : decode cX2_tellBlock 7 = .ok (.ifCond .eq 13, 3) := by decide +kernel
theorem dX2_tellBlock_10 : decode cX2_tellBlock 10 = .ok (.iload_n 2, 1) := by decide +kernel
theorem dX2_tellBlock_11 : decode cX2_tellBlock 11 = .ok (.iconst 1, 1) := by decide +kernel
theorem dX2_tellBlock_12 : decode cX2_tellBlock 12 = .ok (.bipush 60, 2) := by decide +kernel
theorem dX2_tellBlock_14 : decode cX2_tellBlock 14 = .ok (.invokestatic 49, 3) := by decide +kernel
theorem dX2_tellBlock_17 : decode cX2_tellBlock 17 = .ok (.ifCond .ne 6, 3) := by decide +kernel
theorem dX2_tellBlock_20 : decode cX2_tellBlock 20 = .ok (.bipush (-2), 2) := by decide +kernel
theorem dX2_tellBlock_22 : decode cX2_tellBlock 22 = .ok (.ireturn, 1) := by decide +kernel
theorem dX2_tellBlock_23 : decode cX2_tellBlock 23 = .ok (.aload_n 0, 1) := by decide +kernel
theorem dX2_tellBlock_24 : decode cX2_tellBlock 24 = .ok (.getfield 11, 3) := by decide +kernel
theorem dX2_tellBlock_27 : decode cX2_tellBlock 27 = .ok (.iload_n 1, 1) := by decide +kernel
theorem dX2_tellBlock_28 : decode cX2_tellBlock 28 = .ok (.iload_n 2, 1) := by decide +kernel
theorem dX2_tellBlock_29 : decode cX2_tellBlock 29 = .ok (.iastore, 1) := by decide +kernel
theorem dX2_tellBlock_30 : decode cX2_tellBlock 30 = .ok (.aload_n 0, 1) := by decide +kernel
theorem dX2_tellBlock_31 : decode cX2_tellBlock 31 = .ok (.getfield 15, 3) := by decide +kernel
theorem dX2_tellBlock_34 : decode cX2_tellBlock 34 = .ok (.iload_n 1, 1) := by decide +kernel
theorem dX2_tellBlock_35 : decode cX2_tellBlock 35 = .ok (.iload_n 3, 1) := by decide +kernel
theorem dX2_tellBlock_36 : decode cX2_tellBlock 36 = .ok (.bastore, 1) := by decide +kernel
theorem dX2_tellBlock_37 : decode cX2_tellBlock 37 = .ok (.iconst 1, 1) := by decide +kernel
theorem dX2_tellBlock_38 : decode cX2_tellBlock 38 = .ok (.ireturn, 1) := by decide +kernel
theorem dX2_addCar_0 : decode cX2_addCar 0 = .ok (.iload_n 1, 1) := by decide +kernel
theorem dX2_addCar_1 : decode cX2_addCar 1 = .ok (.iconst 0, 1) := by decide +kernel
theorem dX2_addCar_2 : decode cX2_addCar 2 = .ok (.bipush 19, 2) := by decide +kernel
theorem dX2_addCar_4 : decode cX2_addCar 4 = .ok (.invokestatic 49, 3) := by decide +kernel
theorem dX2_addCar_7 : decode cX2_addCar 7 = .ok (.ifCond .eq 29, 3) := by decide +kernel
theorem dX2_addCar_10 : decode cX2_addCar 10 = .ok (.iload_n 2, 1) := by decide +kernel
theorem dX2_addCar_11 : decode cX2_addCar 11 = .ok (.iconst 0, 1) := by decide +kernel
theorem dX2_addCar_12 : decode cX2_addCar 12 = .ok (.bipush 19, 2) := by decide +kernel
theorem dX2_addCar_14 : decode cX2_addCar 14 = .ok (.invokestatic 49, 3) := by decide +kernel
theorem dX2_addCar_17 : decode cX2_addCar 17 = .ok (.ifCond .eq 19, 3) := by decide +kernel
theorem dX2_addCar_20 : decode cX2_addCar 20 = .ok (.iload_n 1, 1) := by decide +kernel
theorem dX2_addCar_21 : decode cX2_addCar 21 = .ok (.iload_n 2, 1) := by decide +kernel
theorem dX2_addCar_22 : decode cX2_addCar 22 = .ok (.if_icmp .eq 14, 3) := by decide +kernel
theorem dX2_addCar_25 : decode cX2_addCar 25 = .ok (.iload_n 3, 1) := by decide +kernel
theorem dX2_addCar_26 : decode cX2_addCar 26 = .ok (.iconst 0, 1) := by decide +kernel
theorem dX2_addCar_27 : decode cX2_addCar 27 = .ok (.sipush 999, 3) := by decide +kernel
theorem dX2_addCar_30 : decode cX2_addCar 30 = .ok (.invokestatic 49, 3) := by decide +kernel
theorem dX2_addCar_33 : decode cX2_addCar 33 = .ok (.ifCond .ne 6, 3) := by decide +kernel
theorem dX2_addCar_36 : decode cX2_addCar 36 = .ok (.bipush (-2), 2) := by decide +kernel
theorem dX2_addCar_38 : decode cX2_addCar 38 = .ok (.ireturn, 1) := by decide +kernel
theorem dX2_addCar_39 : decode cX2_addCar 39 = .ok (.aload_n 0, 1) := by decide +kernel
theorem dX2_addCar_40 : decode cX2_addCar 40 = .ok (.getfield 53, 3) := by decide +kernel
theorem dX2_addCar_43 : decode cX2_addCar 43 = .ok (.iconst 4, 1) := by decide +kernel
theorem dX2_addCar_44 : decode cX2_addCar 44 = .ok (.if_icmp .lt 6, 3) := by decide +kernel
theorem dX2_addCar_47 : decode cX2_addCar 47 = .ok (.bipush (-4), 2) := by decide +kernel
theorem dX2_addCar_49 : decode cX2_addCar 49 = .ok (.ireturn, 1) := by decide +kernel
theorem dX2_addCar_50 : decode cX2_addCar 50 = .ok (.aload_n 0, 1) := by decide +kernel
theorem dX2_addCar_51 : decode cX2_addCar 51 = .ok (.getfield 19, 3) := by decide +kernel
theorem dX2_addCar_54 : decode cX2_addCar 54 = .ok (.aload_n 0, 1) := by decide +kernel
theorem dX2_addCar_55 : decode cX2_addCar 55 = .ok (.getfield 53, 3) := by decide +kernel
theorem dX2_addCar_58 : decode cX2_addCar 58 = .ok (.iload_n 1, 1) := by decide +kernel
theorem dX2_addCar_59 : decode cX2_addCar 59 = .ok (.iastore, 1) := by decide +kernel
theorem dX2_addCar_60 : decode cX2_addCar 60 = .ok (.aload_n 0, 1) := by decide +kernel
theorem dX2_addCar_61 : decode cX2_addCar 61 = .ok (.getfield 22, 3) := by decide +kernel
theorem dX2_addCar_64 : decode cX2_addCar 64 = .ok (.aload_n 0, 1) := by decide +kernel
theorem dX2_addCar_65 : decode cX2_addCar 65 = .ok (.getfield 53, 3) := by decide +kernel
theorem dX2_addCar_68 : decode cX2_addCar 68 = .ok (.iload_n 2, 1) := by decide +kernel
theorem dX2_addCar_69 : decode cX2_addCar 69 = .ok (.iastore, 1) := by decide +kernel
theorem dX2_addCar_70 : decode cX2_addCar 70 = .ok (.aload_n 0, 1) := by decide +kernel
theorem dX2_addCar_71 : decode cX2_addCar 71 = .ok (.getfield 25, 3) := by decide +kernel
theorem dX2_addCar_74 : decode cX2_addCar 74 = .ok (.aload_n 0, 1) := by decide +kernel
theorem dX2_addCar_75 : decode cX2_addCar 75 = .ok (.getfield 53, 3) := by decide +kernel
theorem dX2_addCar_78 : decode cX2_addCar 78 = .ok (.iload_n 3, 1) := by decide +kernel
theorem dX2_addCar_79 : decode cX2_addCar 79 = .ok (.iastore, 1) := by decide +kernel
theorem dX2_addCar_80 : decode cX2_addCar 80 = .ok (.aload_n 0, 1) := by decide +kernel
theorem dX2_addCar_81 : decode cX2_addCar 81 = .ok (.getfield 28, 3) := by decide +kernel
theorem dX2_addCar_84 : decode cX2_addCar 84 = .ok (.aload_n 0, 1) := by decide +kernel
theorem dX2_addCar_85 : decode cX2_addCar 85 = .ok (.getfield 53, 3) := by decide +kernel
theorem dX2_addCar_88 : decode cX2_addCar 88 = .ok (.iconst 0, 1) := by decide +kernel
theorem dX2_addCar_89 : decode cX2_addCar 89 = .ok (.iastore, 1) := by decide +kernel
theorem dX2_addCar_90 : decode cX2_addCar 90 = .ok (.aload_n 0, 1) := by decide +kernel
theorem dX2_addCar_91 : decode cX2_addCar 91 = .ok (.getfield 31, 3) := by decide +kernel
theorem dX2_addCar_94 : decode cX2_addCar 94 = .ok (.aload_n 0, 1) := by decide +kernel
theorem dX2_addCar_95 : decode cX2_addCar 95 = .ok (.getfield 53, 3) := by decide +kernel
theorem dX2_addCar_98 : decode cX2_addCar 98 = .ok (.iconst 0, 1) := by decide +kernel
theorem dX2_addCar_99 : decode cX2_addCar 99 = .ok (.iastore, 1) := by decide +kernel
theorem dX2_addCar_100 : decode cX2_addCar 100 = .ok (.aload_n 0, 1) := by decide +kernel
theorem dX2_addCar_101 : decode cX2_addCar 101 = .ok (.dup, 1) := by decide +kernel
theorem dX2_addCar_102 : decode cX2_addCar 102 = .ok (.getfield 53, 3) := by decide +kernel
theorem dX2_addCar_105 : decode cX2_addCar 105 = .ok (.dup_x1, 1) := by decide +kernel
theorem dX2_addCar_106 : decode cX2_addCar 106 = .ok (.iconst 1, 1) := by decide +kernel
theorem dX2_addCar_107 : decode cX2_addCar 107 = .ok (.iadd, 1) := by decide +kernel
theorem dX2_addCar_108 : decode cX2_addCar 108 = .ok (.putfield 53, 3) := by decide +kernel
theorem dX2_addCar_111 : decode cX2_addCar 111 = .ok (.ireturn, 1) := by decide +kernel
theorem dX2_stick_0 : decode cX2_stick 0 = .ok (.iload_n 1, 1) := by decide +kernel
theorem dX2_stick_1 : decode cX2_stick 1 = .ok (.iconst 0, 1) := by decide +kernel
theorem dX2_stick_2 : decode cX2_stick 2 = .ok (.aload_n 0, 1) := by decide +kernel
theorem dX2_stick_3 : decode cX2_stick 3 = .ok (.getfield 53, 3) := by decide +kernel
theorem dX2_stick_6 : decode cX2_stick 6 = .ok (.iconst 1, 1) := by decide +kernel
theorem dX2_stick_7 : decode cX2_stick 7 = .ok (.isub, 1) := by decide +kernel
theorem dX2_stick_8 : decode cX2_stick 8 = .ok (.invokestatic 49, 3) := by decide +kernel
theorem dX2_stick_11 : decode cX2_stick 11 = .ok (.ifCond .eq 30, 3) := by decide +kernel
theorem dX2_stick_14 : decode cX2_stick 14 = .ok (.iload_n 2, 1) := by decide +kernel
theorem dX2_stick_15 : decode cX2_stick 15 = .ok (.iconst 0, 1) := by decide +kernel
theorem dX2_stick_16 : decode cX2_stick 16 = .ok (.sipush 2000, 3) := by decide +kernel
theorem dX2_stick_19 : decode cX2_stick 19 = .ok (.invokestatic 49, 3) := by decide +kernel
theorem dX2_stick_22 : decode cX2_stick 22 = .ok (.ifCond .eq 19, 3) := by decide +kernel
theorem dX2_stick_25 : decode cX2_stick 25 = .ok (.iload_n 3, 1) := by decide +kernel
theorem dX2_stick_26 : decode cX2_stick 26 = .ok (.iconst 0, 1) := by decide +kernel
theorem dX2_stick_27 : decode cX2_stick 27 = .ok (.sipush 2000, 3) := by decide +kernel
theorem dX2_stick_30 : decode cX2_stick 30 = .ok (.invokestatic 49, 3) := by decide +kernel
theorem dX2_stick_33 : decode cX2_stick 33 = .ok (.ifCond .eq 8, 3) := by decide +kernel
theorem dX2_stick_36 : decode cX2_stick 36 = .ok (.iload_n 2, 1) := by decide +kernel
theorem dX2_stick_37 : decode cX2_stick 37 = .ok (.iload_n 3, 1) := by decide +kernel
theorem dX2_stick_38 : decode cX2_stick 38 = .ok (.if_icmp .lt 6, 3) := by decide +kernel
theorem dX2_stick_41 : decode cX2_stick 41 = .ok (.bipush (-2), 2) := by decide +kernel
theorem dX2_stick_43 : decode cX2_stick 43 = .ok (.ireturn, 1) := by decide +kernel
theorem dX2_stick_44 : decode cX2_stick 44 = .ok (.aload_n 0, 1) := by decide +kernel
theorem dX2_stick_45 : decode cX2_stick 45 = .ok (.getfield 28, 3) := by decide +kernel
theorem dX2_stick_48 : decode cX2_stick 48 = .ok (.iload_n 1, 1) := by decide +kernel
theorem dX2_stick_49 : decode cX2_stick 49 = .ok (.iload_n 2, 1) := by decide +kernel
theorem dX2_stick_50 : decode cX2_stick 50 = .ok (.iastore, 1) := by decide +kernel
theorem dX2_stick_51 : decode cX2_stick 51 = .ok (.aload_n 0, 1) := by decide +kernel
theorem dX2_stick_52 : decode cX2_stick 52 = .ok (.getfield 31, 3) := by decide +kernel
theorem dX2_stick_55 : decode cX2_stick 55 = .ok (.iload_n 1, 1) := by decide +kernel
theorem dX2_stick_56 : decode cX2_stick 56 = .ok (.iload_n 3, 1) := by decide +kernel
theorem dX2_stick_57 : decode cX2_stick 57 = .ok (.iastore, 1) := by decide +kernel
theorem dX2_stick_58 : decode cX2_stick 58 = .ok (.iconst 1, 1) := by decide +kernel
theorem dX2_stick_59 : decode cX2_stick 59 = .ok (.ireturn, 1) := by decide +kernel
theorem dX2_clearCars_0 : decode cX2_clearCars 0 = .ok (.aload_n 0, 1) := by decide +kernel
theorem dX2_clearCars_1 : decode cX2_clearCars 1 = .ok (.getfield 53, 3) := by decide +kernel
theorem dX2_clearCars_4 : decode cX2_clearCars 4 = .ok (.istore_n 1, 1) := by decide +kernel
theorem dX2_clearCars_5 : decode cX2_clearCars 5 = .ok (.aload_n 0, 1) := by decide +kernel
theorem dX2_clearCars_6 : decode cX2_clearCars 6 = .ok (.iconst 0, 1) := by decide +kernel
theorem dX2_clearCars_7 : decode cX2_clearCars 7 = .ok (.putfield 53, 3) := by decide +kernel
theorem dX2_clearCars_10 : decode cX2_clearCars 10 = .ok (.iload_n 1, 1) := by decide +kernel
theorem dX2_clearCars_11 : decode cX2_clearCars 11 = .ok (.ireturn, 1) := by decide +kernel
theorem dX2_hasRoom_0 : decode cX2_hasRoom 0 = .ok (.iconst 0, 1) := by decide +kernel
theorem dX2_hasRoom_1 : decode cX2_hasRoom 1 = .ok (.istore_n 2, 1) := by decide +kernel
theorem dX2_hasRoom_2 : decode cX2_hasRoom 2 = .ok (.iconst 0, 1) := by decide +kernel
theorem dX2_hasRoom_3 : decode cX2_hasRoom 3 = .ok (.istore_n 3, 1) := by decide +kernel
theorem dX2_hasRoom_4 : decode cX2_hasRoom 4 = .ok (.iload_n 3, 1) := by decide +kernel
theorem dX2_hasRoom_5 : decode cX2_hasRoom 5 = .ok (.aload_n 0, 1) := by decide +kernel
theorem dX2_hasRoom_6 : decode cX2_hasRoom 6 = .ok (.getfield 53, 3) := by decide +kernel
theorem dX2_hasRoom_9 : decode cX2_hasRoom 9 = .ok (.if_icmp .ge 22, 3) := by decide +kernel
theorem dX2_hasRoom_12 : decode cX2_hasRoom 12 = .ok (.aload_n 0, 1) := by decide +kernel
theorem dX2_hasRoom_13 : decode cX2_hasRoom 13 = .ok (.getfield 34, 3) := by decide +kernel
theorem dX2_hasRoom_16 : decode cX2_hasRoom 16 = .ok (.iload_n 3, 1) := by decide +kernel
theorem dX2_hasRoom_17 : decode cX2_hasRoom 17 = .ok (.iaload, 1) := by decide +kernel
theorem dX2_hasRoom_18 : decode cX2_hasRoom 18 = .ok (.iload_n 1, 1) := by decide +kernel
theorem dX2_hasRoom_19 : decode cX2_hasRoom 19 = .ok (.if_icmp .ne 6, 3) := by decide +kernel
theorem dX2_hasRoom_22 : decode cX2_hasRoom 22 = .ok (.iinc 2 1, 3) := by decide +kernel
theorem dX2_hasRoom_25 : decode cX2_hasRoom 25 = .ok (.iinc 3 1, 3) := by decide +kernel
theorem dX2_hasRoom_28 : decode cX2_hasRoom 28 = .ok (.goto (-24), 3) := by decide +kernel
theorem dX2_hasRoom_31 : decode cX2_hasRoom 31 = .ok (.iload_n 2, 1) := by decide +kernel
theorem dX2_hasRoom_32 : decode cX2_hasRoom 32 = .ok (.aload_n 0, 1) := by decide +kernel
theorem dX2_hasRoom_33 : decode cX2_hasRoom 33 = .ok (.getfield 15, 3) := by decide +kernel
theorem dX2_hasRoom_36 : decode cX2_hasRoom 36 = .ok (.iload_n 1, 1) := by decide +kernel
theorem dX2_hasRoom_37 : decode cX2_hasRoom 37 = .ok (.baload, 1) := by decide +kernel
theorem dX2_hasRoom_38 : decode cX2_hasRoom 38 = .ok (.ifCond .eq 7, 3) := by decide +kernel
theorem dX2_hasRoom_41 : decode cX2_hasRoom 41 = .ok (.iconst 2, 1) := by decide +kernel
theorem dX2_hasRoom_42 : decode cX2_hasRoom 42 = .ok (.goto 4, 3) := by decide +kernel
theorem dX2_hasRoom_45 : decode cX2_hasRoom 45 = .ok (.iconst 1, 1) := by decide +kernel
theorem dX2_hasRoom_46 : decode cX2_hasRoom 46 = .ok (.if_icmp .ge 7, 3) := by decide +kernel
theorem dX2_hasRoom_49 : decode cX2_hasRoom 49 = .ok (.iconst 1, 1) := by decide +kernel
theorem dX2_hasRoom_50 : decode cX2_hasRoom 50 = .ok (.goto 4, 3) := by decide +kernel
theorem dX2_hasRoom_53 : decode cX2_hasRoom 53 = .ok (.iconst 0, 1) := by decide +kernel
theorem dX2_hasRoom_54 : decode cX2_hasRoom 54 = .ok (.ireturn, 1) := by decide +kernel
theorem dX2_enterBlock_0 : decode cX2_enterBlock 0 = .ok (.iload_n 2, 1) := by decide +kernel
theorem dX2_enterBlock_1 : decode cX2_enterBlock 1 = .ok (.iconst 0, 1) := by decide +kernel
theorem dX2_enterBlock_2 : decode cX2_enterBlock 2 = .ok (.bipush 19, 2) := by decide +kernel
theorem dX2_enterBlock_4 : decode cX2_enterBlock 4 = .ok (.invokestatic 49, 3) := by decide +kernel
theorem dX2_enterBlock_7 : decode cX2_enterBlock 7 = .ok (.ifCond .eq 25, 3) := by decide +kernel
theorem dX2_enterBlock_10 : decode cX2_enterBlock 10 = .ok (.aload_n 0, 1) := by decide +kernel
theorem dX2_enterBlock_11 : decode cX2_enterBlock 11 = .ok (.iload_n 2, 1) := by decide +kernel
theorem dX2_enterBlock_12 : decode cX2_enterBlock 12 = .ok (.invokevirtual 73, 3) := by decide +kernel
theorem dX2_enterBlock_15 : decode cX2_enterBlock 15 = .ok (.ifCond .eq 17, 3) := by decide +kernel
theorem dX2_enterBlock_18 : decode cX2_enterBlock 18 = .ok (.aload_n 0, 1) := by decide +kernel
theorem dX2_enterBlock_19 : decode cX2_enterBlock 19 = .ok (.getfield 34, 3) := by decide +kernel
theorem dX2_enterBlock_22 : decode cX2_enterBlock 22 = .ok (.iload_n 1, 1) := by decide +kernel
theorem dX2_enterBlock_23 : decode cX2_enterBlock 23 = .ok (.iload_n 2, 1) := by decide +kernel
theorem dX2_enterBlock_24 : decode cX2_enterBlock 24 = .ok (.iastore, 1) := by decide +kernel
theorem dX2_enterBlock_25 : decode cX2_enterBlock 25 = .ok (.aload_n 0, 1) := by decide +kernel
theorem dX2_enterBlock_26 : decode cX2_enterBlock 26 = .ok (.getfield 37, 3) := by decide +kernel
theorem dX2_enterBlock_29 : decode cX2_enterBlock 29 = .ok (.iload_n 1, 1) := by decide +kernel
theorem dX2_enterBlock_30 : decode cX2_enterBlock 30 = .ok (.iload_n 3, 1) := by decide +kernel
theorem dX2_enterBlock_31 : decode cX2_enterBlock 31 = .ok (.iastore, 1) := by decide +kernel
theorem dX2_enterBlock_32 : decode cX2_enterBlock 32 = .ok (.return_, 1) := by decide +kernel
theorem dX2_hasStayed_0 : decode cX2_hasStayed 0 = .ok (.aload_n 0, 1) := by decide +kernel
theorem dX2_hasStayed_1 : decode cX2_hasStayed 1 = .ok (.getfield 34, 3) := by decide +kernel
theorem dX2_hasStayed_4 : decode cX2_hasStayed 4 = .ok (.iload_n 1, 1) := by decide +kernel
theorem dX2_hasStayed_5 : decode cX2_hasStayed 5 = .ok (.iaload, 1) := by decide +kernel
theorem dX2_hasStayed_6 : decode cX2_hasStayed 6 = .ok (.istore_n 3, 1) := by decide +kernel
theorem dX2_hasStayed_7 : decode cX2_hasStayed 7 = .ok (.iload_n 3, 1) := by decide +kernel
theorem dX2_hasStayed_8 : decode cX2_hasStayed 8 = .ok (.iconst 0, 1) := by decide +kernel
theorem dX2_hasStayed_9 : decode cX2_hasStayed 9 = .ok (.bipush 19, 2) := by decide +kernel
theorem dX2_hasStayed_11 : decode cX2_hasStayed 11 = .ok (.invokestatic 49, 3) := by decide +kernel
theorem dX2_hasStayed_14 : decode cX2_hasStayed 14 = .ok (.ifCond .eq 24, 3) := by decide +kernel
theorem dX2_hasStayed_17 : decode cX2_hasStayed 17 = .ok (.iload_n 2, 1) := by decide +kernel
theorem dX2_hasStayed_18 : decode cX2_hasStayed 18 = .ok (.aload_n 0, 1) := by decide +kernel
theorem dX2_hasStayed_19 : decode cX2_hasStayed 19 = .ok (.getfield 37, 3) := by decide +kernel
theorem dX2_hasStayed_22 : decode cX2_hasStayed 22 = .ok (.iload_n 1, 1) := by decide +kernel
theorem dX2_hasStayed_23 : decode cX2_hasStayed 23 = .ok (.iaload, 1) := by decide +kernel
theorem dX2_hasStayed_24 : decode cX2_hasStayed 24 = .ok (.isub, 1) := by decide +kernel
theorem dX2_hasStayed_25 : decode cX2_hasStayed 25 = .ok (.aload_n 0, 1) := by decide +kernel
theorem dX2_hasStayed_26 : decode cX2_hasStayed 26 = .ok (.getfield 11, 3) := by decide +kernel
theorem dX2_hasStayed_29 : decode cX2_hasStayed 29 = .ok (.iload_n 3, 1) := by decide +kernel
theorem dX2_hasStayed_30 : decode cX2_hasStayed 30 = .ok (.iaload, 1) := by decide +kernel
theorem dX2_hasStayed_31 : decode cX2_hasStayed 31 = .ok (.if_icmp .lt 7, 3) := by decide +kernel
theorem dX2_hasStayed_34 : decode cX2_hasStayed 34 = .ok (.iconst 1, 1) := by decide +kernel
theorem dX2_hasStayed_35 : decode cX2_hasStayed 35 = .ok (.goto 4, 3) := by decide +kernel
theorem dX2_hasStayed_38 : decode cX2_hasStayed 38 = .ok (.iconst 0, 1) := by decide +kernel
theorem dX2_hasStayed_39 : decode cX2_hasStayed 39 = .ok (.ireturn, 1) := by decide +kernel
theorem dX2_pass_0 : decode cX2_pass 0 = .ok (.aload_n 0, 1) := by decide +kernel
theorem dX2_pass_1 : decode cX2_pass 1 = .ok (.getfield 34, 3) := by decide +kernel
theorem dX2_pass_4 : decode cX2_pass 4 = .ok (.iload_n 1, 1) := by decide +kernel
theorem dX2_pass_5 : decode cX2_pass 5 = .ok (.iaload, 1) := by decide +kernel
theorem dX2_pass_6 : decode cX2_pass 6 = .ok (.istore_n 3, 1) := by decide +kernel
theorem dX2_pass_7 : decode cX2_pass 7 = .ok (.iload_n 3, 1) := by decide +kernel
theorem dX2_pass_8 : decode cX2_pass 8 = .ok (.bipush 100, 2) := by decide +kernel
theorem dX2_pass_10 : decode cX2_pass 10 = .ok (.if_icmp .ne 28, 3) := by decide +kernel
theorem dX2_pass_13 : decode cX2_pass 13 = .ok (.iload_n 2, 1) := by decide +kernel
theorem dX2_pass_14 : decode cX2_pass 14 = .ok (.aload_n 0, 1) := by decide +kernel
theorem dX2_pass_15 : decode cX2_pass 15 = .ok (.getfield 25, 3) := by decide +kernel
theorem dX2_pass_18 : decode cX2_pass 18 = .ok (.iload_n 1, 1) := by decide +kernel
theorem dX2_pass_19 : decode cX2_pass 19 = .ok (.iaload, 1) := by decide +kernel
theorem dX2_pass_20 : decode cX2_pass 20 = .ok (.if_icmp .lt 86, 3) := by decide +kernel
theorem dX2_pass_23 : decode cX2_pass 23 = .ok (.aload_n 0, 1) := by decide +kernel
theorem dX2_pass_24 : decode cX2_pass 24 = .ok (.iload_n 1, 1) := by decide +kernel
theorem dX2_pass_25 : decode cX2_pass 25 = .ok (.aload_n 0, 1) := by decide +kernel
theorem dX2_pass_26 : decode cX2_pass 26 = .ok (.getfield 19, 3) := by decide +kernel
theorem dX2_pass_29 : decode cX2_pass 29 = .ok (.iload_n 1, 1) := by decide +kernel
theorem dX2_pass_30 : decode cX2_pass 30 = .ok (.iaload, 1) := by decide +kernel
theorem dX2_pass_31 : decode cX2_pass 31 = .ok (.iload_n 2, 1) := by decide +kernel
theorem dX2_pass_32 : decode cX2_pass 32 = .ok (.invokevirtual 65, 3) := by decide +kernel
theorem dX2_pass_35 : decode cX2_pass 35 = .ok (.goto 71, 3) := by decide +kernel
theorem dX2_pass_38 : decode cX2_pass 38 = .ok (.iload_n 3, 1) := by decide +kernel
theorem dX2_pass_39 : decode cX2_pass 39 = .ok (.bipush 101, 2) := by decide +kernel
theorem dX2_pass_41 : decode cX2_pass 41 = .ok (.if_icmp .eq 65, 3) := by decide +kernel
theorem dX2_pass_44 : decode cX2_pass 44 = .ok (.aload_n 0, 1) := by decide +kernel
theorem dX2_pass_45 : decode cX2_pass 45 = .ok (.iload_n 1, 1) := by decide +kernel
theorem dX2_pass_46 : decode cX2_pass 46 = .ok (.iload_n 2, 1) := by decide +kernel
theorem dX2_pass_47 : decode cX2_pass 47 = .ok (.invokevirtual 69, 3) := by decide +kernel
theorem dX2_pass_50 : decode cX2_pass 50 = .ok (.ifCond .eq 56, 3) := by decide +kernel
theorem dX2_pass_53 : decode cX2_pass 53 = .ok (.iload_n 3, 1) := by decide +kernel
theorem dX2_pass_54 : decode cX2_pass 54 = .ok (.aload_n 0, 1) := by decide +kernel
theorem dX2_pass_55 : decode cX2_pass 55 = .ok (.getfield 22, 3) := by decide +kernel
theorem dX2_pass_58 : decode cX2_pass 58 = .ok (.iload_n 1, 1) := by decide +kernel
theorem dX2_pass_59 : decode cX2_pass 59 = .ok (.iaload, 1) := by decide +kernel
theorem dX2_pass_60 : decode cX2_pass 60 = .ok (.if_icmp .ne 21, 3) := by decide +kernel
theorem dX2_pass_63 : decode cX2_pass 63 = .ok (.aload_n 0, 1) := by decide +kernel
theorem dX2_pass_64 : decode cX2_pass 64 = .ok (.getfield 34, 3) := by decide +kernel
theorem dX2_pass_67 : decode cX2_pass 67 = .ok (.iload_n 1, 1) := by decide +kernel
theorem dX2_pass_68 : decode cX2_pass 68 = .ok (.bipush 101, 2) := by decide +kernel
theorem dX2_pass_70 : decode cX2_pass 70 = .ok (.iastore, 1) := by decide +kernel
theorem dX2_pass_71 : decode cX2_pass 71 = .ok (.aload_n 0, 1) := by decide +kernel
theorem dX2_pass_72 : decode cX2_pass 72 = .ok (.getfield 40, 3) := by decide +kernel
theorem dX2_pass_75 : decode cX2_pass 75 = .ok (.iload_n 1, 1) := by decide +kernel
theorem dX2_pass_76 : decode cX2_pass 76 = .ok (.iload_n 2, 1) := by decide +kernel
theorem dX2_pass_77 : decode cX2_pass 77 = .ok (.iastore, 1) := by decide +kernel
theorem dX2_pass_78 : decode cX2_pass 78 = .ok (.goto 28, 3) := by decide +kernel
theorem dX2_pass_81 : decode cX2_pass 81 = .ok (.aload_n 0, 1) := by decide +kernel
theorem dX2_pass_82 : decode cX2_pass 82 = .ok (.iload_n 1, 1) := by decide +kernel
theorem dX2_pass_83 : decode cX2_pass 83 = .ok (.iload_n 3, 1) := by decide +kernel
theorem dX2_pass_84 : decode cX2_pass 84 = .ok (.aload_n 0, 1) := by decide +kernel
theorem dX2_pass_85 : decode cX2_pass 85 = .ok (.getfield 22, 3) := by decide +kernel
theorem dX2_pass_88 : decode cX2_pass 88 = .ok (.iload_n 1, 1) := by decide +kernel
theorem dX2_pass_89 : decode cX2_pass 89 = .ok (.iaload, 1) := by decide +kernel
theorem dX2_pass_90 : decode cX2_pass 90 = .ok (.if_icmp .ge 9, 3) := by decide +kernel
theorem dX2_pass_93 : decode cX2_pass 93 = .ok (.iload_n 3, 1) := by decide +kernel
theorem dX2_pass_94 : decode cX2_pass 94 = .ok (.iconst 1, 1) := by decide +kernel
theorem dX2_pass_95 : decode cX2_pass 95 = .ok (.iadd, 1) := by decide +kernel
theorem dX2_pass_96 : decode cX2_pass 96 = .ok (.goto 6, 3) := by decide +kernel
theorem dX2_pass_99 : decode cX2_pass 99 = .ok (.iload_n 3, 1) := by decide +kernel
theorem dX2_pass_100 : decode cX2_pass 100 = .ok (.iconst 1, 1) := by decide +kernel
theorem dX2_pass_101 : decode cX2_pass 101 = .ok (.isub, 1) := by decide +kernel
theorem dX2_pass_102 : decode cX2_pass 102 = .ok (.iload_n 2, 1) := by decide +kernel
theorem dX2_pass_103 : decode cX2_pass 103 = .ok (.invokevirtual 65, 3) := by decide +kernel
theorem dX2_pass_106 : decode cX2_pass 106 = .ok (.return_, 1) := by decide +kernel
theorem dX2_passTo_0 : decode cX2_passTo 0 = .ok (.aload_n 0, 1) := by decide +kernel
theorem dX2_passTo_1 : decode cX2_passTo 1 = .ok (.getfield 34, 3) := by decide +kernel
theorem dX2_passTo_4 : decode cX2_passTo 4 = .ok (.bipush 100, 2) := by decide +kernel
theorem dX2_passTo_6 : decode cX2_passTo 6 = .ok (.invokestatic 43, 3) := by decide +kernel
theorem dX2_passTo_9 : decode cX2_passTo 9 = .ok (.aload_n 0, 1) := by decide +kernel
theorem dX2_passTo_10 : decode cX2_passTo 10 = .ok (.getfield 40, 3) := by decide +kernel
theorem dX2_passTo_13 : decode cX2_passTo 13 = .ok (.iconst (-1), 1) := by decide +kernel
theorem dX2_passTo_14 : decode cX2_passTo 14 = .ok (.invokestatic 43, 3) := by decide +kernel
theorem dX2_passTo_17 : decode cX2_passTo 17 = .ok (.iconst 0, 1) := by decide +kernel
theorem dX2_passTo_18 : decode cX2_passTo 18 = .ok (.istore_n 2, 1) := by decide +kernel
theorem dX2_passTo_19 : decode cX2_passTo 19 = .ok (.iload_n 2, 1) := by decide +kernel
theorem dX2_passTo_20 : decode cX2_passTo 20 = .ok (.iload_n 1, 1) := by decide +kernel
theorem dX2_passTo_21 : decode cX2_passTo 21 = .ok (.if_icmp .gt 51, 3) := by decide +kernel
theorem dX2_passTo_24 : decode cX2_passTo 24 = .ok (.iconst 0, 1) := by decide +kernel
theorem dX2_passTo_25 : decode cX2_passTo 25 = .ok (.istore_n 3, 1) := by decide +kernel
theorem dX2_passTo_26 : decode cX2_passTo 26 = .ok (.iload_n 3, 1) := by decide +kernel
theorem dX2_passTo_27 : decode cX2_passTo 27 = .ok (.aload_n 0, 1) := by decide +kernel
theorem dX2_passTo_28 : decode cX2_passTo 28 = .ok (.getfield 53, 3) := by decide +kernel
theorem dX2_passTo_31 : decode cX2_passTo 31 = .ok (.if_icmp .ge 35, 3) := by decide +kernel
theorem dX2_passTo_34 : decode cX2_passTo 34 = .ok (.iload_n 2, 1) := by decide +kernel
theorem dX2_passTo_35 : decode cX2_passTo 35 = .ok (.aload_n 0, 1) := by decide +kernel
theorem dX2_passTo_36 : decode cX2_passTo 36 = .ok (.getfield 28, 3) := by decide +kernel
theorem dX2_passTo_39 : decode cX2_passTo 39 = .ok (.iload_n 3, 1) := by decide +kernel
theorem dX2_passTo_40 : decode cX2_passTo 40 = .ok (.iaload, 1) := by decide +kernel
theorem dX2_passTo_41 : decode cX2_passTo 41 = .ok (.if_icmp .lt 13, 3) := by decide +kernel
theorem dX2_passTo_44 : decode cX2_passTo 44 = .ok (.iload_n 2, 1) := by decide +kernel
theorem dX2_passTo_45 : decode cX2_passTo 45 = .ok (.aload_n 0, 1) := by decide +kernel
theorem dX2_passTo_46 : decode cX2_passTo 46 = .ok (.getfield 31, 3) := by decide +kernel
theorem dX2_passTo_49 : decode cX2_passTo 49 = .ok (.iload_n 3, 1) := by decide +kernel
theorem dX2_passTo_50 : decode cX2_passTo 50 = .ok (.iaload, 1) := by decide +kernel
theorem dX2_passTo_51 : decode cX2_passTo 51 = .ok (.if_icmp .lt 9, 3) := by decide +kernel
theorem dX2_passTo_54 : decode cX2_passTo 54 = .ok (.aload_n 0, 1) := by decide +kernel
theorem dX2_passTo_55 : decode cX2_passTo 55 = .ok (.iload_n 3, 1) := by decide +kernel
theorem dX2_passTo_56 : decode cX2_passTo 56 = .ok (.iload_n 2, 1) := by decide +kernel
theorem dX2_passTo_57 : decode cX2_passTo 57 = .ok (.invokevirtual 61, 3) := by decide +kernel
theorem dX2_passTo_60 : decode cX2_passTo 60 = .ok (.iinc 3 1, 3) := by decide +kernel
theorem dX2_passTo_63 : decode cX2_passTo 63 = .ok (.goto (-37), 3) := by decide +kernel
theorem dX2_passTo_66 : decode cX2_passTo 66 = .ok (.iinc 2 1, 3) := by decide +kernel
theorem dX2_passTo_69 : decode cX2_passTo 69 = .ok (.goto (-50), 3) := by decide +kernel
theorem dX2_passTo_72 : decode cX2_passTo 72 = .ok (.return_, 1) := by decide +kernel
theorem dX2_goneOf_0 : decode cX2_goneOf 0 = .ok (.iload_n 1, 1) := by decide +kernel
theorem dX2_goneOf_1 : decode cX2_goneOf 1 = .ok (.iconst 0, 1) := by decide +kernel
theorem dX2_goneOf_2 : decode cX2_goneOf 2 = .ok (.aload_n 0, 1) := by decide +kernel
theorem dX2_goneOf_3 : decode cX2_goneOf 3 = .ok (.getfield 53, 3) := by decide +kernel
theorem dX2_goneOf_6 : decode cX2_goneOf 6 = .ok (.iconst 1, 1) := by decide +kernel
theorem dX2_goneOf_7 : decode cX2_goneOf 7 = .ok (.isub, 1) := by decide +kernel
theorem dX2_goneOf_8 : decode cX2_goneOf 8 = .ok (.invokestatic 49, 3) := by decide +kernel
theorem dX2_goneOf_11 : decode cX2_goneOf 11 = .ok (.ifCond .ne 6, 3) := by decide +kernel
theorem dX2_goneOf_14 : decode cX2_goneOf 14 = .ok (.bipush (-2), 2) := by decide +kernel
theorem dX2_goneOf_16 : decode cX2_goneOf 16 = .ok (.ireturn, 1) := by decide +kernel
theorem dX2_goneOf_17 : decode cX2_goneOf 17 = .ok (.aload_n 0, 1) := by decide +kernel
theorem dX2_goneOf_18 : decode cX2_goneOf 18 = .ok (.sipush 2000, 3) := by decide +kernel
theorem dX2_goneOf_21 : decode cX2_goneOf 21 = .ok (.invokevirtual 57, 3) := by decide +kernel
theorem dX2_goneOf_24 : decode cX2_goneOf 24 = .ok (.aload_n 0, 1) := by decide +kernel
theorem dX2_goneOf_25 : decode cX2_goneOf 25 = .ok (.getfield 40, 3) := by decide +kernel
theorem dX2_goneOf_28 : decode cX2_goneOf 28 = .ok (.iload_n 1, 1) := by decide +kernel
theorem dX2_goneOf_29 : decode cX2_goneOf 29 = .ok (.iaload, 1) := by decide +kernel
theorem dX2_goneOf_30 : decode cX2_goneOf 30 = .ok (.ireturn, 1) := by decide +kernel
theorem dX2_placeOf_0 : decode cX2_placeOf 0 = .ok (.iload_n 1, 1) := by decide +kernel
theorem dX2_placeOf_1 : decode cX2_placeOf 1 = .ok (.iconst 0, 1) := by decide +kernel
theorem dX2_placeOf_2 : decode cX2_placeOf 2 = .ok (.aload_n 0, 1) := by decide +kernel
theorem dX2_placeOf_3 : decode cX2_placeOf 3 = .ok (.getfield 53, 3) := by decide +kernel
theorem dX2_placeOf_6 : decode cX2_placeOf 6 = .ok (.iconst 1, 1) := by decide +kernel
theorem dX2_placeOf_7 : decode cX2_placeOf 7 = .ok (.isub, 1) := by decide +kernel
theorem dX2_placeOf_8 : decode cX2_placeOf 8 = .ok (.invokestatic 49, 3) := by decide +kernel
theorem dX2_placeOf_11 : decode cX2_placeOf 11 = .ok (.ifCond .eq 14, 3) := by decide +kernel
theorem dX2_placeOf_14 : decode cX2_placeOf 14 = .ok (.iload_n 2, 1) := by decide +kernel
theorem dX2_placeOf_15 : decode cX2_placeOf 15 = .ok (.iconst 0, 1) := by decide +kernel
theorem dX2_placeOf_16 : decode cX2_placeOf 16 = .ok (.sipush 2000, 3) := by decide +kernel
theorem dX2_placeOf_19 : decode cX2_placeOf 19 = .ok (.invokestatic 49, 3) := by decide +kernel
theorem dX2_placeOf_22 : decode cX2_placeOf 22 = .ok (.ifCond .ne 6, 3) := by decide +kernel
theorem dX2_placeOf_25 : decode cX2_placeOf 25 = .ok (.bipush (-2), 2) := by decide +kernel
theorem dX2_placeOf_27 : decode cX2_placeOf 27 = .ok (.ireturn, 1) := by decide +kernel
theorem dX2_placeOf_28 : decode cX2_placeOf 28 = .ok (.aload_n 0, 1) := by decide +kernel
theorem dX2_placeOf_29 : decode cX2_placeOf 29 = .ok (.iload_n 2, 1) := by decide +kernel
theorem dX2_placeOf_30 : decode cX2_placeOf 30 = .ok (.invokevirtual 57, 3) := by decide +kernel
theorem dX2_placeOf_33 : decode cX2_placeOf 33 = .ok (.aload_n 0, 1) := by decide +kernel
theorem dX2_placeOf_34 : decode cX2_placeOf 34 = .ok (.getfield 34, 3) := by decide +kernel
theorem dX2_placeOf_37 : decode cX2_placeOf 37 = .ok (.iload_n 1, 1) := by decide +kernel
theorem dX2_placeOf_38 : decode cX2_placeOf 38 = .ok (.iaload, 1) := by decide +kernel
theorem dX2_placeOf_39 : decode cX2_placeOf 39 = .ok (.ireturn, 1) := by decide +kernel
theorem dX4_append_0 : decode cX4_append 0 = .ok (.iload_n 1, 1) := by decide +kernel
theorem dX4_append_1 : decode cX4_append 1 = .ok (.iconst 0, 1) := by decide +kernel
theorem dX4_append_2 : decode cX4_append 2 = .ok (.sipush 255, 3) := by decide +kernel
theorem dX4_append_5 : decode cX4_append 5 = .ok (.invokestatic 23, 3) := by decide +kernel
theorem dX4_append_8 : decode cX4_append 8 = .ok (.ifCond .ne 6, 3) := by decide +kernel
theorem dX4_append_11 : decode cX4_append 11 = .ok (.bipush (-2), 2) := by decide +kernel
theorem dX4_append_13 : decode cX4_append 13 = .ok (.ireturn, 1) := by decide +kernel
theorem dX4_append_14 : decode cX4_append 14 = .ok (.aload_n 0, 1) := by decide +kernel
theorem dX4_append_15 : decode cX4_append 15 = .ok (.getfield 27, 3) := by decide +kernel
theorem dX4_append_18 : decode cX4_append 18 = .ok (.bipush 80, 2) := by decide +kernel
theorem dX4_append_20 : decode cX4_append 20 = .ok (.if_icmp .lt 6, 3) := by decide +kernel
theorem dX4_append_23 : decode cX4_append 23 = .ok (.bipush (-4), 2) := by decide +kernel
theorem dX4_append_25 : decode cX4_append 25 = .ok (.ireturn, 1) := by decide +kernel
theorem dX4_append_26 : decode cX4_append 26 = .ok (.aload_n 0, 1) := by decide +kernel
theorem dX4_append_27 : decode cX4_append 27 = .ok (.getfield 11, 3) := by decide +kernel
theorem dX4_append_30 : decode cX4_append 30 = .ok (.aload_n 0, 1) := by decide +kernel
theorem dX4_append_31 : decode cX4_append 31 = .ok (.getfield 27, 3) := by decide +kernel
theorem dX4_append_34 : decode cX4_append 34 = .ok (.iload_n 1, 1) := by decide +kernel
theorem dX4_append_35 : decode cX4_append 35 = .ok (.iastore, 1) := by decide +kernel
theorem dX4_append_36 : decode cX4_append 36 = .ok (.aload_n 0, 1) := by decide +kernel
theorem dX4_append_37 : decode cX4_append 37 = .ok (.dup, 1) := by decide +kernel
theorem dX4_append_38 : decode cX4_append 38 = .ok (.getfield 27, 3) := by decide +kernel
theorem dX4_append_41 : decode cX4_append 41 = .ok (.iconst 1, 1) := by decide +kernel
theorem dX4_append_42 : decode cX4_append 42 = .ok (.iadd, 1) := by decide +kernel
theorem dX4_append_43 : decode cX4_append 43 = .ok (.putfield 27, 3) := by decide +kernel
theorem dX4_append_46 : decode cX4_append 46 = .ok (.aload_n 0, 1) := by decide +kernel
theorem dX4_append_47 : decode cX4_append 47 = .ok (.getfield 27, 3) := by decide +kernel
theorem dX4_append_50 : decode cX4_append 50 = .ok (.ireturn, 1) := by decide +kernel
theorem dX4_clear_0 : decode cX4_clear 0 = .ok (.aload_n 0, 1) := by decide +kernel
theorem dX4_clear_1 : decode cX4_clear 1 = .ok (.getfield 27, 3) := by decide +kernel
theorem dX4_clear_4 : decode cX4_clear 4 = .ok (.istore_n 1, 1) := by decide +kernel
theorem dX4_clear_5 : decode cX4_clear 5 = .ok (.aload_n 0, 1) := by decide +kernel
theorem dX4_clear_6 : decode cX4_clear 6 = .ok (.iconst 0, 1) := by decide +kernel
theorem dX4_clear_7 : decode cX4_clear 7 = .ok (.putfield 27, 3) := by decide +kernel
theorem dX4_clear_10 : decode cX4_clear 10 = .ok (.iload_n 1, 1) := by decide +kernel
theorem dX4_clear_11 : decode cX4_clear 11 = .ok (.ireturn, 1) := by decide +kernel
theorem dX4_byteAt_0 : decode cX4_byteAt 0 = .ok (.iload_n 1, 1) := by decide +kernel
theorem dX4_byteAt_1 : decode cX4_byteAt 1 = .ok (.iconst 0, 1) := by decide +kernel
theorem dX4_byteAt_2 : decode cX4_byteAt 2 = .ok (.aload_n 0, 1) := by decide +kernel
theorem dX4_byteAt_3 : decode cX4_byteAt 3 = .ok (.getfield 27, 3) := by decide +kernel
theorem dX4_byteAt_6 : decode cX4_byteAt 6 = .ok (.iconst 1, 1) := by decide +kernel
theorem dX4_byteAt_7 : decode cX4_byteAt 7 = .ok (.isub, 1) := by decide +kernel
theorem dX4_byteAt_8 : decode cX4_byteAt 8 = .ok (.invokestatic 23, 3) := by decide +kernel
theorem dX4_byteAt_11 : decode cX4_byteAt 11 = .ok (.ifCond .eq 12, 3) := by decide +kernel
theorem dX4_byteAt_14 : decode cX4_byteAt 14 = .ok (.aload_n 0, 1) := by decide +kernel
theorem dX4_byteAt_15 : decode cX4_byteAt 15 = .ok (.getfield 11, 3) := by decide +kernel
theorem dX4_byteAt_18 : decode cX4_byteAt 18 = .ok (.iload_n 1, 1) := by decide +kernel
theorem dX4_byteAt_19 : decode cX4_byteAt 19 = .ok (.iaload, 1) := by decide +kernel
theorem dX4_byteAt_20 : decode cX4_byteAt 20 = .ok (.goto 4, 3) := by decide +kernel
theorem dX4_byteAt_23 : decode cX4_byteAt 23 = .ok (.iconst (-1), 1) := by decide +kernel
theorem dX4_byteAt_24 : decode cX4_byteAt 24 = .ok (.ireturn, 1) := by decide +kernel
theorem dX4_isFigure_0 : decode cX4_isFigure 0 = .ok (.aload_n 0, 1) := by decide +kernel
theorem dX4_isFigure_1 : decode cX4_isFigure 1 = .ok (.iload_n 1, 1) := by decide +kernel
theorem dX4_isFigure_2 : decode cX4_isFigure 2 = .ok (.invokevirtual 31, 3) := by decide +kernel
theorem dX4_isFigure_5 : decode cX4_isFigure 5 = .ok (.bipush 48, 2) := by decide +kernel
theorem dX4_isFigure_7 : decode cX4_isFigure 7 = .ok (.bipush 57, 2) := by decide +kernel
theorem dX4_isFigure_9 : decode cX4_isFigure 9 = .ok (.invokestatic 23, 3) := by decide +kernel
theorem dX4_isFigure_12 : decode cX4_isFigure 12 = .ok (.ireturn, 1) := by decide +kernel
theorem dX4_figuresAt_0 : decode cX4_figuresAt 0 = .ok (.aload_n 0, 1) := by decide +kernel
theorem dX4_figuresAt_1 : decode cX4_figuresAt 1 = .ok (.iload_n 1, 1) := by decide +kernel
theorem dX4_figuresAt_2 : decode cX4_figuresAt 2 = .ok (.invokevirtual 35, 3) := by decide +kernel
theorem dX4_figuresAt_5 : decode cX4_figuresAt 5 = .ok (.ifCond .ne 5, 3) := by decide +kernel
theorem dX4_figuresAt_8 : decode cX4_figuresAt 8 = .ok (.iconst 0, 1) := by decide +kernel
theorem dX4_figuresAt_9 : decode cX4_figuresAt 9 = .ok (.ireturn, 1) := by decide +kernel
theorem dX4_figuresAt_10 : decode cX4_figuresAt 10 = .ok (.aload_n 0, 1) := by decide +kernel
theorem dX4_figuresAt_11 : decode cX4_figuresAt 11 = .ok (.iload_n 1, 1) := by decide +kernel
theorem dX4_figuresAt_12 : decode cX4_figuresAt 12 = .ok (.iconst 1, 1) := by decide +kernel
theorem dX4_figuresAt_13 : decode cX4_figuresAt 13 = .ok (.iadd, 1) := by decide +kernel
theorem dX4_figuresAt_14 : decode cX4_figuresAt 14 = .ok (.invokevirtual 35, 3) := by decide +kernel
theorem dX4_figuresAt_17 : decode cX4_figuresAt 17 = .ok (.ifCond .eq 7, 3) := by decide +kernel
theorem dX4_figuresAt_20 : decode cX4_figuresAt 20 = .ok (.iconst 2, 1) := by decide +kernel
theorem dX4_figuresAt_21 : decode cX4_figuresAt 21 = .ok (.goto 4, 3) := by decide +kernel
theorem dX4_figuresAt_24 : decode cX4_figuresAt 24 = .ok (.iconst 1, 1) := by decide +kernel
theorem dX4_figuresAt_25 : decode cX4_figuresAt 25 = .ok (.ireturn, 1) := by decide +kernel
theorem dX4_numberAt_0 : decode cX4_numberAt 0 = .ok (.aload_n 0, 1) := by decide +kernel
theorem dX4_numberAt_1 : decode cX4_numberAt 1 = .ok (.iload_n 1, 1) := by decide +kernel
theorem dX4_numberAt_2 : decode cX4_numberAt 2 = .ok (.invokevirtual 31, 3) := by decide +kernel
theorem dX4_numberAt_5 : decode cX4_numberAt 5 = .ok (.bipush 48, 2) := by decide +kernel
theorem dX4_numberAt_7 : decode cX4_numberAt 7 = .ok (.isub, 1) := by decide +kernel
theorem dX4_numberAt_8 : decode cX4_numberAt 8 = .ok (.istore_n 2, 1) := by decide +kernel
theorem dX4_numberAt_9 : decode cX4_numberAt 9 = .ok (.aload_n 0, 1) := by decide +kernel
theorem dX4_numberAt_10 : decode cX4_numberAt 10 = .ok (.iload_n 1, 1) := by decide +kernel
theorem dX4_numberAt_11 : decode cX4_numberAt 11 = .ok (.invokevirtual 39, 3) := by decide +kernel
theorem dX4_numberAt_14 : decode cX4_numberAt 14 = .ok (.iconst 2, 1) := by decide +kernel
theorem dX4_numberAt_15 : decode cX4_numberAt 15 = .ok (.if_icmp .ne 21, 3) := by decide +kernel
theorem dX4_numberAt_18 : decode cX4_numberAt 18 = .ok (.bipush 10, 2) := by decide +kernel
theorem dX4_numberAt_20 : decode cX4_numberAt 20 = .ok (.iload_n 2, 1) := by decide +kernel
theorem dX4_numberAt_21 : decode cX4_numberAt 21 = .ok (.imul, 1) := by decide +kernel
theorem dX4_numberAt_22 : decode cX4_numberAt 22 = .ok (.aload_n 0, 1) := by decide +kernel
theorem dX4_numberAt_23 : decode cX4_numberAt 23 = .ok (.iload_n 1, 1) := by decide +kernel
theorem dX4_numberAt_24 : decode cX4_numberAt 24 = .ok (.iconst 1, 1) := by decide +kernel
theorem dX4_numberAt_25 : decode cX4_numberAt 25 = .ok (.iadd, 1) := by decide +kernel
theorem dX4_numberAt_26 : decode cX4_numberAt 26 = .ok (.invokevirtual 31, 3) := by decide +kernel
theorem dX4_numberAt_29 : decode cX4_numberAt 29 = .ok (.iadd, 1) := by decide +kernel
theorem dX4_numberAt_30 : decode cX4_numberAt 30 = .ok (.bipush 48, 2) := by decide +kernel
theorem dX4_numberAt_32 : decode cX4_numberAt 32 = .ok (.isub, 1) := by decide +kernel
theorem dX4_numberAt_33 : decode cX4_numberAt 33 = .ok (.goto 4, 3) := by decide +kernel
theorem dX4_numberAt_36 : decode cX4_numberAt 36 = .ok (.iload_n 2, 1) := by decide +kernel
theorem dX4_numberAt_37 : decode cX4_numberAt 37 = .ok (.ireturn, 1) := by decide +kernel
theorem dX4_mostBehind_0 : decode cX4_mostBehind 0 = .ok (.iload_n 0, 1) := by decide +kernel
theorem dX4_mostBehind_1 : decode cX4_mostBehind 1 = .ok (.lookupswitch 70 #[(98, 59), (100, 59), (102, 67), (108, 62), (114, 62), (119, 64)], 59) := by decide +kernel
theorem dX4_mostBehind_60 : decode cX4_mostBehind 60 = .ok (.bipush 40, 2) := by decide +kernel
theorem dX4_mostBehind_62 : decode cX4_mostBehind 62 = .ok (.ireturn, 1) := by decide +kernel
theorem dX4_mostBehind_63 : decode cX4_mostBehind 63 = .ok (.iconst 3, 1) := by decide +kernel
theorem dX4_mostBehind_64 : decode cX4_mostBehind 64 = .ok (.ireturn, 1) := by decide +kernel
theorem dX4_mostBehind_65 : decode cX4_mostBehind 65 = .ok (.bipush 9, 2) := by decide +kernel
theorem dX4_mostBehind_67 : decode cX4_mostBehind 67 = .ok (.ireturn, 1) := by decide +kernel
theorem dX4_mostBehind_68 : decode cX4_mostBehind 68 = .ok (.bipush 20, 2) := by decide +kernel
theorem dX4_mostBehind_70 : decode cX4_mostBehind 70 = .ok (.ireturn, 1) := by decide +kernel
theorem dX4_mostBehind_71 : decode cX4_mostBehind 71 = .ok (.iconst (-1), 1) := by decide +kernel
theorem dX4_mostBehind_72 : decode cX4_mostBehind 72 = .ok (.ireturn, 1) := by decide +kernel
theorem dX4_leastBehind_0 : decode cX4_leastBehind 0 = .ok (.iload_n 0, 1) := by decide +kernel
theorem dX4_leastBehind_1 : decode cX4_leastBehind 1 = .ok (.bipush 108, 2) := by decide +kernel
theorem dX4_leastBehind_3 : decode cX4_leastBehind 3 = .ok (.if_icmp .eq 15, 3) := by decide +kernel
theorem dX4_leastBehind_6 : decode cX4_leastBehind 6 = .ok (.iload_n 0, 1) := by decide +kernel
theorem dX4_leastBehind_7 : decode cX4_leastBehind 7 = .ok (.bipush 114, 2) := by decide +kernel
theorem dX4_leastBehind_9 : decode cX4_leastBehind 9 = .ok (.if_icmp .eq 9, 3) := by decide +kernel
theorem dX4_leastBehind_12 : decode cX4_leastBehind 12 = .ok (.iload_n 0, 1) := by decide +kernel
theorem dX4_leastBehind_13 : decode cX4_leastBehind 13 = .ok (.bipush 119, 2) := by decide +kernel
theorem dX4_leastBehind_15 : decode cX4_leastBehind 15 = .ok (.if_icmp .ne 7, 3) := by decide +kernel
theorem dX4_leastBehind_18 : decode cX4_leastBehind 18 = .ok (.iconst 0, 1) := by decide +kernel
theorem dX4_leastBehind_19 : decode cX4_leastBehind 19 = .ok (.goto 4, 3) := by decide +kernel
theorem dX4_leastBehind_22 : decode cX4_leastBehind 22 = .ok (.iconst 1, 1) := by decide +kernel
theorem dX4_leastBehind_23 : decode cX4_leastBehind 23 = .ok (.ireturn, 1) := by decide +kernel
theorem dX4_faultPlace_0 : decode cX4_faultPlace 0 = .ok (.iconst 0, 1) := by decide +kernel
theorem dX4_faultPlace_1 : decode cX4_faultPlace 1 = .ok (.istore_n 1, 1) := by decide +kernel
theorem dX4_faultPlace_2 : decode cX4_faultPlace 2 = .ok (.iload_n 1, 1) := by decide +kernel
theorem dX4_faultPlace_3 : decode cX4_faultPlace 3 = .ok (.aload_n 0, 1) := by decide +kernel
theorem dX4_faultPlace_4 : decode cX4_faultPlace 4 = .ok (.getfield 27, 3) := by decide +kernel
theorem dX4_faultPlace_7 : decode cX4_faultPlace 7 = .ok (.if_icmp .ge 90, 3) := by decide +kernel
theorem dX4_faultPlace_10 : decode cX4_faultPlace 10 = .ok (.aload_n 0, 1) := by decide +kernel
theorem dX4_faultPlace_11 : decode cX4_faultPlace 11 = .ok (.iload_n 1, 1) := by decide +kernel
theorem dX4_faultPlace_12 : decode cX4_faultPlace 12 = .ok (.invokevirtual 31, 3) := by decide +kernel
theorem dX4_faultPlace_15 : decode cX4_faultPlace 15 = .ok (.istore_n 2, 1) := by decide +kernel
theorem dX4_faultPlace_16 : decode cX4_faultPlace 16 = .ok (.iload_n 2, 1) := by decide +kernel
theorem dX4_faultPlace_17 : decode cX4_faultPlace 17 = .ok (.invokestatic 42, 3) := by decide +kernel
theorem dX4_faultPlace_20 : decode cX4_faultPlace 20 = .ok (.iconst (-1), 1) := by decide +kernel
theorem dX4_faultPlace_21 : decode cX4_faultPlace 21 = .ok (.if_icmp .ne 5, 3) := by decide +kernel
theorem dX4_faultPlace_24 : decode cX4_faultPlace 24 = .ok (.iload_n 1, 1) := by decide +kernel
theorem dX4_faultPlace_25 : decode cX4_faultPlace 25 = .ok (.ireturn, 1) := by decide +kernel
theorem dX4_faultPlace_26 : decode cX4_faultPlace 26 = .ok (.aload_n 0, 1) := by decide +kernel
theorem dX4_faultPlace_27 : decode cX4_faultPlace 27 = .ok (.iload_n 1, 1) := by decide +kernel
theorem dX4_faultPlace_28 : decode cX4_faultPlace 28 = .ok (.iconst 1, 1) := by decide +kernel
theorem dX4_faultPlace_29 : decode cX4_faultPlace 29 = .ok (.iadd, 1) := by decide +kernel
theorem dX4_faultPlace_30 : decode cX4_faultPlace 30 = .ok (.invokevirtual 39, 3) := by decide +kernel
theorem dX4_faultPlace_33 : decode cX4_faultPlace 33 = .ok (.istore_n 3, 1) := by decide +kernel
theorem dX4_faultPlace_34 : decode cX4_faultPlace 34 = .ok (.iload_n 3, 1) := by decide +kernel
theorem dX4_faultPlace_35 : decode cX4_faultPlace 35 = .ok (.ifCond .eq 24, 3) := by decide +kernel
theorem dX4_faultPlace_38 : decode cX4_faultPlace 38 = .ok (.aload_n 0, 1) := by decide +kernel
theorem dX4_faultPlace_39 : decode cX4_faultPlace 39 = .ok (.iload_n 1, 1) := by decide +kernel
theorem dX4_faultPlace_40 : decode cX4_faultPlace 40 = .ok (.iconst 1, 1) := by decide +kernel
theorem dX4_faultPlace_41 : decode cX4_faultPlace 41 = .ok (.iadd, 1) := by decide +kernel
theorem dX4_faultPlace_42 : decode cX4_faultPlace 42 = .ok (.invokevirtual 45, 3) := by decide +kernel
theorem dX4_faultPlace_45 : decode cX4_faultPlace 45 = .ok (.iload_n 2, 1) := by decide +kernel
theorem dX4_faultPlace_46 : decode cX4_faultPlace 46 = .ok (.invokestatic 48, 3) := by decide +kernel
theorem dX4_faultPlace_49 : decode cX4_faultPlace 49 = .ok (.iload_n 2, 1) := by decide +kernel
theorem dX4_faultPlace_50 : decode cX4_faultPlace 50 = .ok (.invokestatic 42, 3) := by decide +kernel
theorem dX4_faultPlace_53 : decode cX4_faultPlace 53 = .ok (.invokestatic 23, 3) := by decide +kernel
theorem dX4_faultPlace_56 : decode cX4_faultPlace 56 = .ok (.ifCond .ne 7, 3) := by decide +kernel
theorem dX4_faultPlace_59 : decode cX4_faultPlace 59 = .ok (.iload_n 1, 1) := by decide +kernel
theorem dX4_faultPlace_60 : decode cX4_faultPlace 60 = .ok (.iconst 1, 1) := by decide +kernel
theorem dX4_faultPlace_61 : decode cX4_faultPlace 61 = .ok (.iadd, 1) := by decide +kernel
theorem dX4_faultPlace_62 : decode cX4_faultPlace 62 = .ok (.ireturn, 1) := by decide +kernel
theorem dX4_faultPlace_63 : decode cX4_faultPlace 63 = .ok (.iload_n 1, 1) := by decide +kernel
theorem dX4_faultPlace_64 : decode cX4_faultPlace 64 = .ok (.iconst 1, 1) := by decide +kernel
theorem dX4_faultPlace_65 : decode cX4_faultPlace 65 = .ok (.iload_n 3, 1) := by decide +kernel
theorem dX4_faultPlace_66 : decode cX4_faultPlace 66 = .ok (.iadd, 1) := by decide +kernel
theorem dX4_faultPlace_67 : decode cX4_faultPlace 67 = .ok (.iadd, 1) := by decide +kernel
theorem dX4_faultPlace_68 : decode cX4_faultPlace 68 = .ok (.istore_n 1, 1) := by decide +kernel
theorem dX4_faultPlace_69 : decode cX4_faultPlace 69 = .ok (.iload_n 1, 1) := by decide +kernel
theorem dX4_faultPlace_70 : decode cX4_faultPlace 70 = .ok (.aload_n 0, 1) := by decide +kernel
theorem dX4_faultPlace_71 : decode cX4_faultPlace 71 = .ok (.getfield 27, 3) := by decide +kernel
theorem dX4_faultPlace_74 : decode cX4_faultPlace 74 = .ok (.if_icmp .ne 5, 3) := by decide +kernel
theorem dX4_faultPlace_77 : decode cX4_faultPlace 77 = .ok (.iconst (-1), 1) := by decide +kernel
theorem dX4_faultPlace_78 : decode cX4_faultPlace 78 = .ok (.ireturn, 1) := by decide +kernel
theorem dX4_faultPlace_79 : decode cX4_faultPlace 79 = .ok (.aload_n 0, 1) := by decide +kernel
theorem dX4_faultPlace_80 : decode cX4_faultPlace 80 = .ok (.iload_n 1, 1) := by decide +kernel
theorem dX4_faultPlace_81 : decode cX4_faultPlace 81 = .ok (.invokevirtual 31, 3) := by decide +kernel
theorem dX4_faultPlace_84 : decode cX4_faultPlace 84 = .ok (.bipush 59, 2) := by decide +kernel
theorem dX4_faultPlace_86 : decode cX4_faultPlace 86 = .ok (.if_icmp .eq 5, 3) := by decide +kernel
theorem dX4_faultPlace_89 : decode cX4_faultPlace 89 = .ok (.iload_n 1, 1) := by decide +kernel
theorem dX4_faultPlace_90 : decode cX4_faultPlace 90 = .ok (.ireturn, 1) := by decide +kernel
theorem dX4_faultPlace_91 : decode cX4_faultPlace 91 = .ok (.iinc 1 1, 3) := by decide +kernel
theorem dX4_faultPlace_94 : decode cX4_faultPlace 94 = .ok (.goto (-92), 3) := by decide +kernel
theorem dX4_faultPlace_97 : decode cX4_faultPlace 97 = .ok (.aload_n 0, 1) := by decide +kernel
theorem dX4_faultPlace_98 : decode cX4_faultPlace 98 = .ok (.getfield 27, 3) := by decide +kernel
theorem dX4_faultPlace_101 : decode cX4_faultPlace 101 = .ok (.ireturn, 1) := by decide +kernel
theorem dX4_movesAsked_0 : decode cX4_movesAsked 0 = .ok (.iload_n 0, 1) := by decide +kernel
theorem dX4_movesAsked_1 : decode cX4_movesAsked 1 = .ok (.lookupswitch 47 #[(98, 43), (100, 43), (108, 45), (114, 45)], 43) := by decide +kernel
theorem dX4_movesAsked_44 : decode cX4_movesAsked 44 = .ok (.iload_n 1, 1) := by decide +kernel
theorem dX4_movesAsked_45 : decode cX4_movesAsked 45 = .ok (.ireturn, 1) := by decide +kernel
theorem dX4_movesAsked_46 : decode cX4_movesAsked 46 = .ok (.iconst 1, 1) := by decide +kernel
theorem dX4_movesAsked_47 : decode cX4_movesAsked 47 = .ok (.ireturn, 1) := by decide +kernel
theorem dX4_movesAsked_48 : decode cX4_movesAsked 48 = .ok (.iconst 0, 1) := by decide +kernel
theorem dX4_movesAsked_49 : decode cX4_movesAsked 49 = .ok (.ireturn, 1) := by decide +kernel
theorem dX4_moveOf_0 : decode cX4_moveOf 0 = .ok (.iload_n 0, 1) := by decide +kernel
theorem dX4_moveOf_1 : decode cX4_moveOf 1 = .ok (.lookupswitch 43 #[(98, 37), (100, 35), (108, 39)], 35) := by decide +kernel
theorem dX4_moveOf_36 : decode cX4_moveOf 36 = .ok (.iconst 0, 1) := by decide +kernel
theorem dX4_moveOf_37 : decode cX4_moveOf 37 = .ok (.ireturn, 1) := by decide +kernel
theorem dX4_moveOf_38 : decode cX4_moveOf 38 = .ok (.iconst 1, 1) := by decide +kernel
theorem dX4_moveOf_39 : decode cX4_moveOf 39 = .ok (.ireturn, 1) := by decide +kernel
theorem dX4_moveOf_40 : decode cX4_moveOf 40 = .ok (.iconst 2, 1) := by decide +kernel
theorem dX4_moveOf_41 : decode cX4_moveOf 41 = .ok (.iload_n 1, 1) := by decide +kernel
theorem dX4_moveOf_42 : decode cX4_moveOf 42 = .ok (.iadd, 1) := by decide +kernel
theorem dX4_moveOf_43 : decode cX4_moveOf 43 = .ok (.ireturn, 1) := by decide +kernel
theorem dX4_moveOf_44 : decode cX4_moveOf 44 = .ok (.bipush 6, 2) := by decide +kernel
theorem dX4_moveOf_46 : decode cX4_moveOf 46 = .ok (.iload_n 1, 1) := by decide +kernel
theorem dX4_moveOf_47 : decode cX4_moveOf 47 = .ok (.iadd, 1) := by decide +kernel
theorem dX4_moveOf_48 : decode cX4_moveOf 48 = .ok (.ireturn, 1) := by decide +kernel
theorem dX4_otherDone_0 : decode cX4_otherDone 0 = .ok (.iload_n 1, 1) := by decide +kernel
theorem dX4_otherDone_1 : decode cX4_otherDone 1 = .ok (.bipush 119, 2) := by decide +kernel
theorem dX4_otherDone_3 : decode cX4_otherDone 3 = .ok (.if_icmp .ne 23, 3) := by decide +kernel
theorem dX4_otherDone_6 : decode cX4_otherDone 6 = .ok (.aload_n 0, 1) := by decide +kernel
theorem dX4_otherDone_7 : decode cX4_otherDone 7 = .ok (.getfield 15, 3) := by decide +kernel
theorem dX4_otherDone_10 : decode cX4_otherDone 10 = .ok (.iload_n 2, 1) := by decide +kernel
theorem dX4_otherDone_11 : decode cX4_otherDone 11 = .ok (.iconst 1, 1) := by decide +kernel
theorem dX4_otherDone_12 : decode cX4_otherDone 12 = .ok (.invokevirtual 68, 3) := by decide +kernel
theorem dX4_otherDone_15 : decode cX4_otherDone 15 = .ok (.bipush (-2), 2) := by decide +kernel
theorem dX4_otherDone_17 : decode cX4_otherDone 17 = .ok (.if_icmp .eq 7, 3) := by decide +kernel
theorem dX4_otherDone_20 : decode cX4_otherDone 20 = .ok (.iconst 1, 1) := by decide +kernel
theorem dX4_otherDone_21 : decode cX4_otherDone 21 = .ok (.goto 4, 3) := by decide +kernel
theorem dX4_otherDone_24 : decode cX4_otherDone 24 = .ok (.iconst 0, 1) := by decide +kernel
theorem dX4_otherDone_25 : decode cX4_otherDone 25 = .ok (.ireturn, 1) := by decide +kernel
theorem dX4_otherDone_26 : decode cX4_otherDone 26 = .ok (.iload_n 1, 1) := by decide +kernel
theorem dX4_otherDone_27 : decode cX4_otherDone 27 = .ok (.bipush 102, 2) := by decide +kernel
theorem dX4_otherDone_29 : decode cX4_otherDone 29 = .ok (.if_icmp .ne 11, 3) := by decide +kernel
theorem dX4_otherDone_32 : decode cX4_otherDone 32 = .ok (.aload_n 0, 1) := by decide +kernel
theorem dX4_otherDone_33 : decode cX4_otherDone 33 = .ok (.getfield 19, 3) := by decide +kernel
theorem dX4_otherDone_36 : decode cX4_otherDone 36 = .ok (.iload_n 2, 1) := by decide +kernel
theorem dX4_otherDone_37 : decode cX4_otherDone 37 = .ok (.putfield 74, 3) := by decide +kernel
theorem dX4_otherDone_40 : decode cX4_otherDone 40 = .ok (.iconst 1, 1) := by decide +kernel
theorem dX4_otherDone_41 : decode cX4_otherDone 41 = .ok (.ireturn, 1) := by decide +kernel
theorem dX4_carryOut_0 : decode cX4_carryOut 0 = .ok (.iconst 0, 1) := by decide +kernel
theorem dX4_carryOut_1 : decode cX4_carryOut 1 = .ok (.istore_n 2, 1) := by decide +kernel
theorem dX4_carryOut_2 : decode cX4_carryOut 2 = .ok (.iconst 0, 1) := by decide +kernel
theorem dX4_carryOut_3 : decode cX4_carryOut 3 = .ok (.istore_n 3, 1) := by decide +kernel
theorem dX4_carryOut_4 : decode cX4_carryOut 4 = .ok (.iload_n 3, 1) := by decide +kernel
theorem dX4_carryOut_5 : decode cX4_carryOut 5 = .ok (.aload_n 0, 1) := by decide +kernel
theorem dX4_carryOut_6 : decode cX4_carryOut 6 = .ok (.getfield 27, 3) := by decide +kernel
theorem dX4_carryOut_9 : decode cX4_carryOut 9 = .ok (.if_icmp .ge 95, 3) := by decide +kernel
theorem dX4_carryOut_12 : decode cX4_carryOut 12 = .ok (.aload_n 0, 1) := by decide +kernel
theorem dX4_carryOut_13 : decode cX4_carryOut 13 = .ok (.iload_n 3, 1) := by decide +kernel
theorem dX4_carryOut_14 : decode cX4_carryOut 14 = .ok (.invokevirtual 31, 3) := by decide +kernel
theorem dX4_carryOut_17 : decode cX4_carryOut 17 = .ok (.istore 4, 2) := by decide +kernel
theorem dX4_carryOut_19 : decode cX4_carryOut 19 = .ok (.aload_n 0, 1) := by decide +kernel
theorem dX4_carryOut_20 : decode cX4_carryOut 20 = .ok (.iload_n 3, 1) := by decide +kernel
theorem dX4_carryOut_21 : decode cX4_carryOut 21 = .ok (.iconst 1, 1) := by decide +kernel
theorem dX4_carryOut_22 : decode cX4_carryOut 22 = .ok (.iadd, 1) := by decide +kernel
theorem dX4_carryOut_23 : decode cX4_carryOut 23 = .ok (.invokevirtual 45, 3) := by decide +kernel
theorem dX4_carryOut_26 : decode cX4_carryOut 26 = .ok (.istore 5, 2) := by decide +kernel
theorem dX4_carryOut_28 : decode cX4_carryOut 28 = .ok (.iload 4, 2) := by decide +kernel
theorem dX4_carryOut_30 : decode cX4_carryOut 30 = .ok (.iload 5, 2) := by decide +kernel
theorem dX4_carryOut_32 : decode cX4_carryOut 32 = .ok (.invokestatic 51, 3) := by decide +kernel
theorem dX4_carryOut_35 : decode cX4_carryOut 35 = .ok (.istore 6, 2) := by decide +kernel
theorem dX4_carryOut_37 : decode cX4_carryOut 37 = .ok (.iconst 0, 1) := by decide +kernel
theorem dX4_carryOut_38 : decode cX4_carryOut 38 = .ok (.istore 7, 2) := by decide +kernel
theorem dX4_carryOut_40 : decode cX4_carryOut 40 = .ok (.iload 7, 2) := by decide +kernel
theorem dX4_carryOut_42 : decode cX4_carryOut 42 = .ok (.iload 6, 2) := by decide +kernel
theorem dX4_carryOut_44 : decode cX4_carryOut 44 = .ok (.if_icmp .ge 32, 3) := by decide +kernel
theorem dX4_carryOut_47 : decode cX4_carryOut 47 = .ok (.aload_n 0, 1) := by decide +kernel
theorem dX4_carryOut_48 : decode cX4_carryOut 48 = .ok (.getfield 19, 3) := by decide +kernel
theorem dX4_carryOut_51 : decode cX4_carryOut 51 = .ok (.aload_n 1, 1) := by decide +kernel
theorem dX4_carryOut_52 : decode cX4_carryOut 52 = .ok (.iload 4, 2) := by decide +kernel
theorem dX4_carryOut_54 : decode cX4_carryOut 54 = .ok (.iload 5, 2) := by decide +kernel
theorem dX4_carryOut_56 : decode cX4_carryOut 56 = .ok (.invokestatic 55, 3) := by decide +kernel
theorem dX4_carryOut_59 : decode cX4_carryOut 59 = .ok (.invokevirtual 58, 3) := by decide +kernel
theorem dX4_carryOut_62 : decode cX4_carryOut 62 = .ok (.ifCond .ne 5, 3) := by decide +kernel
theorem dX4_carryOut_65 : decode cX4_carryOut 65 = .ok (.iload_n 2, 1) := by decide +kernel
theorem dX4_carryOut_66 : decode cX4_carryOut 66 = .ok (.ireturn, 1) := by decide +kernel
theorem dX4_carryOut_67 : decode cX4_carryOut 67 = .ok (.iinc 2 1, 3) := by decide +kernel
theorem dX4_carryOut_70 : decode cX4_carryOut 70 = .ok (.iinc 7 1, 3) := by decide +kernel
theorem dX4_carryOut_73 : decode cX4_carryOut 73 = .ok (.goto (-33), 3) := by decide +kernel
theorem dX4_carryOut_76 : decode cX4_carryOut 76 = .ok (.aload_n 0, 1) := by decide +kernel
theorem dX4_carryOut_77 : decode cX4_carryOut 77 = .ok (.iload 4, 2) := by decide +kernel
theorem dX4_carryOut_79 : decode cX4_carryOut 79 = .ok (.iload 5, 2) := by decide +kernel
theorem dX4_carryOut_81 : decode cX4_carryOut 81 = .ok (.invokevirtual 64, 3) := by decide +kernel
theorem dX4_carryOut_84 : decode cX4_carryOut 84 = .ok (.ifCond .ne 5, 3) := by decide +kernel
theorem dX4_carryOut_87 : decode cX4_carryOut 87 = .ok (.iload_n 2, 1) := by decide +kernel
theorem dX4_carryOut_88 : decode cX4_carryOut 88 = .ok (.ireturn, 1) := by decide +kernel
theorem dX4_carryOut_89 : decode cX4_carryOut 89 = .ok (.iload_n 3, 1) := by decide +kernel
theorem dX4_carryOut_90 : decode cX4_carryOut 90 = .ok (.iconst 2, 1) := by decide +kernel
theorem dX4_carryOut_91 : decode cX4_carryOut 91 = .ok (.aload_n 0, 1) := by decide +kernel
theorem dX4_carryOut_92 : decode cX4_carryOut 92 = .ok (.iload_n 3, 1) := by decide +kernel
theorem dX4_carryOut_93 : decode cX4_carryOut 93 = .ok (.iconst 1, 1) := by decide +kernel
theorem dX4_carryOut_94 : decode cX4_carryOut 94 = .ok (.iadd, 1) := by decide +kernel
theorem dX4_carryOut_95 : decode cX4_carryOut 95 = .ok (.invokevirtual 39, 3) := by decide +kernel
theorem dX4_carryOut_98 : decode cX4_carryOut 98 = .ok (.iadd, 1) := by decide +kernel
theorem dX4_carryOut_99 : decode cX4_carryOut 99 = .ok (.iadd, 1) := by decide +kernel
theorem dX4_carryOut_100 : decode cX4_carryOut 100 = .ok (.istore_n 3, 1) := by decide +kernel
theorem dX4_carryOut_101 : decode cX4_carryOut 101 = .ok (.goto (-97), 3) := by decide +kernel
theorem dX4_carryOut_104 : decode cX4_carryOut 104 = .ok (.iload_n 2, 1) := by decide +kernel
theorem dX4_carryOut_105 : decode cX4_carryOut 105 = .ok (.ireturn, 1) := by decide +kernel
theorem dX6_isSheet_0 : decode cX6_isSheet 0 = .ok (.iload_n 0, 1) := by decide +kernel
theorem dX6_isSheet_1 : decode cX6_isSheet 1 = .ok (.iconst 0, 1) := by decide +kernel
theorem dX6_isSheet_2 : decode cX6_isSheet 2 = .ok (.iconst 3, 1) := by decide +kernel
theorem dX6_isSheet_3 : decode cX6_isSheet 3 = .ok (.invokestatic 29, 3) := by decide +kernel
theorem dX6_isSheet_6 : decode cX6_isSheet 6 = .ok (.ireturn, 1) := by decide +kernel
theorem dX6_isForm_0 : decode cX6_isForm 0 = .ok (.iload_n 0, 1) := by decide +kernel
theorem dX6_isForm_1 : decode cX6_isForm 1 = .ok (.iconst 0, 1) := by decide +kernel
theorem dX6_isForm_2 : decode cX6_isForm 2 = .ok (.iconst 2, 1) := by decide +kernel
theorem dX6_isForm_3 : decode cX6_isForm 3 = .ok (.invokestatic 29, 3) := by decide +kernel
theorem dX6_isForm_6 : decode cX6_isForm 6 = .ok (.ireturn, 1) := by decide +kernel
theorem dX6_find_0 : decode cX6_find 0 = .ok (.aload_n 0, 1) := by decide +kernel
theorem dX6_find_1 : decode cX6_find 1 = .ok (.iload_n 1, 1) := by decide +kernel
theorem dX6_find_2 : decode cX6_find 2 = .ok (.putfield 33, 3) := by decide +kernel
theorem dX6_find_5 : decode cX6_find 5 = .ok (.bipush (-10), 2) := by decide +kernel
theorem dX6_find_7 : decode cX6_find 7 = .ok (.iload_n 1, 1) := by decide +kernel
theorem dX6_find_8 : decode cX6_find 8 = .ok (.isub, 1) := by decide +kernel
theorem dX6_find_9 : decode cX6_find 9 = .ok (.ireturn, 1) := by decide +kernel
theorem dX6_refusalOf_0 : decode cX6_refusalOf 0 = .ok (.iload_n 1, 1) := by decide +kernel
theorem dX6_refusalOf_1 : decode cX6_refusalOf 1 = .ok (.invokestatic 37, 3) := by decide +kernel
theorem dX6_refusalOf_4 : decode cX6_refusalOf 4 = .ok (.ifCond .ne 6, 3) := by decide +kernel
theorem dX6_refusalOf_7 : decode cX6_refusalOf 7 = .ok (.bipush (-2), 2) := by decide +kernel
theorem dX6_refusalOf_9 : decode cX6_refusalOf 9 = .ok (.ireturn, 1) := by decide +kernel
theorem dX6_refusalOf_10 : decode cX6_refusalOf 10 = .ok (.aload_n 0, 1) := by decide +kernel
theorem dX6_refusalOf_11 : decode cX6_refusalOf 11 = .ok (.getfield 16, 3) := by decide +kernel
theorem dX6_refusalOf_14 : decode cX6_refusalOf 14 = .ok (.iload_n 1, 1) := by decide +kernel
theorem dX6_refusalOf_15 : decode cX6_refusalOf 15 = .ok (.iaload, 1) := by decide +kernel
theorem dX6_refusalOf_16 : decode cX6_refusalOf 16 = .ok (.iconst (-1), 1) := by decide +kernel
theorem dX6_refusalOf_17 : decode cX6_refusalOf 17 = .ok (.if_icmp .ne 11, 3) := by decide +kernel
theorem dX6_refusalOf_20 : decode cX6_refusalOf 20 = .ok (.aload_n 0, 1) := by decide +kernel
theorem dX6_refusalOf_21 : decode cX6_refusalOf 21 = .ok (.iconst 1, 1) := by decide +kernel
theorem dX6_refusalOf_22 : decode cX6_refusalOf 22 = .ok (.invokevirtual 41, 3) := by decide +kernel
theorem dX6_refusalOf_25 : decode cX6_refusalOf 25 = .ok (.goto 4, 3) := by decide +kernel
theorem dX6_refusalOf_28 : decode cX6_refusalOf 28 = .ok (.iconst 0, 1) := by decide +kernel
theorem dX6_refusalOf_29 : decode cX6_refusalOf 29 = .ok (.ireturn, 1) := by decide +kernel
theorem dX6_renew_0 : decode cX6_renew 0 = .ok (.iload_n 1, 1) := by decide +kernel
theorem dX6_renew_1 : decode cX6_renew 1 = .ok (.invokestatic 37, 3) := by decide +kernel
theorem dX6_renew_4 : decode cX6_renew 4 = .ok (.ifCond .eq 16, 3) := by decide +kernel
theorem dX6_renew_7 : decode cX6_renew 7 = .ok (.iload_n 2, 1) := by decide +kernel
theorem dX6_renew_8 : decode cX6_renew 8 = .ok (.invokestatic 45, 3) := by decide +kernel
theorem dX6_renew_11 : decode cX6_renew 11 = .ok (.ifCond .eq 9, 3) := by decide +kernel
theorem dX6_renew_14 : decode cX6_renew 14 = .ok (.iload_n 3, 1) := by decide +kernel
theorem dX6_renew_15 : decode cX6_renew 15 = .ok (.bipush 60, 2) := by decide +kernel
theorem dX6_renew_17 : decode cX6_renew 17 = .ok (.if_icmp .le 6, 3) := by decide +kernel
theorem dX6_renew_20 : decode cX6_renew 20 = .ok (.bipush (-2), 2) := by decide +kernel
theorem dX6_renew_22 : decode cX6_renew 22 = .ok (.ireturn, 1) := by decide +kernel
theorem dX6_renew_23 : decode cX6_renew 23 = .ok (.iload_n 3, 1) := by decide +kernel
theorem dX6_renew_24 : decode cX6_renew 24 = .ok (.ifCond .ge 9, 3) := by decide +kernel
theorem dX6_renew_27 : decode cX6_renew 27 = .ok (.aload_n 0, 1) := by decide +kernel
theorem dX6_renew_28 : decode cX6_renew 28 = .ok (.iconst 5, 1) := by decide +kernel
theorem dX6_renew_29 : decode cX6_renew 29 = .ok (.invokevirtual 41, 3) := by decide +kernel
theorem dX6_renew_32 : decode cX6_renew 32 = .ok (.ireturn, 1) := by decide +kernel
theorem dX6_renew_33 : decode cX6_renew 33 = .ok (.aload_n 0, 1) := by decide +kernel
theorem dX6_renew_34 : decode cX6_renew 34 = .ok (.getfield 13, 3) := by decide +kernel
theorem dX6_renew_37 : decode cX6_renew 37 = .ok (.iload_n 1, 1) := by decide +kernel
theorem dX6_renew_38 : decode cX6_renew 38 = .ok (.aaload, 1) := by decide +kernel
theorem dX6_renew_39 : decode cX6_renew 39 = .ok (.iconst 0, 1) := by decide +kernel
theorem dX6_renew_40 : decode cX6_renew 40 = .ok (.invokestatic 23, 3) := by decide +kernel
theorem dX6_renew_43 : decode cX6_renew 43 = .ok (.aload_n 0, 1) := by decide +kernel
theorem dX6_renew_44 : decode cX6_renew 44 = .ok (.getfield 16, 3) := by decide +kernel
theorem dX6_renew_47 : decode cX6_renew 47 = .ok (.iload_n 1, 1) := by decide +kernel
theorem dX6_renew_48 : decode cX6_renew 48 = .ok (.iload_n 2, 1) := by decide +kernel
theorem dX6_renew_49 : decode cX6_renew 49 = .ok (.iastore, 1) := by decide +kernel
theorem dX6_renew_50 : decode cX6_renew 50 = .ok (.aload_n 0, 1) := by decide +kernel
theorem dX6_renew_51 : decode cX6_renew 51 = .ok (.getfield 20, 3) := by decide +kernel
theorem dX6_renew_54 : decode cX6_renew 54 = .ok (.iload_n 1, 1) := by decide +kernel
theorem dX6_renew_55 : decode cX6_renew 55 = .ok (.iload_n 3, 1) := by decide +kernel
theorem dX6_renew_56 : decode cX6_renew 56 = .ok (.iastore, 1) := by decide +kernel
theorem dX6_renew_57 : decode cX6_renew 57 = .ok (.iload_n 3, 1) := by decide +kernel
theorem dX6_renew_58 : decode cX6_renew 58 = .ok (.ireturn, 1) := by decide +kernel
theorem dX6_drop_0 : decode cX6_drop 0 = .ok (.aload_n 0, 1) := by decide +kernel
theorem dX6_drop_1 : decode cX6_drop 1 = .ok (.iload_n 1, 1) := by decide +kernel
theorem dX6_drop_2 : decode cX6_drop 2 = .ok (.invokevirtual 48, 3) := by decide +kernel
theorem dX6_drop_5 : decode cX6_drop 5 = .ok (.istore_n 2, 1) := by decide +kernel
theorem dX6_drop_6 : decode cX6_drop 6 = .ok (.iload_n 2, 1) := by decide +kernel
theorem dX6_drop_7 : decode cX6_drop 7 = .ok (.ifCond .eq 5, 3) := by decide +kernel
theorem dX6_drop_10 : decode cX6_drop 10 = .ok (.iload_n 2, 1) := by decide +kernel
theorem dX6_drop_11 : decode cX6_drop 11 = .ok (.ireturn, 1) := by decide +kernel
theorem dX6_drop_12 : decode cX6_drop 12 = .ok (.aload_n 0, 1) := by decide +kernel
theorem dX6_drop_13 : decode cX6_drop 13 = .ok (.getfield 16, 3) := by decide +kernel
theorem dX6_drop_16 : decode cX6_drop 16 = .ok (.iload_n 1, 1) := by decide +kernel
theorem dX6_drop_17 : decode cX6_drop 17 = .ok (.iconst (-1), 1) := by decide +kernel
theorem dX6_drop_18 : decode cX6_drop 18 = .ok (.iastore, 1) := by decide +kernel
theorem dX6_drop_19 : decode cX6_drop 19 = .ok (.aload_n 0, 1) := by decide +kernel
theorem dX6_drop_20 : decode cX6_drop 20 = .ok (.getfield 20, 3) := by decide +kernel
theorem dX6_drop_23 : decode cX6_drop 23 = .ok (.iload_n 1, 1) := by decide +kernel
theorem dX6_drop_24 : decode cX6_drop 24 = .ok (.iaload, 1) := by decide +kernel
theorem dX6_drop_25 : decode cX6_drop 25 = .ok (.ireturn, 1) := by decide +kernel
theorem dX6_refusalOfItem_0 : decode cX6_refusalOfItem 0 = .ok (.iload_n 1, 1) := by decide +kernel
theorem dX6_refusalOfItem_1 : decode cX6_refusalOfItem 1 = .ok (.invokestatic 37, 3) := by decide +kernel
theorem dX6_refusalOfItem_4 : decode cX6_refusalOfItem 4 = .ok (.ifCond .eq 10, 3) := by decide +kernel
theorem dX6_refusalOfItem_7 : decode cX6_refusalOfItem 7 = .ok (.iload_n 2, 1) := by decide +kernel
theorem dX6_refusalOfItem_8 : decode cX6_refusalOfItem 8 = .ok (.invokestatic 45, 3) := by decide +kernel
theorem dX6_refusalOfItem_11 : decode cX6_refusalOfItem 11 = .ok (.ifCond .ne 6, 3) := by decide +kernel
theorem dX6_refusalOfItem_14 : decode cX6_refusalOfItem 14 = .ok (.bipush (-2), 2) := by decide +kernel
theorem dX6_refusalOfItem_16 : decode cX6_refusalOfItem 16 = .ok (.ireturn, 1) := by decide +kernel
theorem dX6_refusalOfItem_17 : decode cX6_refusalOfItem 17 = .ok (.aload_n 0, 1) := by decide +kernel
theorem dX6_refusalOfItem_18 : decode cX6_refusalOfItem 18 = .ok (.getfield 16, 3) := by decide +kernel
theorem dX6_refusalOfItem_21 : decode cX6_refusalOfItem 21 = .ok (.iload_n 1, 1) := by decide +kernel
theorem dX6_refusalOfItem_22 : decode cX6_refusalOfItem 22 = .ok (.iaload, 1) := by decide +kernel
theorem dX6_refusalOfItem_23 : decode cX6_refusalOfItem 23 = .ok (.iconst (-1), 1) := by decide +kernel
theorem dX6_refusalOfItem_24 : decode cX6_refusalOfItem 24 = .ok (.if_icmp .ne 9, 3) := by decide +kernel
theorem dX6_refusalOfItem_27 : decode cX6_refusalOfItem 27 = .ok (.aload_n 0, 1) := by decide +kernel
theorem dX6_refusalOfItem_28 : decode cX6_refusalOfItem 28 = .ok (.iconst 1, 1) := by decide +kernel
theorem dX6_refusalOfItem_29 : decode cX6_refusalOfItem 29 = .ok (.invokevirtual 41, 3) := by decide +kernel
theorem dX6_refusalOfItem_32 : decode cX6_refusalOfItem 32 = .ok (.ireturn, 1) := by decide +kernel
theorem dX6_refusalOfItem_33 : decode cX6_refusalOfItem 33 = .ok (.aload_n 0, 1) := by decide +kernel
theorem dX6_refusalOfItem_34 : decode cX6_refusalOfItem 34 = .ok (.getfield 16, 3) := by decide +kernel
theorem dX6_refusalOfItem_37 : decode cX6_refusalOfItem 37 = .ok (.iload_n 1, 1) := by decide +kernel
theorem dX6_refusalOfItem_38 : decode cX6_refusalOfItem 38 = .ok (.iaload, 1) := by decide +kernel
theorem dX6_refusalOfItem_39 : decode cX6_refusalOfItem 39 = .ok (.iload_n 2, 1) := by decide +kernel
theorem dX6_refusalOfItem_40 : decode cX6_refusalOfItem 40 = .ok (.if_icmp .eq 9, 3) := by decide +kernel
theorem dX6_refusalOfItem_43 : decode cX6_refusalOfItem 43 = .ok (.aload_n 0, 1) := by decide +kernel
theorem dX6_refusalOfItem_44 : decode cX6_refusalOfItem 44 = .ok (.iconst 3, 1) := by decide +kernel
theorem dX6_refusalOfItem_45 : decode cX6_refusalOfItem 45 = .ok (.invokevirtual 41, 3) := by decide +kernel
theorem dX6_refusalOfItem_48 : decode cX6_refusalOfItem 48 = .ok (.ireturn, 1) := by decide +kernel
theorem dX6_refusalOfItem_49 : decode cX6_refusalOfItem 49 = .ok (.iload_n 3, 1) := by decide +kernel
theorem dX6_refusalOfItem_50 : decode cX6_refusalOfItem 50 = .ok (.iconst 0, 1) := by decide +kernel
theorem dX6_refusalOfItem_51 : decode cX6_refusalOfItem 51 = .ok (.aload_n 0, 1) := by decide +kernel
theorem dX6_refusalOfItem_52 : decode cX6_refusalOfItem 52 = .ok (.getfield 20, 3) := by decide +kernel
theorem dX6_refusalOfItem_55 : decode cX6_refusalOfItem 55 = .ok (.iload_n 1, 1) := by decide +kernel
theorem dX6_refusalOfItem_56 : decode cX6_refusalOfItem 56 = .ok (.iaload, 1) := by decide +kernel
theorem dX6_refusalOfItem_57 : decode cX6_refusalOfItem 57 = .ok (.iconst 1, 1) := by decide +kernel
theorem dX6_refusalOfItem_58 : decode cX6_refusalOfItem 58 = .ok (.isub, 1) := by decide +kernel
theorem dX6_refusalOfItem_59 : decode cX6_refusalOfItem 59 = .ok (.invokestatic 29, 3) := by decide +kernel
theorem dX6_refusalOfItem_62 : decode cX6_refusalOfItem 62 = .ok (.ifCond .eq 7, 3) := by decide +kernel
theorem dX6_refusalOfItem_65 : decode cX6_refusalOfItem 65 = .ok (.iconst 0, 1) := by decide +kernel
theorem dX6_refusalOfItem_66 : decode cX6_refusalOfItem 66 = .ok (.goto 8, 3) := by decide +kernel
theorem dX6_refusalOfItem_69 : decode cX6_refusalOfItem 69 = .ok (.aload_n 0, 1) := by decide +kernel
theorem dX6_refusalOfItem_70 : decode cX6_refusalOfItem 70 = .ok (.iconst 2, 1) := by decide +kernel
theorem dX6_refusalOfItem_71 : decode cX6_refusalOfItem 71 = .ok (.invokevirtual 41, 3) := by decide +kernel
theorem dX6_refusalOfItem_74 : decode cX6_refusalOfItem 74 = .ok (.ireturn, 1) := by decide +kernel
theorem dX6_lowestBits_0 : decode cX6_lowestBits 0 = .ok (.iload_n 0, 1) := by decide +kernel
theorem dX6_lowestBits_1 : decode cX6_lowestBits 1 = .ok (.lookupswitch 33 #[(0, 27), (1, 30)], 27) := by decide +kernel
theorem dX6_lowestBits_28 : decode cX6_lowestBits 28 = .ok (.iload_n 1, 1) := by decide +kernel
theorem dX6_lowestBits_29 : decode cX6_lowestBits 29 = .ok (.i2b, 1) := by decide +kernel
theorem dX6_lowestBits_30 : decode cX6_lowestBits 30 = .ok (.ireturn, 1) := by decide +kernel
theorem dX6_lowestBits_31 : decode cX6_lowestBits 31 = .ok (.iload_n 1, 1) := by decide +kernel
theorem dX6_lowestBits_32 : decode cX6_lowestBits 32 = .ok (.i2s, 1) := by decide +kernel
theorem dX6_lowestBits_33 : decode cX6_lowestBits 33 = .ok (.ireturn, 1) := by decide +kernel
theorem dX6_lowestBits_34 : decode cX6_lowestBits 34 = .ok (.iload_n 1, 1) := by decide +kernel
theorem dX6_lowestBits_35 : decode cX6_lowestBits 35 = .ok (.ireturn, 1) := by decide +kernel
theorem dX6_write_0 : decode cX6_write 0 = .ok (.aload_n 0, 1) := by decide +kernel
theorem dX6_write_1 : decode cX6_write 1 = .ok (.iload_n 1, 1) := by decide +kernel
theorem dX6_write_2 : decode cX6_write 2 = .ok (.iload_n 2, 1) := by decide +kernel
theorem dX6_write_3 : decode cX6_write 3 = .ok (.iload_n 3, 1) := by decide +kernel
theorem dX6_write_4 : decode cX6_write 4 = .ok (.invokevirtual 51, 3) := by decide +kernel
theorem dX6_write_7 : decode cX6_write 7 = .ok (.istore 5, 2) := by decide +kernel
theorem dX6_write_9 : decode cX6_write 9 = .ok (.iload 5, 2) := by decide +kernel
theorem dX6_write_11 : decode cX6_write 11 = .ok (.ifCond .eq 6, 3) := by decide +kernel
theorem dX6_write_14 : decode cX6_write 14 = .ok (.iload 5, 2) := by decide +kernel
theorem dX6_write_16 : decode cX6_write 16 = .ok (.ireturn, 1) := by decide +kernel
theorem dX6_write_17 : decode cX6_write 17 = .ok (.aload_n 0, 1) := by decide +kernel
theorem dX6_write_18 : decode cX6_write 18 = .ok (.getfield 13, 3) := by decide +kernel
theorem dX6_write_21 : decode cX6_write 21 = .ok (.iload_n 1, 1) := by decide +kernel
theorem dX6_write_22 : decode cX6_write 22 = .ok (.aaload, 1) := by decide +kernel
theorem dX6_write_23 : decode cX6_write 23 = .ok (.iload_n 3, 1) := by decide +kernel
theorem dX6_write_24 : decode cX6_write 24 = .ok (.iload_n 2, 1) := by decide +kernel
theorem dX6_write_25 : decode cX6_write 25 = .ok (.iload 4, 2) := by decide +kernel
theorem dX6_write_27 : decode cX6_write 27 = .ok (.invokestatic 55, 3) := by decide +kernel
theorem dX6_write_30 : decode cX6_write 30 = .ok (.iastore, 1) := by decide +kernel
theorem dX6_write_31 : decode cX6_write 31 = .ok (.iconst 1, 1) := by decide +kernel
theorem dX6_write_32 : decode cX6_write 32 = .ok (.ireturn, 1) := by decide +kernel
theorem dX6_read_0 : decode cX6_read 0 = .ok (.aload_n 0, 1) := by decide +kernel
theorem dX6_read_1 : decode cX6_read 1 = .ok (.iload_n 1, 1) := by decide +kernel
theorem dX6_read_2 : decode cX6_read 2 = .ok (.iload_n 2, 1) := by decide +kernel
theorem dX6_read_3 : decode cX6_read 3 = .ok (.iload_n 3, 1) := by decide +kernel
theorem dX6_read_4 : decode cX6_read 4 = .ok (.invokevirtual 51, 3) := by decide +kernel
theorem dX6_read_7 : decode cX6_read 7 = .ok (.ifCond .ne 14, 3) := by decide +kernel
theorem dX6_read_10 : decode cX6_read 10 = .ok (.aload_n 0, 1) := by decide +kernel
theorem dX6_read_11 : decode cX6_read 11 = .ok (.getfield 13, 3) := by decide +kernel
theorem dX6_read_14 : decode cX6_read 14 = .ok (.iload_n 1, 1) := by decide +kernel
theorem dX6_read_15 : decode cX6_read 15 = .ok (.aaload, 1) := by decide +kernel
theorem dX6_read_16 : decode cX6_read 16 = .ok (.iload_n 3, 1) := by decide +kernel
theorem dX6_read_17 : decode cX6_read 17 = .ok (.iaload, 1) := by decide +kernel
theorem dX6_read_18 : decode cX6_read 18 = .ok (.goto 5, 3) := by decide +kernel
theorem dX6_read_21 : decode cX6_read 21 = .ok (.ldc 59, 2) := by decide +kernel
theorem dX6_read_23 : decode cX6_read 23 = .ok (.ireturn, 1) := by decide +kernel
theorem dX6_hasItems_0 : decode cX6_hasItems 0 = .ok (.iload_n 2, 1) := by decide +kernel
theorem dX6_hasItems_1 : decode cX6_hasItems 1 = .ok (.ifCond .lt 33, 3) := by decide +kernel
theorem dX6_hasItems_4 : decode cX6_hasItems 4 = .ok (.iload_n 3, 1) := by decide +kernel
theorem dX6_hasItems_5 : decode cX6_hasItems 5 = .ok (.ifCond .lt 29, 3) := by decide +kernel
theorem dX6_hasItems_8 : decode cX6_hasItems 8 = .ok (.iload_n 3, 1) := by decide +kernel
theorem dX6_hasItems_9 : decode cX6_hasItems 9 = .ok (.aload_n 0, 1) := by decide +kernel
theorem dX6_hasItems_10 : decode cX6_hasItems 10 = .ok (.getfield 20, 3) := by decide +kernel
theorem dX6_hasItems_13 : decode cX6_hasItems 13 = .ok (.iload_n 1, 1) := by decide +kernel
theorem dX6_hasItems_14 : decode cX6_hasItems 14 = .ok (.iaload, 1) := by decide +kernel
theorem dX6_hasItems_15 : decode cX6_hasItems 15 = .ok (.if_icmp .gt 19, 3) := by decide +kernel
theorem dX6_hasItems_18 : decode cX6_hasItems 18 = .ok (.iload_n 2, 1) := by decide +kernel
theorem dX6_hasItems_19 : decode cX6_hasItems 19 = .ok (.aload_n 0, 1) := by decide +kernel
theorem dX6_hasItems_20 : decode cX6_hasItems 20 = .ok (.getfield 20, 3) := by decide +kernel
theorem dX6_hasItems_23 : decode cX6_hasItems 23 = .ok (.iload_n 1, 1) := by decide +kernel
theorem dX6_hasItems_24 : decode cX6_hasItems 24 = .ok (.iaload, 1) := by decide +kernel
theorem dX6_hasItems_25 : decode cX6_hasItems 25 = .ok (.iload_n 3, 1) := by decide +kernel
theorem dX6_hasItems_26 : decode cX6_hasItems 26 = .ok (.isub, 1) := by decide +kernel
theorem dX6_hasItems_27 : decode cX6_hasItems 27 = .ok (.if_icmp .gt 7, 3) := by decide +kernel
theorem dX6_hasItems_30 : decode cX6_hasItems 30 = .ok (.iconst 1, 1) := by decide +kernel
theorem dX6_hasItems_31 : decode cX6_hasItems 31 = .ok (.goto 4, 3) := by decide +kernel
theorem dX6_hasItems_34 : decode cX6_hasItems 34 = .ok (.iconst 0, 1) := by decide +kernel
theorem dX6_hasItems_35 : decode cX6_hasItems 35 = .ok (.ireturn, 1) := by decide +kernel
theorem dX6_carryOver_0 : decode cX6_carryOver 0 = .ok (.iload_n 1, 1) := by decide +kernel
theorem dX6_carryOver_1 : decode cX6_carryOver 1 = .ok (.invokestatic 37, 3) := by decide +kernel
theorem dX6_carryOver_4 : decode cX6_carryOver 4 = .ok (.ifCond .eq 10, 3) := by decide +kernel
theorem dX6_carryOver_7 : decode cX6_carryOver 7 = .ok (.iload_n 3, 1) := by decide +kernel
theorem dX6_carryOver_8 : decode cX6_carryOver 8 = .ok (.invokestatic 37, 3) := by decide +kernel
theorem dX6_carryOver_11 : decode cX6_carryOver 11 = .ok (.ifCond .ne 6, 3) := by decide +kernel
theorem dX6_carryOver_14 : decode cX6_carryOver 14 = .ok (.bipush (-2), 2) := by decide +kernel
theorem dX6_carryOver_16 : decode cX6_carryOver 16 = .ok (.ireturn, 1) := by decide +kernel
theorem dX6_carryOver_17 : decode cX6_carryOver 17 = .ok (.aload_n 0, 1) := by decide +kernel
theorem dX6_carryOver_18 : decode cX6_carryOver 18 = .ok (.getfield 16, 3) := by decide +kernel
theorem dX6_carryOver_21 : decode cX6_carryOver 21 = .ok (.iload_n 1, 1) := by decide +kernel
theorem dX6_carryOver_22 : decode cX6_carryOver 22 = .ok (.iaload, 1) := by decide +kernel
theorem dX6_carryOver_23 : decode cX6_carryOver 23 = .ok (.iconst (-1), 1) := by decide +kernel
theorem dX6_carryOver_24 : decode cX6_carryOver 24 = .ok (.if_icmp .eq 13, 3) := by decide +kernel
theorem dX6_carryOver_27 : decode cX6_carryOver 27 = .ok (.aload_n 0, 1) := by decide +kernel
theorem dX6_carryOver_28 : decode cX6_carryOver 28 = .ok (.getfield 16, 3) := by decide +kernel
theorem dX6_carryOver_31 : decode cX6_carryOver 31 = .ok (.iload_n 3, 1) := by decide +kernel
theorem dX6_carryOver_32 : decode cX6_carryOver 32 = .ok (.iaload, 1) := by decide +kernel
theorem dX6_carryOver_33 : decode cX6_carryOver 33 = .ok (.iconst (-1), 1) := by decide +kernel
theorem dX6_carryOver_34 : decode cX6_carryOver 34 = .ok (.if_icmp .ne 9, 3) := by decide +kernel
theorem dX6_carryOver_37 : decode cX6_carryOver 37 = .ok (.aload_n 0, 1) := by decide +kernel
theorem dX6_carryOver_38 : decode cX6_carryOver 38 = .ok (.iconst 1, 1) := by decide +kernel
theorem dX6_carryOver_39 : decode cX6_carryOver 39 = .ok (.invokevirtual 41, 3) := by decide +kernel
theorem dX6_carryOver_42 : decode cX6_carryOver 42 = .ok (.ireturn, 1) := by decide +kernel
theorem dX6_carryOver_43 : decode cX6_carryOver 43 = .ok (.aload_n 0, 1) := by decide +kernel
theorem dX6_carryOver_44 : decode cX6_carryOver 44 = .ok (.getfield 16, 3) := by decide +kernel
theorem dX6_carryOver_47 : decode cX6_carryOver 47 = .ok (.iload_n 1, 1) := by decide +kernel
theorem dX6_carryOver_48 : decode cX6_carryOver 48 = .ok (.iaload, 1) := by decide +kernel
theorem dX6_carryOver_49 : decode cX6_carryOver 49 = .ok (.aload_n 0, 1) := by decide +kernel
theorem dX6_carryOver_50 : decode cX6_carryOver 50 = .ok (.getfield 16, 3) := by decide +kernel
theorem dX6_carryOver_53 : decode cX6_carryOver 53 = .ok (.iload_n 3, 1) := by decide +kernel
theorem dX6_carryOver_54 : decode cX6_carryOver 54 = .ok (.iaload, 1) := by decide +kernel
theorem dX6_carryOver_55 : decode cX6_carryOver 55 = .ok (.if_icmp .eq 9, 3) := by decide +kernel
theorem dX6_carryOver_58 : decode cX6_carryOver 58 = .ok (.aload_n 0, 1) := by decide +kernel
theorem dX6_carryOver_59 : decode cX6_carryOver 59 = .ok (.iconst 4, 1) := by decide +kernel
theorem dX6_carryOver_60 : decode cX6_carryOver 60 = .ok (.invokevirtual 41, 3) := by decide +kernel
theorem dX6_carryOver_63 : decode cX6_carryOver 63 = .ok (.ireturn, 1) := by decide +kernel
theorem dX6_carryOver_64 : decode cX6_carryOver 64 = .ok (.aload_n 0, 1) := by decide +kernel
theorem dX6_carryOver_65 : decode cX6_carryOver 65 = .ok (.iload_n 1, 1) := by decide +kernel
theorem dX6_carryOver_66 : decode cX6_carryOver 66 = .ok (.iload_n 2, 1) := by decide +kernel
theorem dX6_carryOver_67 : decode cX6_carryOver 67 = .ok (.iload 5, 2) := by decide +kernel
theorem dX6_carryOver_69 : decode cX6_carryOver 69 = .ok (.invokevirtual 60, 3) := by decide +kernel
theorem dX6_carryOver_72 : decode cX6_carryOver 72 = .ok (.ifCond .eq 15, 3) := by decide +kernel
theorem dX6_carryOver_75 : decode cX6_carryOver 75 = .ok (.aload_n 0, 1) := by decide +kernel
theorem dX6_carryOver_76 : decode cX6_carryOver 76 = .ok (.iload_n 3, 1) := by decide +kernel
theorem dX6_carryOver_77 : decode cX6_carryOver 77 = .ok (.iload 4, 2) := by decide +kernel
theorem dX6_carryOver_79 : decode cX6_carryOver 79 = .ok (.iload 5, 2) := by decide +kernel
theorem dX6_carryOver_81 : decode cX6_carryOver 81 = .ok (.invokevirtual 60, 3) := by decide +kernel
theorem dX6_carryOver_84 : decode cX6_carryOver 84 = .ok (.ifCond .ne 9, 3) := by decide +kernel
theorem dX6_carryOver_87 : decode cX6_carryOver 87 = .ok (.aload_n 0, 1) := by decide +kernel
theorem dX6_carryOver_88 : decode cX6_carryOver 88 = .ok (.iconst 2, 1) := by decide +kernel
theorem dX6_carryOver_89 : decode cX6_carryOver 89 = .ok (.invokevirtual 41, 3) := by decide +kernel
theorem dX6_carryOver_92 : decode cX6_carryOver 92 = .ok (.ireturn, 1) := by decide +kernel
theorem dX6_carryOver_93 : decode cX6_carryOver 93 = .ok (.aload_n 0, 1) := by decide +kernel
theorem dX6_carryOver_94 : decode cX6_carryOver 94 = .ok (.getfield 13, 3) := by decide +kernel
theorem dX6_carryOver_97 : decode cX6_carryOver 97 = .ok (.iload_n 1, 1) := by decide +kernel
theorem dX6_carryOver_98 : decode cX6_carryOver 98 = .ok (.aaload, 1) := by decide +kernel
theorem dX6_carryOver_99 : decode cX6_carryOver 99 = .ok (.iload_n 2, 1) := by decide +kernel
theorem dX6_carryOver_100 : decode cX6_carryOver 100 = .ok (.aload_n 0, 1) := by decide +kernel
theorem dX6_carryOver_101 : decode cX6_carryOver 101 = .ok (.getfield 13, 3) := by decide +kernel
theorem dX6_carryOver_104 : decode cX6_carryOver 104 = .ok (.iload_n 3, 1) := by decide +kernel
theorem dX6_carryOver_105 : decode cX6_carryOver 105 = .ok (.aaload, 1) := by decide +kernel
theorem dX6_carryOver_106 : decode cX6_carryOver 106 = .ok (.iload 4, 2) := by decide +kernel
theorem dX6_carryOver_108 : decode cX6_carryOver 108 = .ok (.iload 5, 2) := by decide +kernel
theorem dX6_carryOver_110 : decode cX6_carryOver 110 = .ok (.invokestatic 63, 3) := by decide +kernel
theorem dX6_carryOver_113 : decode cX6_carryOver 113 = .ok (.iconst 1, 1) := by decide +kernel
theorem dX6_carryOver_114 : decode cX6_carryOver 114 = .ok (.ireturn, 1) := by decide +kernel
def f_X2_tellBlock (w : Wd) (a1 : Int32) (a2 : Int32) (a3 : Int32) : Option (Int32 × Wd) :=
if (f_X11_within a1 (0 : Int32) (19 : Int32)) = 0 then
some ((-2 : Int32), w)
else
if (f_X11_within a2 (1 : Int32) (60 : Int32)) = 0 then
some ((-2 : Int32), w)
else
q_st w 40 20 a1 a2 (fun w_29 =>
q_sz w_29 41 20 a1 a3 (fun w_36 =>
some ((1 : Int32), w_36)))
set_option maxRecDepth 100000 in
set_option maxHeartbeats 4000000 in
theorem c_X2_tellBlock (l : Launch) (D : va_G) (cT : Nat → ClassId) (lo : Nat) (w : Wd) (ad : Nat → Nat) (a1 : Int32) (a2 : Int32) (a3 : Int32) (r : Int32) (w9 : Wd) (h : f_X2_tellBlock w a1 a2 a3 = some (r, w9)) : Met l yX2_tellBlock (.code yX2_tellBlock cX2_tellBlock 4 (some .int) :: TW) { frames := 1, cells := 0, slots := 0, locals := 22 } (mPc D cT lo NB w ad [.ref (ad 6), .int a1, .int a2, .int a3]) (mQ D cT lo NB w w9 ad (some (.int r))) 0 0 (fun q => lo ≤ q) := by
  unfold f_X2_tellBlock at h
  refine x_met (lv := [(0, .ref (ad 6)), (1, .int a1), (2, .int a2), (3, .int a3)]) (by decide +kernel) (Nat.le_of_ble_eq_true rfl) rfl ?_
  intro p e s m args below meth c ls F hr hlk hP hin hl
  have hx := F.1
  have hb := F.2.1
  have hS : va_S (fun q => lo ≤ q) s.heap s.heap [] := va_S.rf
  have hM_w : mono w w := mono.refl
  refine lv_iload_n hx hb dX2_tellBlock_0 rfl (lv_at hl 1 rfl) ?_
  refine lv_iconst (v := 0) hx hb dX2_tellBlock_1 ic_0 ?_
  refine lv_bipush (v := 19) hx hb dX2_tellBlock_2 ib_19 ?_
  refine x_goesZ (x_runSN (As := [.int a1, .int (0 : Int32), .int (19 : Int32)]) (rest := []) F hP hS (c_X11_within l D cT lo NB w ad a1 (0 : Int32) (19 : Int32)) cw_X11_within nl_X2_49 st_X11_within ⟨rfl, rfl, Nat.le_of_ble_eq_true rfl, Nat.le_of_ble_eq_true rfl⟩ hl.1 rfl (Nat.le_of_ble_eq_true rfl) dX2_tellBlock_4 ⟨Nat.zero_le _, Nat.zero_le _⟩) hS (fun H locs hz_4 hP hS _ => ?_)
  refine lv_if_eq (tgt := 20) hx hb dX2_tellBlock_7 (by decide) (fun hc => ?_) (fun hc => ?_)
  · have h := if_t _ hc h
    refine lv_bipush (v := -2) hx hb dX2_tellBlock_20 ib_m2 ?_
    exact y_iretM h F hr hP hS mono.refl hlk dX2_tellBlock_22
  · have h := if_f _ hc h
    refine lv_iload_n hx hb dX2_tellBlock_10 rfl (lv_at hl 2 rfl) ?_
    refine lv_iconst (v := 1) hx hb dX2_tellBlock_11 ic_1 ?_
    refine lv_bipush (v := 60) hx hb dX2_tellBlock_12 ib_60 ?_
    refine x_goesZ (x_runSN (As := [.int a2, .int (1 : Int32), .int (60 : Int32)]) (rest := []) F hP hS (c_X11_within l D cT lo NB w ad a2 (1 : Int32) (60 : Int32)) cw_X11_within nl_X2_49 st_X11_within ⟨rfl, rfl, Nat.le_of_ble_eq_true rfl, Nat.le_of_ble_eq_true rfl⟩ hl.1 rfl (Nat.le_of_ble_eq_true rfl) dX2_tellBlock_14 ⟨Nat.zero_le _, Nat.zero_le _⟩) hS (fun H locs hz_14 hP hS _ => ?_)
    refine lv_if_ne (tgt := 23) hx hb dX2_tellBlock_17 (by decide) (fun hc => ?_) (fun hc => ?_)
    · have h := if_f _ hc h
      refine lv_aload_n hx hb dX2_tellBlock_23 rfl (lv_at hl 0 rfl) ?_
      refine x_getr F hP k_6 (hP.al 6 rfl) fl_X2_11 rfl r_6_0 dX2_tellBlock_24 ?_
      refine lv_iload_n hx hb dX2_tellBlock_27 rfl (lv_at hl 1 rfl) ?_
      refine lv_iload_n hx hb dX2_tellBlock_28 rfl (lv_at hl 2 rfl) ?_
      refine y_iast h F hP hS k_40 (n2 (hP.al 40 rfl)) dX2_tellBlock_29 (fun w_29 H locs hm h hP hS => ?_)
      have hM_w := hm
      refine lv_aload_n hx hb dX2_tellBlock_30 rfl (lv_at hl 0 rfl) ?_
      refine x_getr F hP k_6 (hP.al 6 rfl) fl_X2_15 rfl r_6_1 dX2_tellBlock_31 ?_
      refine lv_iload_n hx hb dX2_tellBlock_34 rfl (lv_at hl 1 rfl) ?_
      refine lv_iload_n hx hb dX2_tellBlock_35 rfl (lv_at hl 3 rfl) ?_
      refine y_zast h F hP hS k_41 (n2 (hP.al 41 rfl)) dX2_tellBlock_36 (fun w_36 H locs hm h hP hS => ?_)
      have hM_w := hM_w.trans hm
      refine lv_iconst (v := 1) hx hb dX2_tellBlock_37 ic_1 ?_
      exact y_iretM h F hr hP hS hM_w hlk dX2_tellBlock_38
    · have h := if_t _ hc h
      refine lv_bipush (v := -2) hx hb dX2_tellBlock_20 ib_m2 ?_
      exact y_iretM h F hr hP hS mono.refl hlk dX2_tellBlock_22
def f_X2_addCar (w : Wd) (a1 : Int32) (a2 : Int32) (a3 : Int32) : Option (Int32 × Wd) :=
if (f_X11_within a1 (0 : Int32) (19 : Int32)) = 0 then
some ((-2 : Int32), w)
else
if (f_X11_within a2 (0 : Int32) (19 : Int32)) = 0 then
some ((-2 : Int32), w)
else
if a1 = a2 then
some ((-2 : Int32), w)
else
if (f_X11_within a3 (0 : Int32) (999 : Int32)) = 0 then
some ((-2 : Int32), w)
else
q_gt w 6 7 (fun v_40 =>
if v_40 < (4 : Int32) then
q_gt w 6 7 (fun v_55 =>
q_st w 42 4 v_55 a1 (fun w_59 =>
q_gt w_59 6 7 (fun v_65 =>
q_st w_59 43 4 v_65 a2 (fun w_69 =>
q_gt w_69 6 7 (fun v_75 =>
q_st w_69 44 4 v_75 a3 (fun w_79 =>
q_gt w_79 6 7 (fun v_85 =>
q_st w_79 45 4 v_85 (0 : Int32) (fun w_89 =>
q_gt w_89 6 7 (fun v_95 =>
q_st w_89 46 4 v_95 (0 : Int32) (fun w_99 =>
q_gt w_99 6 7 (fun v_102 =>
q_pt w_99 6 7 (v_102 + (1 : Int32)) (fun w_108 =>
some (v_102, w_108)))))))))))))
else
some ((-4 : Int32), w))
set_option maxRecDepth 100000 in
set_option maxHeartbeats 4000000 in
theorem c_X2_addCar (l : Launch) (D : va_G) (cT : Nat → ClassId) (lo : Nat) (w : Wd) (ad : Nat → Nat) (a1 : Int32) (a2 : Int32) (a3 : Int32) (r : Int32) (w9 : Wd) (h : f_X2_addCar w a1 a2 a3 = some (r, w9)) : Met l yX2_addCar (.code yX2_addCar cX2_addCar 4 (some .int) :: TW) { frames := 1, cells := 0, slots := 0, locals := 22 } (mPc D cT lo NB w ad [.ref (ad 6), .int a1, .int a2, .int a3]) (mQ D cT lo NB w w9 ad (some (.int r))) 0 0 (fun q => lo ≤ q) := by
  unfold f_X2_addCar at h
  refine x_met (lv := [(0, .ref (ad 6)), (1, .int a1), (2, .int a2), (3, .int a3)]) (by decide +kernel) (Nat.le_of_ble_eq_true rfl) rfl ?_
  intro p e s m args below meth c ls F hr hlk hP hin hl
  have hx := F.1
  have hb := F.2.1
  have hS : va_S (fun q => lo ≤ q) s.heap s.heap [] := va_S.rf
  have hM_w : mono w w := mono.refl
  refine lv_iload_n hx hb dX2_addCar_0 rfl (lv_at hl 1 rfl) ?_
  refine lv_iconst (v := 0) hx hb dX2_addCar_1 ic_0 ?_
  refine lv_bipush (v := 19) hx hb dX2_addCar_2 ib_19 ?_
  refine x_goesZ (x_runSN (As := [.int a1, .int (0 : Int32), .int (19 : Int32)]) (rest := []) F hP hS (c_X11_within l D cT lo NB w ad a1 (0 : Int32) (19 : Int32)) cw_X11_within nl_X2_49 st_X11_within ⟨rfl, rfl, Nat.le_of_ble_eq_true rfl, Nat.le_of_ble_eq_true rfl⟩ hl.1 rfl (Nat.le_of_ble_eq_true rfl) dX2_addCar_4 ⟨Nat.zero_le _, Nat.zero_le _⟩) hS (fun H locs hz_4 hP hS _ => ?_)
  refine lv_if_eq (tgt := 36) hx hb dX2_addCar_7 (by decide) (fun hc => ?_) (fun hc => ?_)
  · have h := if_t _ hc h
    refine lv_bipush (v := -2) hx hb dX2_addCar_36 ib_m2 ?_
    exact y_iretM h F hr hP hS mono.refl hlk dX2_addCar_38
  · have h := if_f _ hc h
    refine lv_iload_n hx hb dX2_addCar_10 rfl (lv_at hl 2 rfl) ?_
    refine lv_iconst (v := 0) hx hb dX2_addCar_11 ic_0 ?_
    refine lv_bipush (v := 19) hx hb dX2_addCar_12 ib_19 ?_
    refine x_goesZ (x_runSN (As := [.int a2, .int (0 : Int32), .int (19 : Int32)]) (rest := []) F hP hS (c_X11_within l D cT lo NB w ad a2 (0 : Int32) (19 : Int32)) cw_X11_within nl_X2_49 st_X11_within ⟨rfl, rfl, Nat.le_of_ble_eq_true rfl, Nat.le_of_ble_eq_true rfl⟩ hl.1 rfl (Nat.le_of_ble_eq_true rfl) dX2_addCar_14 ⟨Nat.zero_le _, Nat.zero_le _⟩) hS (fun H locs hz_14 hP hS _ => ?_)
    refine lv_if_eq (tgt := 36) hx hb dX2_addCar_17 (by decide) (fun hc => ?_) (fun hc => ?_)
    · have h := if_t _ hc h
      refine lv_bipush (v := -2) hx hb dX2_addCar_36 ib_m2 ?_
      exact y_iretM h F hr hP hS mono.refl hlk dX2_addCar_38
    · have h := if_f _ hc h
      refine lv_iload_n hx hb dX2_addCar_20 rfl (lv_at hl 1 rfl) ?_
      refine lv_iload_n hx hb dX2_addCar_21 rfl (lv_at hl 2 rfl) ?_
      refine lv_icmp_eq (tgt := 36) hx hb dX2_addCar_22 (by decide) (fun hc => ?_) (fun hc => ?_)
      · have h := if_t _ hc h
        refine lv_bipush (v := -2) hx hb dX2_addCar_36 ib_m2 ?_
        exact y_iretM h F hr hP hS mono.refl hlk dX2_addCar_38
      · have h := if_f _ hc h
        refine lv_iload_n hx hb dX2_addCar_25 rfl (lv_at hl 3 rfl) ?_
        refine lv_iconst (v := 0) hx hb dX2_addCar_26 ic_0 ?_
        refine lv_sipush (v := 999) hx hb dX2_addCar_27 is_999 ?_
        refine x_goesZ (x_runSN (As := [.int a3, .int (0 : Int32), .int (999 : Int32)]) (rest := []) F hP hS (c_X11_within l D cT lo NB w ad a3 (0 : Int32) (999 : Int32)) cw_X11_within nl_X2_49 st_X11_within ⟨rfl, rfl, Nat.le_of_ble_eq_true rfl, Nat.le_of_ble_eq_true rfl⟩ hl.1 rfl (Nat.le_of_ble_eq_true rfl) dX2_addCar_30 ⟨Nat.zero_le _, Nat.zero_le _⟩) hS (fun H locs hz_30 hP hS _ => ?_)
        refine lv_if_ne (tgt := 39) hx hb dX2_addCar_33 (by decide) (fun hc => ?_) (fun hc => ?_)
        · have h := if_f _ hc h
          refine lv_aload_n hx hb dX2_addCar_39 rfl (lv_at hl 0 rfl) ?_
          refine y_geti h F hP k_6 (n2 (hP.al 6 rfl)) fl_X2_53 rfl dX2_addCar_40 (fun v_40 h => ?_)
          refine lv_iconst (v := 4) hx hb dX2_addCar_43 ic_4 ?_
          refine lv_icmp_lt (tgt := 50) hx hb dX2_addCar_44 (by decide) (fun hc => ?_) (fun hc => ?_)
          · have h := if_t _ hc h
            refine lv_aload_n hx hb dX2_addCar_50 rfl (lv_at hl 0 rfl) ?_
            refine x_getr F hP k_6 (hP.al 6 rfl) fl_X2_19 rfl r_6_2 dX2_addCar_51 ?_
            refine lv_aload_n hx hb dX2_addCar_54 rfl (lv_at hl 0 rfl) ?_
            refine y_geti h F hP k_6 (n2 (hP.al 6 rfl)) fl_X2_53 rfl dX2_addCar_55 (fun v_55 h => ?_)
            refine lv_iload_n hx hb dX2_addCar_58 rfl (lv_at hl 1 rfl) ?_
            refine y_iast h F hP hS k_42 (n2 (hP.al 42 rfl)) dX2_addCar_59 (fun w_59 H locs hm h hP hS => ?_)
            have hM_w := hm
            refine lv_aload_n hx hb dX2_addCar_60 rfl (lv_at hl 0 rfl) ?_
            refine x_getr F hP k_6 (hP.al 6 rfl) fl_X2_22 rfl r_6_3 dX2_addCar_61 ?_
            refine lv_aload_n hx hb dX2_addCar_64 rfl (lv_at hl 0 rfl) ?_
            refine y_geti h F hP k_6 (n2 (hP.al 6 rfl)) fl_X2_53 rfl dX2_addCar_65 (fun v_65 h => ?_)
            refine lv_iload_n hx hb dX2_addCar_68 rfl (lv_at hl 2 rfl) ?_
            refine y_iast h F hP hS k_43 (n2 (hP.al 43 rfl)) dX2_addCar_69 (fun w_69 H locs hm h hP hS => ?_)
            have hM_w := hM_w.trans hm
            refine lv_aload_n hx hb dX2_addCar_70 rfl (lv_at hl 0 rfl) ?_
            refine x_getr F hP k_6 (hP.al 6 rfl) fl_X2_25 rfl r_6_4 dX2_addCar_71 ?_
            refine lv_aload_n hx hb dX2_addCar_74 rfl (lv_at hl 0 rfl) ?_
            refine y_geti h F hP k_6 (n2 (hP.al 6 rfl)) fl_X2_53 rfl dX2_addCar_75 (fun v_75 h => ?_)
            refine lv_iload_n hx hb dX2_addCar_78 rfl (lv_at hl 3 rfl) ?_
            refine y_iast h F hP hS k_44 (n2 (hP.al 44 rfl)) dX2_addCar_79 (fun w_79 H locs hm h hP hS => ?_)
            have hM_w := hM_w.trans hm
            refine lv_aload_n hx hb dX2_addCar_80 rfl (lv_at hl 0 rfl) ?_
            refine x_getr F hP k_6 (hP.al 6 rfl) fl_X2_28 rfl r_6_5 dX2_addCar_81 ?_
            refine lv_aload_n hx hb dX2_addCar_84 rfl (lv_at hl 0 rfl) ?_
            refine y_geti h F hP k_6 (n2 (hP.al 6 rfl)) fl_X2_53 rfl dX2_addCar_85 (fun v_85 h => ?_)
            refine lv_iconst (v := 0) hx hb dX2_addCar_88 ic_0 ?_
            refine y_iast h F hP hS k_45 (n2 (hP.al 45 rfl)) dX2_addCar_89 (fun w_89 H locs hm h hP hS => ?_)
            have hM_w := hM_w.trans hm
            refine lv_aload_n hx hb dX2_addCar_90 rfl (lv_at hl 0 rfl) ?_
            refine x_getr F hP k_6 (hP.al 6 rfl) fl_X2_31 rfl r_6_6 dX2_addCar_91 ?_
            refine lv_aload_n hx hb dX2_addCar_94 rfl (lv_at hl 0 rfl) ?_
            refine y_geti h F hP k_6 (n2 (hP.al 6 rfl)) fl_X2_53 rfl dX2_addCar_95 (fun v_95 h => ?_)
            refine lv_iconst (v := 0) hx hb dX2_addCar_98 ic_0 ?_
            refine y_iast h F hP hS k_46 (n2 (hP.al 46 rfl)) dX2_addCar_99 (fun w_99 H locs hm h hP hS => ?_)
            have hM_w := hM_w.trans hm
            refine lv_aload_n hx hb dX2_addCar_100 rfl (lv_at hl 0 rfl) ?_
            refine lv_dup hx hb dX2_addCar_101 rfl ?_
            refine y_geti h F hP k_6 (n2 (hP.al 6 rfl)) fl_X2_53 rfl dX2_addCar_102 (fun v_102 h => ?_)
            refine lv_dup_x1 hx hb dX2_addCar_105 rfl rfl ?_
            refine lv_iconst (v := 1) hx hb dX2_addCar_106 ic_1 ?_
            refine lv_iadd hx hb dX2_addCar_107 ?_
            refine y_puti h F hP hS k_6 (n2 (hP.al 6 rfl)) fl_X2_53 rfl dX2_addCar_108 (fun w_108 H locs hm h hP hS => ?_)
            have hM_w := hM_w.trans hm
            exact y_iretM h F hr hP hS hM_w hlk dX2_addCar_111
          · have h := if_f _ hc h
            refine lv_bipush (v := -4) hx hb dX2_addCar_47 ib_m4 ?_
            exact y_iretM h F hr hP hS mono.refl hlk dX2_addCar_49
        · have h := if_t _ hc h
          refine lv_bipush (v := -2) hx hb dX2_addCar_36 ib_m2 ?_
          exact y_iretM h F hr hP hS mono.refl hlk dX2_addCar_38
def f_X2_stick (w : Wd) (a1 : Int32) (a2 : Int32) (a3 : Int32) : Option (Int32 × Wd) :=
q_gt w 6 7 (fun v_3 =>
if (f_X11_within a1 (0 : Int32) (v_3 - (1 : Int32))) = 0 then
some ((-2 : Int32), w)
else
if (f_X11_within a2 (0 : Int32) (2000 : Int32)) = 0 then
some ((-2 : Int32), w)
else
if (f_X11_within a3 (0 : Int32) (2000 : Int32)) = 0 then
some ((-2 : Int32), w)
else
if a2 < a3 then
q_st w 45 4 a1 a2 (fun w_50 =>
q_st w_50 46 4 a1 a3 (fun w_57 =>
some ((1 : Int32), w_57)))
else
some ((-2 : Int32), w))
set_option maxRecDepth 100000 in
set_option maxHeartbeats 4000000 in
theorem c_X2_stick (l : Launch) (D : va_G) (cT : Nat → ClassId) (lo : Nat) (w : Wd) (ad : Nat → Nat) (a1 : Int32) (a2 : Int32) (a3 : Int32) (r : Int32) (w9 : Wd) (h : f_X2_stick w a1 a2 a3 = some (r, w9)) : Met l yX2_stick (.code yX2_stick cX2_stick 4 (some .int) :: TW) { frames := 1, cells := 0, slots := 0, locals := 22 } (mPc D cT lo NB w ad [.ref (ad 6), .int a1, .int a2, .int a3]) (mQ D cT lo NB w w9 ad (some (.int r))) 0 0 (fun q => lo ≤ q) := by
  unfold f_X2_stick at h
  refine x_met (lv := [(0, .ref (ad 6)), (1, .int a1), (2, .int a2), (3, .int a3)]) (by decide +kernel) (Nat.le_of_ble_eq_true rfl) rfl ?_
  intro p e s m args below meth c ls F hr hlk hP hin hl
  have hx := F.1
  have hb := F.2.1
  have hS : va_S (fun q => lo ≤ q) s.heap s.heap [] := va_S.rf
  have hM_w : mono w w := mono.refl
  refine lv_iload_n hx hb dX2_stick_0 rfl (lv_at hl 1 rfl) ?_
  refine lv_iconst (v := 0) hx hb dX2_stick_1 ic_0 ?_
  refine lv_aload_n hx hb dX2_stick_2 rfl (lv_at hl 0 rfl) ?_
  refine y_geti h F hP k_6 (n2 (hP.al 6 rfl)) fl_X2_53 rfl dX2_stick_3 (fun v_3 h => ?_)
  refine lv_iconst (v := 1) hx hb dX2_stick_6 ic_1 ?_
  refine lv_isub hx hb dX2_stick_7 ?_
  refine x_goesZ (x_runSN (As := [.int a1, .int (0 : Int32), .int (v_3 - (1 : Int32))]) (rest := []) F hP hS (c_X11_within l D cT lo NB w ad a1 (0 : Int32) (v_3 - (1 : Int32))) cw_X11_within nl_X2_49 st_X11_within ⟨rfl, rfl, Nat.le_of_ble_eq_true rfl, Nat.le_of_ble_eq_true rfl⟩ hl.1 rfl (Nat.le_of_ble_eq_true rfl) dX2_stick_8 ⟨Nat.zero_le _, Nat.zero_le _⟩) hS (fun H locs hz_8 hP hS _ => ?_)
  refine lv_if_eq (tgt := 41) hx hb dX2_stick_11 (by decide) (fun hc => ?_) (fun hc => ?_)
  · have h := if_t _ hc h
    refine lv_bipush (v := -2) hx hb dX2_stick_41 ib_m2 ?_
    exact y_iretM h F hr hP hS mono.refl hlk dX2_stick_43
  · have h := if_f _ hc h
    refine lv_iload_n hx hb dX2_stick_14 rfl (lv_at hl 2 rfl) ?_
    refine lv_iconst (v := 0) hx hb dX2_stick_15 ic_0 ?_
    refine lv_sipush (v := 2000) hx hb dX2_stick_16 is_2000 ?_
    refine x_goesZ (x_runSN (As := [.int a2, .int (0 : Int32), .int (2000 : Int32)]) (rest := []) F hP hS (c_X11_within l D cT lo NB w ad a2 (0 : Int32) (2000 : Int32)) cw_X11_within nl_X2_49 st_X11_within ⟨rfl, rfl, Nat.le_of_ble_eq_true rfl, Nat.le_of_ble_eq_true rfl⟩ hl.1 rfl (Nat.le_of_ble_eq_true rfl) dX2_stick_19 ⟨Nat.zero_le _, Nat.zero_le _⟩) hS (fun H locs hz_19 hP hS _ => ?_)
    refine lv_if_eq (tgt := 41) hx hb dX2_stick_22 (by decide) (fun hc => ?_) (fun hc => ?_)
    · have h := if_t _ hc h
      refine lv_bipush (v := -2) hx hb dX2_stick_41 ib_m2 ?_
      exact y_iretM h F hr hP hS mono.refl hlk dX2_stick_43
    · have h := if_f _ hc h
      refine lv_iload_n hx hb dX2_stick_25 rfl (lv_at hl 3 rfl) ?_
      refine lv_iconst (v := 0) hx hb dX2_stick_26 ic_0 ?_
      refine lv_sipush (v := 2000) hx hb dX2_stick_27 is_2000 ?_
      refine x_goesZ (x_runSN (As := [.int a3, .int (0 : Int32), .int (2000 : Int32)]) (rest := []) F hP hS (c_X11_within l D cT lo NB w ad a3 (0 : Int32) (2000 : Int32)) cw_X11_within nl_X2_49 st_X11_within ⟨rfl, rfl, Nat.le_of_ble_eq_true rfl, Nat.le_of_ble_eq_true rfl⟩ hl.1 rfl (Nat.le_of_ble_eq_true rfl) dX2_stick_30 ⟨Nat.zero_le _, Nat.zero_le _⟩) hS (fun H locs hz_30 hP hS _ => ?_)
      refine lv_if_eq (tgt := 41) hx hb dX2_stick_33 (by decide) (fun hc => ?_) (fun hc => ?_)
      · have h := if_t _ hc h
        refine lv_bipush (v := -2) hx hb dX2_stick_41 ib_m2 ?_
        exact y_iretM h F hr hP hS mono.refl hlk dX2_stick_43
      · have h := if_f _ hc h
        refine lv_iload_n hx hb dX2_stick_36 rfl (lv_at hl 2 rfl) ?_
        refine lv_iload_n hx hb dX2_stick_37 rfl (lv_at hl 3 rfl) ?_
        refine lv_icmp_lt (tgt := 44) hx hb dX2_stick_38 (by decide) (fun hc => ?_) (fun hc => ?_)
        · have h := if_t _ hc h
          refine lv_aload_n hx hb dX2_stick_44 rfl (lv_at hl 0 rfl) ?_
          refine x_getr F hP k_6 (hP.al 6 rfl) fl_X2_28 rfl r_6_5 dX2_stick_45 ?_
          refine lv_iload_n hx hb dX2_stick_48 rfl (lv_at hl 1 rfl) ?_
          refine lv_iload_n hx hb dX2_stick_49 rfl (lv_at hl 2 rfl) ?_
          refine y_iast h F hP hS k_45 (n2 (hP.al 45 rfl)) dX2_stick_50 (fun w_50 H locs hm h hP hS => ?_)
          have hM_w := hm
          refine lv_aload_n hx hb dX2_stick_51 rfl (lv_at hl 0 rfl) ?_
          refine x_getr F hP k_6 (hP.al 6 rfl) fl_X2_31 rfl r_6_6 dX2_stick_52 ?_
          refine lv_iload_n hx hb dX2_stick_55 rfl (lv_at hl 1 rfl) ?_
          refine lv_iload_n hx hb dX2_stick_56 rfl (lv_at hl 3 rfl) ?_
          refine y_iast h F hP hS k_46 (n2 (hP.al 46 rfl)) dX2_stick_57 (fun w_57 H locs hm h hP hS => ?_)
          have hM_w := hM_w.trans hm
          refine lv_iconst (v := 1) hx hb dX2_stick_58 ic_1 ?_
          exact y_iretM h F hr hP hS hM_w hlk dX2_stick_59
        · have h := if_f _ hc h
          refine lv_bipush (v := -2) hx hb dX2_stick_41 ib_m2 ?_
          exact y_iretM h F hr hP hS mono.refl hlk dX2_stick_43
def f_X2_clearCars (w : Wd) : Option (Int32 × Wd) :=
q_gt w 6 7 (fun v_1 =>
q_pt w 6 7 (0 : Int32) (fun w_7 =>
some (v_1, w_7)))
set_option maxRecDepth 100000 in
set_option maxHeartbeats 4000000 in
theorem c_X2_clearCars (l : Launch) (D : va_G) (cT : Nat → ClassId) (lo : Nat) (w : Wd) (ad : Nat → Nat)  (r : Int32) (w9 : Wd) (h : f_X2_clearCars w = some (r, w9)) : Met l yX2_clearCars (.code yX2_clearCars cX2_clearCars 2 (some .int) :: TW) { frames := 0, cells := 0, slots := 0, locals := 0 } (mPc D cT lo NB w ad [.ref (ad 6)]) (mQ D cT lo NB w w9 ad (some (.int r))) 0 0 (fun q => lo ≤ q) := by
  unfold f_X2_clearCars at h
  refine x_met (lv := [(0, .ref (ad 6))]) (by decide +kernel) (Nat.le_of_ble_eq_true rfl) rfl ?_
  intro p e s m args below meth c ls F hr hlk hP hin hl
  have hx := F.1
  have hb := F.2.1
  have hS : va_S (fun q => lo ≤ q) s.heap s.heap [] := va_S.rf
  have hM_w : mono w w := mono.refl
  refine lv_aload_n hx hb dX2_clearCars_0 rfl (lv_at hl 0 rfl) ?_
  refine y_geti h F hP k_6 (n2 (hP.al 6 rfl)) fl_X2_53 rfl dX2_clearCars_1 (fun v_1 h => ?_)
  refine lv_istore_n (lv' := [(1, .int v_1), (0, .ref (ad 6))]) hx hb dX2_clearCars_4 rfl hl (Nat.le_of_ble_eq_true rfl) rfl (fun ls hl => ?_)
  refine lv_aload_n hx hb dX2_clearCars_5 rfl (lv_at hl 1 rfl) ?_
  refine lv_iconst (v := 0) hx hb dX2_clearCars_6 ic_0 ?_
  refine y_puti h F hP hS k_6 (n2 (hP.al 6 rfl)) fl_X2_53 rfl dX2_clearCars_7 (fun w_7 H locs hm h hP hS => ?_)
  have hM_w := hm
  refine lv_iload_n hx hb dX2_clearCars_10 rfl (lv_at hl 0 rfl) ?_
  exact y_iretM h F hr hP hS hM_w hlk dX2_clearCars_11
def l_X2_hasRoom_4 (a1 : Int32) (w : Wd) (j_31 : Int32 → Option Int32) : Nat → Int32 → Int32 → Option Int32
  | 0, _, _ => none
  | n_4 + 1, x3_4l, x2_4l =>
    q_gt w 6 7 (fun v_6 =>
    if v_6 ≤ x3_4l then
    j_31 x2_4l
    else
    q_ld w 47 4 x3_4l (fun v_17 =>
    q_jn (fun (x2_25 : Int32) =>
    q_lt (x3_4l + (1 : Int32)) (fun v_25 =>
    l_X2_hasRoom_4 a1 w j_31 n_4 v_25 x2_25)) (fun j_25 =>
    if v_17 = a1 then
    q_lt (x2_4l + (1 : Int32)) (fun v_22 =>
    j_25 v_22)
    else
    j_25 x2_4l)))
def f_X2_hasRoom (w : Wd) (a1 : Int32) : Option Int32 :=
q_jn (fun (x2_31 : Int32) =>
q_ld w 41 20 a1 (fun v_37 =>
q_jn (fun (s0_46 : Int32) =>
if s0_46 ≤ x2_31 then
some (0 : Int32)
else
some (1 : Int32)) (fun j_46 =>
if v_37 = 0 then
j_46 (1 : Int32)
else
j_46 (2 : Int32)))) (fun j_31 =>
l_X2_hasRoom_4 a1 w j_31 FU (0 : Int32) (0 : Int32))
set_option maxRecDepth 100000 in
set_option maxHeartbeats 4000000 in
theorem c_X2_hasRoom (l : Launch) (D : va_G) (cT : Nat → ClassId) (lo : Nat) (w : Wd) (ad : Nat → Nat) (a1 : Int32) (r : Int32) (h : f_X2_hasRoom w a1 = some r) : Met l yX2_hasRoom (.code yX2_hasRoom cX2_hasRoom 4 (some .boolean) :: TW) { frames := 0, cells := 0, slots := 0, locals := 0 } (mPc D cT lo NB w ad [.ref (ad 6), .int a1]) (mQz D cT lo NB w w ad r) 0 0 (fun q => lo ≤ q) := by
  unfold f_X2_hasRoom at h
  refine x_met (lv := [(0, .ref (ad 6)), (1, .int a1)]) (by decide +kernel) (Nat.le_of_ble_eq_true rfl) rfl ?_
  intro p e s m args below meth c ls F hr hlk hP hin hl
  have hx := F.1
  have hb := F.2.1
  have hS : va_S (fun q => lo ≤ q) s.heap s.heap [] := va_S.rf
  refine lv_iconst (v := 0) hx hb dX2_hasRoom_0 ic_0 ?_
  refine lv_istore_n (lv' := [(2, .int (0 : Int32)), (0, .ref (ad 6)), (1, .int a1)]) hx hb dX2_hasRoom_1 rfl hl (Nat.le_of_ble_eq_true rfl) rfl (fun ls hl => ?_)
  refine lv_iconst (v := 0) hx hb dX2_hasRoom_2 ic_0 ?_
  refine lv_istore_n (lv' := [(3, .int (0 : Int32)), (2, .int (0 : Int32)), (0, .ref (ad 6)), (1, .int a1)]) hx hb dX2_hasRoom_3 rfl hl (Nat.le_of_ble_eq_true rfl) rfl (fun ls hl => ?_)
  refine jn_use (fun (j_31 : Int32 → Option Int32) => ∀ (x2_31 : Int32), j_31 x2_31 = some r → GG p l e { frames := 0, cells := 0, slots := 0, locals := 0 } s m args below meth c 0 0 (MQ below (mQz D cT lo NB w w ad r) args s 0 0 (fun q => lo ≤ q)) D cT lo NB 4 ad w 31 [(2, .int x2_31), (0, .ref (ad 6)), (1, .int a1)] []) h (fun x2_31 h H locs ls hP hS hl => ?_) (fun j_31 J_31 h => ?_)
  · refine lv_iload_n hx hb dX2_hasRoom_31 rfl (lv_at hl 0 rfl) ?_
    refine lv_aload_n hx hb dX2_hasRoom_32 rfl (lv_at hl 1 rfl) ?_
    refine x_getr F hP k_6 (hP.al 6 rfl) fl_X2_15 rfl r_6_1 dX2_hasRoom_33 ?_
    refine lv_iload_n hx hb dX2_hasRoom_36 rfl (lv_at hl 2 rfl) ?_
    refine y_zald h F hP k_41 (n2 (hP.al 41 rfl)) dX2_hasRoom_37 (fun v_37 h => ?_)
    refine jn_use (fun (j_46 : Int32 → Option Int32) => ∀ (s0_46 : Int32), j_46 s0_46 = some r → GG p l e { frames := 0, cells := 0, slots := 0, locals := 0 } s m args below meth c 0 0 (MQ below (mQz D cT lo NB w w ad r) args s 0 0 (fun q => lo ≤ q)) D cT lo NB 4 ad w 46 [] [.int s0_46, .int x2_31]) h (fun s0_46 h H locs ls hP hS hl => ?_) (fun j_46 J_46 h => ?_)
    · refine lv_icmp_ge (tgt := 53) hx hb dX2_hasRoom_46 (by decide) (fun hc => ?_) (fun hc => ?_)
      · have h := if_t _ hc h
        refine lv_iconst (v := 0) hx hb dX2_hasRoom_53 ic_0 ?_
        exact y_zretO h F hr hP hS hlk rfl dX2_hasRoom_54
      · have h := if_f _ hc h
        refine lv_iconst (v := 1) hx hb dX2_hasRoom_49 ic_1 ?_
        refine lv_goto (tgt := 54) hx hb dX2_hasRoom_50 (by decide) ?_
        exact y_zretO h F hr hP hS hlk rfl dX2_hasRoom_54
    · refine lv_if_eq (tgt := 45) hx hb dX2_hasRoom_38 (by decide) (fun hc => ?_) (fun hc => ?_)
      · have h := if_t _ hc h
        refine lv_iconst (v := 1) hx hb dX2_hasRoom_45 ic_1 ?_
        exact J_46 (1 : Int32) h _ _ _ hP hS (lv_sub hl [] rfl)
      · have h := if_f _ hc h
        refine lv_iconst (v := 2) hx hb dX2_hasRoom_41 ic_2 ?_
        refine lv_goto (tgt := 46) hx hb dX2_hasRoom_42 (by decide) ?_
        exact J_46 (2 : Int32) h _ _ _ hP hS (lv_sub hl [] rfl)
  · have L_4 : ∀ (n_4 : Nat) (x3_4l : Int32) (x2_4l : Int32), l_X2_hasRoom_4 a1 w j_31 n_4 x3_4l x2_4l = some r → GG p l e { frames := 0, cells := 0, slots := 0, locals := 0 } s m args below meth c 0 0 (MQ below (mQz D cT lo NB w w ad r) args s 0 0 (fun q => lo ≤ q)) D cT lo NB 4 ad w 4 [(3, .int x3_4l), (2, .int x2_4l), (0, .ref (ad 6)), (1, .int a1)] [] := by
      intro n_4
      induction n_4 with
      | zero =>
        intro x3_4l x2_4l h
        exact absurd h (by unfold l_X2_hasRoom_4; exact fun z => by cases z)
      | succ n_4 ih_4 =>
        intro x3_4l x2_4l h H locs ls hP hS hl
        unfold l_X2_hasRoom_4 at h
        refine lv_iload_n hx hb dX2_hasRoom_4 rfl (lv_at hl 0 rfl) ?_
        refine lv_aload_n hx hb dX2_hasRoom_5 rfl (lv_at hl 2 rfl) ?_
        refine y_geti h F hP k_6 (n2 (hP.al 6 rfl)) fl_X2_53 rfl dX2_hasRoom_6 (fun v_6 h => ?_)
        refine lv_icmp_ge (tgt := 31) hx hb dX2_hasRoom_9 (by decide) (fun hc => ?_) (fun hc => ?_)
        · have h := if_t _ hc h
          exact J_31 x2_4l h _ _ _ hP hS (lv_sub hl [1, 2, 3] rfl)
        · have h := if_f _ hc h
          refine lv_aload_n hx hb dX2_hasRoom_12 rfl (lv_at hl 2 rfl) ?_
          refine x_getr F hP k_6 (hP.al 6 rfl) fl_X2_34 rfl r_6_8 dX2_hasRoom_13 ?_
          refine lv_iload_n hx hb dX2_hasRoom_16 rfl (lv_at hl 0 rfl) ?_
          refine y_iald h F hP k_47 (n2 (hP.al 47 rfl)) dX2_hasRoom_17 (fun v_17 h => ?_)
          refine lv_iload_n hx hb dX2_hasRoom_18 rfl (lv_at hl 3 rfl) ?_
          refine jn_use (fun (j_25 : Int32 → Option Int32) => ∀ (x2_25 : Int32), j_25 x2_25 = some r → GG p l e { frames := 0, cells := 0, slots := 0, locals := 0 } s m args below meth c 0 0 (MQ below (mQz D cT lo NB w w ad r) args s 0 0 (fun q => lo ≤ q)) D cT lo NB 4 ad w 25 [(3, .int x3_4l), (2, .int x2_25), (0, .ref (ad 6)), (1, .int a1)] []) h (fun x2_25 h H locs ls hP hS hl => ?_) (fun j_25 J_25 h => ?_)
          · refine y_iinc (lv' := fun (v_25 : Int32) => [(3, .int v_25), (2, .int x2_25), (0, .ref (ad 6)), (1, .int a1)]) h F ic_1 dX2_hasRoom_25 hl (kq := 0) rfl (Nat.le_of_ble_eq_true rfl) (fun _ => rfl) (fun v_25 ls hl h => ?_)
            refine lv_goto (tgt := 4) hx hb dX2_hasRoom_28 (by decide) ?_
            exact ih_4 v_25 x2_25 h _ _ _ hP hS (lv_sub hl [0, 1, 2, 3] rfl)
          · refine lv_icmp_ne (tgt := 25) hx hb dX2_hasRoom_19 (by decide) (fun hc => ?_) (fun hc => ?_)
            · have h := if_f _ hc h
              exact J_25 x2_4l h _ _ _ hP hS (lv_sub hl [0, 1, 2, 3] rfl)
            · have h := if_t _ hc h
              refine y_iinc (lv' := fun (v_22 : Int32) => [(2, .int v_22), (3, .int x3_4l), (0, .ref (ad 6)), (1, .int a1)]) h F ic_1 dX2_hasRoom_22 hl (kq := 1) rfl (Nat.le_of_ble_eq_true rfl) (fun _ => rfl) (fun v_22 ls hl h => ?_)
              exact J_25 v_22 h _ _ _ hP hS (lv_sub hl [1, 0, 2, 3] rfl)
    exact L_4 FU (0 : Int32) (0 : Int32) h _ _ _ hP hS (lv_sub hl [0, 1, 2, 3] rfl)
def f_X2_enterBlock (w : Wd) (a1 : Int32) (a2 : Int32) (a3 : Int32) : Option Wd :=
if (f_X11_within a2 (0 : Int32) (19 : Int32)) = 0 then
some w
else
q_bo (f_X2_hasRoom w a2) (fun v_12 =>
if v_12 = 0 then
some w
else
q_st w 47 4 a1 a2 (fun w_24 =>
q_st w_24 48 4 a1 a3 (fun w_31 =>
some w_31)))
set_option maxRecDepth 100000 in
set_option maxHeartbeats 4000000 in
theorem c_X2_enterBlock (l : Launch) (D : va_G) (cT : Nat → ClassId) (lo : Nat) (w : Wd) (ad : Nat → Nat) (a1 : Int32) (a2 : Int32) (a3 : Int32) (w9 : Wd) (h : f_X2_enterBlock w a1 a2 a3 = some w9) : Met l yX2_enterBlock (.code yX2_enterBlock cX2_enterBlock 4 none :: TW) { frames := 1, cells := 0, slots := 0, locals := 23 } (mPc D cT lo NB w ad [.ref (ad 6), .int a1, .int a2, .int a3]) (mQ D cT lo NB w w9 ad none) 0 0 (fun q => lo ≤ q) := by
  unfold f_X2_enterBlock at h
  refine x_met (lv := [(0, .ref (ad 6)), (1, .int a1), (2, .int a2), (3, .int a3)]) (by decide +kernel) (Nat.le_of_ble_eq_true rfl) rfl ?_
  intro p e s m args below meth c ls F hr hlk hP hin hl
  have hx := F.1
  have hb := F.2.1
  have hS : va_S (fun q => lo ≤ q) s.heap s.heap [] := va_S.rf
  have hM_w : mono w w := mono.refl
  refine lv_iload_n hx hb dX2_enterBlock_0 rfl (lv_at hl 2 rfl) ?_
  refine lv_iconst (v := 0) hx hb dX2_enterBlock_1 ic_0 ?_
  refine lv_bipush (v := 19) hx hb dX2_enterBlock_2 ib_19 ?_
  refine x_goesZ (x_runSN (As := [.int a2, .int (0 : Int32), .int (19 : Int32)]) (rest := []) F hP hS (c_X11_within l D cT lo NB w ad a2 (0 : Int32) (19 : Int32)) cw_X11_within nl_X2_49 st_X11_within ⟨rfl, rfl, Nat.le_of_ble_eq_true rfl, Nat.le_of_ble_eq_true rfl⟩ hl.1 rfl (Nat.le_of_ble_eq_true rfl) dX2_enterBlock_4 ⟨Nat.zero_le _, Nat.zero_le _⟩) hS (fun H locs hz_4 hP hS _ => ?_)
  refine lv_if_eq (tgt := 32) hx hb dX2_enterBlock_7 (by decide) (fun hc => ?_) (fun hc => ?_)
  · have h := if_t _ hc h
    exact y_vret h F hr hP hS mono.refl hlk dX2_enterBlock_32
  · have h := if_f _ hc h
    refine lv_aload_n hx hb dX2_enterBlock_10 rfl (lv_at hl 0 rfl) ?_
    refine lv_iload_n hx hb dX2_enterBlock_11 rfl (lv_at hl 2 rfl) ?_
    obtain ⟨v_12, hc_12, h⟩ := bo_s h
    refine x_goesZ (x_runV (As := [.int a2]) (rest := []) F hP hS (c_X2_hasRoom l D cT lo w ad a2 v_12 hc_12) cw_X2_hasRoom lk_X2_73 vi_X2_hasRoom k_6 (n2 (hP.al 6 rfl)) rfl ⟨rfl, rfl, Nat.le_of_ble_eq_true rfl, Nat.le_of_ble_eq_true rfl⟩ hl.1 rfl (Nat.le_of_ble_eq_true rfl) dX2_enterBlock_12 ⟨Nat.zero_le _, Nat.zero_le _⟩) hS (fun H locs hz_12 hP hS _ => ?_)
    refine lv_if_eq (tgt := 32) hx hb dX2_enterBlock_15 (by decide) (fun hc => ?_) (fun hc => ?_)
    · have h := if_t _ hc h
      exact y_vret h F hr hP hS mono.refl hlk dX2_enterBlock_32
    · have h := if_f _ hc h
      refine lv_aload_n hx hb dX2_enterBlock_18 rfl (lv_at hl 0 rfl) ?_
      refine x_getr F hP k_6 (hP.al 6 rfl) fl_X2_34 rfl r_6_8 dX2_enterBlock_19 ?_
      refine lv_iload_n hx hb dX2_enterBlock_22 rfl (lv_at hl 1 rfl) ?_
      refine lv_iload_n hx hb dX2_enterBlock_23 rfl (lv_at hl 2 rfl) ?_
      refine y_iast h F hP hS k_47 (n2 (hP.al 47 rfl)) dX2_enterBlock_24 (fun w_24 H locs hm h hP hS => ?_)
      have hM_w := hm
      refine lv_aload_n hx hb dX2_enterBlock_25 rfl (lv_at hl 0 rfl) ?_
      refine x_getr F hP k_6 (hP.al 6 rfl) fl_X2_37 rfl r_6_9 dX2_enterBlock_26 ?_
      refine lv_iload_n hx hb dX2_enterBlock_29 rfl (lv_at hl 1 rfl) ?_
      refine lv_iload_n hx hb dX2_enterBlock_30 rfl (lv_at hl 3 rfl) ?_
      refine y_iast h F hP hS k_48 (n2 (hP.al 48 rfl)) dX2_enterBlock_31 (fun w_31 H locs hm h hP hS => ?_)
      have hM_w := hM_w.trans hm
      exact y_vret h F hr hP hS hM_w hlk dX2_enterBlock_32
def f_X2_hasStayed (w : Wd) (a1 : Int32) (a2 : Int32) : Option Int32 :=
q_ld w 47 4 a1 (fun v_5 =>
if (f_X11_within v_5 (0 : Int32) (19 : Int32)) = 0 then
some (0 : Int32)
else
q_ld w 48 4 a1 (fun v_23 =>
q_ld w 40 20 v_5 (fun v_30 =>
if (a2 - v_23) < v_30 then
some (0 : Int32)
else
some (1 : Int32))))
set_option maxRecDepth 100000 in
set_option maxHeartbeats 4000000 in
theorem c_X2_hasStayed (l : Launch) (D : va_G) (cT : Nat → ClassId) (lo : Nat) (w : Wd) (ad : Nat → Nat) (a1 : Int32) (a2 : Int32) (r : Int32) (h : f_X2_hasStayed w a1 a2 = some r) : Met l yX2_hasStayed (.code yX2_hasStayed cX2_hasStayed 4 (some .boolean) :: TW) { frames := 1, cells := 0, slots := 0, locals := 22 } (mPc D cT lo NB w ad [.ref (ad 6), .int a1, .int a2]) (mQz D cT lo NB w w ad r) 0 0 (fun q => lo ≤ q) := by
  unfold f_X2_hasStayed at h
  refine x_met (lv := [(0, .ref (ad 6)), (1, .int a1), (2, .int a2)]) (by decide +kernel) (Nat.le_of_ble_eq_true rfl) rfl ?_
  intro p e s m args below meth c ls F hr hlk hP hin hl
  have hx := F.1
  have hb := F.2.1
  have hS : va_S (fun q => lo ≤ q) s.heap s.heap [] := va_S.rf
  refine lv_aload_n hx hb dX2_hasStayed_0 rfl (lv_at hl 0 rfl) ?_
  refine x_getr F hP k_6 (hP.al 6 rfl) fl_X2_34 rfl r_6_8 dX2_hasStayed_1 ?_
  refine lv_iload_n hx hb dX2_hasStayed_4 rfl (lv_at hl 1 rfl) ?_
  refine y_iald h F hP k_47 (n2 (hP.al 47 rfl)) dX2_hasStayed_5 (fun v_5 h => ?_)
  refine lv_istore_n (lv' := [(3, .int v_5), (0, .ref (ad 6)), (1, .int a1), (2, .int a2)]) hx hb dX2_hasStayed_6 rfl hl (Nat.le_of_ble_eq_true rfl) rfl (fun ls hl => ?_)
  refine lv_iload_n hx hb dX2_hasStayed_7 rfl (lv_at hl 0 rfl) ?_
  refine lv_iconst (v := 0) hx hb dX2_hasStayed_8 ic_0 ?_
  refine lv_bipush (v := 19) hx hb dX2_hasStayed_9 ib_19 ?_
  refine x_goesZ (x_runSN (As := [.int v_5, .int (0 : Int32), .int (19 : Int32)]) (rest := []) F hP hS (c_X11_within l D cT lo NB w ad v_5 (0 : Int32) (19 : Int32)) cw_X11_within nl_X2_49 st_X11_within ⟨rfl, rfl, Nat.le_of_ble_eq_true rfl, Nat.le_of_ble_eq_true rfl⟩ hl.1 rfl (Nat.le_of_ble_eq_true rfl) dX2_hasStayed_11 ⟨Nat.zero_le _, Nat.zero_le _⟩) hS (fun H locs hz_11 hP hS _ => ?_)
  refine lv_if_eq (tgt := 38) hx hb dX2_hasStayed_14 (by decide) (fun hc => ?_) (fun hc => ?_)
  · have h := if_t _ hc h
    refine lv_iconst (v := 0) hx hb dX2_hasStayed_38 ic_0 ?_
    exact y_zretO h F hr hP hS hlk rfl dX2_hasStayed_39
  · have h := if_f _ hc h
    refine lv_iload_n hx hb dX2_hasStayed_17 rfl (lv_at hl 3 rfl) ?_
    refine lv_aload_n hx hb dX2_hasStayed_18 rfl (lv_at hl 1 rfl) ?_
    refine x_getr F hP k_6 (hP.al 6 rfl) fl_X2_37 rfl r_6_9 dX2_hasStayed_19 ?_
    refine lv_iload_n hx hb dX2_hasStayed_22 rfl (lv_at hl 2 rfl) ?_
    refine y_iald h F hP k_48 (n2 (hP.al 48 rfl)) dX2_hasStayed_23 (fun v_23 h => ?_)
    refine lv_isub hx hb dX2_hasStayed_24 ?_
    refine lv_aload_n hx hb dX2_hasStayed_25 rfl (lv_at hl 1 rfl) ?_
    refine x_getr F hP k_6 (hP.al 6 rfl) fl_X2_11 rfl r_6_0 dX2_hasStayed_26 ?_
    refine lv_iload_n hx hb dX2_hasStayed_29 rfl (lv_at hl 0 rfl) ?_
    refine y_iald h F hP k_40 (n2 (hP.al 40 rfl)) dX2_hasStayed_30 (fun v_30 h => ?_)
    refine lv_icmp_lt (tgt := 38) hx hb dX2_hasStayed_31 (by decide) (fun hc => ?_) (fun hc => ?_)
    · have h := if_t _ hc h
      refine lv_iconst (v := 0) hx hb dX2_hasStayed_38 ic_0 ?_
      exact y_zretO h F hr hP hS hlk rfl dX2_hasStayed_39
    · have h := if_f _ hc h
      refine lv_iconst (v := 1) hx hb dX2_hasStayed_34 ic_1 ?_
      refine lv_goto (tgt := 39) hx hb dX2_hasStayed_35 (by decide) ?_
      exact y_zretO h F hr hP hS hlk rfl dX2_hasStayed_39
def f_X2_pass (w : Wd) (a1 : Int32) (a2 : Int32) : Option Wd :=
q_ld w 47 4 a1 (fun v_5 =>
if v_5 = (100 : Int32) then
q_ld w 44 4 a1 (fun v_19 =>
if a2 < v_19 then
some w
else
q_ld w 42 4 a1 (fun v_30 =>
q_bo (f_X2_enterBlock w a1 v_30 a2) (fun w_32 =>
some w_32)))
else
if v_5 = (101 : Int32) then
some w
else
q_bo (f_X2_hasStayed w a1 a2) (fun v_47 =>
if v_47 = 0 then
some w
else
q_ld w 43 4 a1 (fun v_59 =>
if v_5 = v_59 then
q_st w 47 4 a1 (101 : Int32) (fun w_70 =>
q_st w_70 49 4 a1 a2 (fun w_77 =>
some w_77))
else
q_ld w 43 4 a1 (fun v_89 =>
q_jn (fun (s0_102 : Int32) =>
q_bo (f_X2_enterBlock w a1 s0_102 a2) (fun w_103 =>
some w_103)) (fun j_102 =>
if v_89 ≤ v_5 then
j_102 (v_5 - (1 : Int32))
else
j_102 (v_5 + (1 : Int32)))))))
set_option maxRecDepth 100000 in
set_option maxHeartbeats 4000000 in
theorem c_X2_pass (l : Launch) (D : va_G) (cT : Nat → ClassId) (lo : Nat) (w : Wd) (ad : Nat → Nat) (a1 : Int32) (a2 : Int32) (w9 : Wd) (h : f_X2_pass w a1 a2 = some w9) : Met l yX2_pass (.code yX2_pass cX2_pass 4 none :: TW) { frames := 2, cells := 0, slots := 0, locals := 46 } (mPc D cT lo NB w ad [.ref (ad 6), .int a1, .int a2]) (mQ D cT lo NB w w9 ad none) 0 0 (fun q => lo ≤ q) := by
  unfold f_X2_pass at h
  refine x_met (lv := [(0, .ref (ad 6)), (1, .int a1), (2, .int a2)]) (by decide +kernel) (Nat.le_of_ble_eq_true rfl) rfl ?_
  intro p e s m args below meth c ls F hr hlk hP hin hl
  have hx := F.1
  have hb := F.2.1
  have hS : va_S (fun q => lo ≤ q) s.heap s.heap [] := va_S.rf
  have hM_w : mono w w := mono.refl
  refine lv_aload_n hx hb dX2_pass_0 rfl (lv_at hl 0 rfl) ?_
  refine x_getr F hP k_6 (hP.al 6 rfl) fl_X2_34 rfl r_6_8 dX2_pass_1 ?_
  refine lv_iload_n hx hb dX2_pass_4 rfl (lv_at hl 1 rfl) ?_
  refine y_iald h F hP k_47 (n2 (hP.al 47 rfl)) dX2_pass_5 (fun v_5 h => ?_)
  refine lv_istore_n (lv' := [(3, .int v_5), (0, .ref (ad 6)), (1, .int a1), (2, .int a2)]) hx hb dX2_pass_6 rfl hl (Nat.le_of_ble_eq_true rfl) rfl (fun ls hl => ?_)
  refine lv_iload_n hx hb dX2_pass_7 rfl (lv_at hl 0 rfl) ?_
  refine lv_bipush (v := 100) hx hb dX2_pass_8 ib_100 ?_
  refine lv_icmp_ne (tgt := 38) hx hb dX2_pass_10 (by decide) (fun hc => ?_) (fun hc => ?_)
  · have h := if_f _ hc h
    refine lv_iload_n hx hb dX2_pass_38 rfl (lv_at hl 0 rfl) ?_
    refine lv_bipush (v := 101) hx hb dX2_pass_39 ib_101 ?_
    refine lv_icmp_eq (tgt := 106) hx hb dX2_pass_41 (by decide) (fun hc => ?_) (fun hc => ?_)
    · have h := if_t _ hc h
      exact y_vret h F hr hP hS mono.refl hlk dX2_pass_106
    · have h := if_f _ hc h
      refine lv_aload_n hx hb dX2_pass_44 rfl (lv_at hl 1 rfl) ?_
      refine lv_iload_n hx hb dX2_pass_45 rfl (lv_at hl 2 rfl) ?_
      refine lv_iload_n hx hb dX2_pass_46 rfl (lv_at hl 3 rfl) ?_
      obtain ⟨v_47, hc_47, h⟩ := bo_s h
      refine x_goesZ (x_runV (As := [.int a1, .int a2]) (rest := []) F hP hS (c_X2_hasStayed l D cT lo w ad a1 a2 v_47 hc_47) cw_X2_hasStayed lk_X2_69 vi_X2_hasStayed k_6 (n2 (hP.al 6 rfl)) rfl ⟨rfl, rfl, Nat.le_of_ble_eq_true rfl, Nat.le_of_ble_eq_true rfl⟩ hl.1 rfl (Nat.le_of_ble_eq_true rfl) dX2_pass_47 ⟨Nat.zero_le _, Nat.zero_le _⟩) hS (fun H locs hz_47 hP hS _ => ?_)
      refine lv_if_eq (tgt := 106) hx hb dX2_pass_50 (by decide) (fun hc => ?_) (fun hc => ?_)
      · have h := if_t _ hc h
        exact y_vret h F hr hP hS mono.refl hlk dX2_pass_106
      · have h := if_f _ hc h
        refine lv_iload_n hx hb dX2_pass_53 rfl (lv_at hl 0 rfl) ?_
        refine lv_aload_n hx hb dX2_pass_54 rfl (lv_at hl 1 rfl) ?_
        refine x_getr F hP k_6 (hP.al 6 rfl) fl_X2_22 rfl r_6_3 dX2_pass_55 ?_
        refine lv_iload_n hx hb dX2_pass_58 rfl (lv_at hl 2 rfl) ?_
        refine y_iald h F hP k_43 (n2 (hP.al 43 rfl)) dX2_pass_59 (fun v_59 h => ?_)
        refine lv_icmp_ne (tgt := 81) hx hb dX2_pass_60 (by decide) (fun hc => ?_) (fun hc => ?_)
        · have h := if_f _ hc h
          refine lv_aload_n hx hb dX2_pass_81 rfl (lv_at hl 1 rfl) ?_
          refine lv_iload_n hx hb dX2_pass_82 rfl (lv_at hl 2 rfl) ?_
          refine lv_iload_n hx hb dX2_pass_83 rfl (lv_at hl 0 rfl) ?_
          refine lv_aload_n hx hb dX2_pass_84 rfl (lv_at hl 1 rfl) ?_
          refine x_getr F hP k_6 (hP.al 6 rfl) fl_X2_22 rfl r_6_3 dX2_pass_85 ?_
          refine lv_iload_n hx hb dX2_pass_88 rfl (lv_at hl 2 rfl) ?_
          refine y_iald h F hP k_43 (n2 (hP.al 43 rfl)) dX2_pass_89 (fun v_89 h => ?_)
          refine jn_use (fun (j_102 : Int32 → Option Wd) => ∀ (s0_102 : Int32), j_102 s0_102 = some w9 → GG p l e { frames := 2, cells := 0, slots := 0, locals := 46 } s m args below meth c 0 0 (MQ below (mQ D cT lo NB w w9 ad none) args s 0 0 (fun q => lo ≤ q)) D cT lo NB 4 ad w 102 [(2, .int a2)] [.int s0_102, .int a1, .ref (ad 6)]) h (fun s0_102 h H locs ls hP hS hl => ?_) (fun j_102 J_102 h => ?_)
          · refine lv_iload_n hx hb dX2_pass_102 rfl (lv_at hl 0 rfl) ?_
            obtain ⟨w_103, hc_103, h⟩ := bo_s h
            refine x_goes (x_runV (As := [.int a1, .int s0_102, .int a2]) (rest := []) F hP hS (c_X2_enterBlock l D cT lo w ad a1 s0_102 a2 w_103 hc_103) cw_X2_enterBlock lk_X2_65 vi_X2_enterBlock k_6 (n2 (hP.al 6 rfl)) rfl ⟨rfl, rfl, Nat.le_of_ble_eq_true rfl, Nat.le_of_ble_eq_true rfl⟩ hl.1 rfl (Nat.le_of_ble_eq_true rfl) dX2_pass_103 ⟨Nat.zero_le _, Nat.zero_le _⟩) hS (fun H locs hP hS hm => ?_)
            have hM_w := hm
            exact y_vret h F hr hP hS hM_w hlk dX2_pass_106
          · refine lv_icmp_ge (tgt := 99) hx hb dX2_pass_90 (by decide) (fun hc => ?_) (fun hc => ?_)
            · have h := if_t _ hc h
              refine lv_iload_n hx hb dX2_pass_99 rfl (lv_at hl 0 rfl) ?_
              refine lv_iconst (v := 1) hx hb dX2_pass_100 ic_1 ?_
              refine lv_isub hx hb dX2_pass_101 ?_
              exact J_102 (v_5 - (1 : Int32)) h _ _ _ hP hS (lv_sub hl [3] rfl)
            · have h := if_f _ hc h
              refine lv_iload_n hx hb dX2_pass_93 rfl (lv_at hl 0 rfl) ?_
              refine lv_iconst (v := 1) hx hb dX2_pass_94 ic_1 ?_
              refine lv_iadd hx hb dX2_pass_95 ?_
              refine lv_goto (tgt := 102) hx hb dX2_pass_96 (by decide) ?_
              exact J_102 (v_5 + (1 : Int32)) h _ _ _ hP hS (lv_sub hl [3] rfl)
        · have h := if_t _ hc h
          refine lv_aload_n hx hb dX2_pass_63 rfl (lv_at hl 1 rfl) ?_
          refine x_getr F hP k_6 (hP.al 6 rfl) fl_X2_34 rfl r_6_8 dX2_pass_64 ?_
          refine lv_iload_n hx hb dX2_pass_67 rfl (lv_at hl 2 rfl) ?_
          refine lv_bipush (v := 101) hx hb dX2_pass_68 ib_101 ?_
          refine y_iast h F hP hS k_47 (n2 (hP.al 47 rfl)) dX2_pass_70 (fun w_70 H locs hm h hP hS => ?_)
          have hM_w := hm
          refine lv_aload_n hx hb dX2_pass_71 rfl (lv_at hl 1 rfl) ?_
          refine x_getr F hP k_6 (hP.al 6 rfl) fl_X2_40 rfl r_6_10 dX2_pass_72 ?_
          refine lv_iload_n hx hb dX2_pass_75 rfl (lv_at hl 2 rfl) ?_
          refine lv_iload_n hx hb dX2_pass_76 rfl (lv_at hl 3 rfl) ?_
          refine y_iast h F hP hS k_49 (n2 (hP.al 49 rfl)) dX2_pass_77 (fun w_77 H locs hm h hP hS => ?_)
          have hM_w := hM_w.trans hm
          refine lv_goto (tgt := 106) hx hb dX2_pass_78 (by decide) ?_
          exact y_vret h F hr hP hS hM_w hlk dX2_pass_106
  · have h := if_t _ hc h
    refine lv_iload_n hx hb dX2_pass_13 rfl (lv_at hl 3 rfl) ?_
    refine lv_aload_n hx hb dX2_pass_14 rfl (lv_at hl 1 rfl) ?_
    refine x_getr F hP k_6 (hP.al 6 rfl) fl_X2_25 rfl r_6_4 dX2_pass_15 ?_
    refine lv_iload_n hx hb dX2_pass_18 rfl (lv_at hl 2 rfl) ?_
    refine y_iald h F hP k_44 (n2 (hP.al 44 rfl)) dX2_pass_19 (fun v_19 h => ?_)
    refine lv_icmp_lt (tgt := 106) hx hb dX2_pass_20 (by decide) (fun hc => ?_) (fun hc => ?_)
    · have h := if_t _ hc h
      exact y_vret h F hr hP hS mono.refl hlk dX2_pass_106
    · have h := if_f _ hc h
      refine lv_aload_n hx hb dX2_pass_23 rfl (lv_at hl 1 rfl) ?_
      refine lv_iload_n hx hb dX2_pass_24 rfl (lv_at hl 2 rfl) ?_
      refine lv_aload_n hx hb dX2_pass_25 rfl (lv_at hl 1 rfl) ?_
      refine x_getr F hP k_6 (hP.al 6 rfl) fl_X2_19 rfl r_6_2 dX2_pass_26 ?_
      refine lv_iload_n hx hb dX2_pass_29 rfl (lv_at hl 2 rfl) ?_
      refine y_iald h F hP k_42 (n2 (hP.al 42 rfl)) dX2_pass_30 (fun v_30 h => ?_)
      refine lv_iload_n hx hb dX2_pass_31 rfl (lv_at hl 3 rfl) ?_
      obtain ⟨w_32, hc_32, h⟩ := bo_s h
      refine x_goes (x_runV (As := [.int a1, .int v_30, .int a2]) (rest := []) F hP hS (c_X2_enterBlock l D cT lo w ad a1 v_30 a2 w_32 hc_32) cw_X2_enterBlock lk_X2_65 vi_X2_enterBlock k_6 (n2 (hP.al 6 rfl)) rfl ⟨rfl, rfl, Nat.le_of_ble_eq_true rfl, Nat.le_of_ble_eq_true rfl⟩ hl.1 rfl (Nat.le_of_ble_eq_true rfl) dX2_pass_32 ⟨Nat.zero_le _, Nat.zero_le _⟩) hS (fun H locs hP hS hm => ?_)
      have hM_w := hm
      refine lv_goto (tgt := 106) hx hb dX2_pass_35 (by decide) ?_
      exact y_vret h F hr hP hS hM_w hlk dX2_pass_106
def l_X2_passTo_26 (x2_19l : Int32) (j_66 : Wd → Option Wd) : Nat → Wd → Int32 → Option Wd
  | 0, _, _ => none
  | n_26 + 1, w_26l, x3_26l =>
    q_gt w_26l 6 7 (fun v_28 =>
    if v_28 ≤ x3_26l then
    j_66 w_26l
    else
    q_ld w_26l 45 4 x3_26l (fun v_40 =>
    q_jn (fun (w_60j : Wd) =>
    q_lt (x3_26l + (1 : Int32)) (fun v_60 =>
    l_X2_passTo_26 x2_19l j_66 n_26 w_60j v_60)) (fun j_60 =>
    q_jn (q_bo (f_X2_pass w_26l x3_26l x2_19l) (fun w_57 =>
    j_60 w_57)) (fun j_54 =>
    if x2_19l < v_40 then
    j_54
    else
    q_ld w_26l 46 4 x3_26l (fun v_50 =>
    if x2_19l < v_50 then
    j_60 w_26l
    else
    j_54)))))
def l_X2_passTo_19 (a1 : Int32) : Nat → Wd → Int32 → Option Wd
  | 0, _, _ => none
  | n_19 + 1, w_19l, x2_19l =>
    if a1 < x2_19l then
    some w_19l
    else
    q_jn (fun (w_66j : Wd) =>
    q_lt (x2_19l + (1 : Int32)) (fun v_66 =>
    l_X2_passTo_19 a1 n_19 w_66j v_66)) (fun j_66 =>
    l_X2_passTo_26 x2_19l j_66 FU w_19l (0 : Int32))
def f_X2_passTo (w : Wd) (a1 : Int32) : Option Wd :=
q_bo (f_J7_fill_53178 w 47 4 (100 : Int32)) (fun w_6 =>
q_bo (f_J7_fill_53178 w_6 49 4 (-1 : Int32)) (fun w_14 =>
l_X2_passTo_19 a1 FU w_14 (0 : Int32)))
set_option maxRecDepth 100000 in
set_option maxHeartbeats 4000000 in
theorem c_X2_passTo (l : Launch) (D : va_G) (cT : Nat → ClassId) (lo : Nat) (w : Wd) (ad : Nat → Nat) (a1 : Int32) (w9 : Wd) (h : f_X2_passTo w a1 = some w9) : Met l yX2_passTo (.code yX2_passTo cX2_passTo 4 none :: TW) { frames := 3, cells := 0, slots := 0, locals := 69 } (mPc D cT lo NB w ad [.ref (ad 6), .int a1]) (mQ D cT lo NB w w9 ad none) 0 0 (fun q => lo ≤ q) := by
  unfold f_X2_passTo at h
  refine x_met (lv := [(0, .ref (ad 6)), (1, .int a1)]) (by decide +kernel) (Nat.le_of_ble_eq_true rfl) rfl ?_
  intro p e s m args below meth c ls F hr hlk hP hin hl
  have hx := F.1
  have hb := F.2.1
  have hS : va_S (fun q => lo ≤ q) s.heap s.heap [] := va_S.rf
  have hM_w : mono w w := mono.refl
  refine lv_aload_n hx hb dX2_passTo_0 rfl (lv_at hl 0 rfl) ?_
  refine x_getr F hP k_6 (hP.al 6 rfl) fl_X2_34 rfl r_6_8 dX2_passTo_1 ?_
  refine lv_bipush (v := 100) hx hb dX2_passTo_4 ib_100 ?_
  obtain ⟨w_6, hc_6, h⟩ := bo_s h
  refine x_goes (x_runS (As := [.ref (ad 47), .int (100 : Int32)]) (rest := []) F hP hS (c_J7_fill_53178 l D cT lo NB w ad 47 4 k_47 (hP.al 47 rfl) (100 : Int32) w_6 hc_6) cw_J7_fill_53178 lk_X2_43 st_J7_fill_53178 ⟨rfl, rfl, Nat.le_of_ble_eq_true rfl, Nat.le_of_ble_eq_true rfl⟩ hl.1 rfl (Nat.le_of_ble_eq_true rfl) dX2_passTo_6 ⟨Nat.zero_le _, Nat.zero_le _⟩) hS (fun H locs hP hS hm => ?_)
  have hM_w := hm
  refine lv_aload_n hx hb dX2_passTo_9 rfl (lv_at hl 0 rfl) ?_
  refine x_getr F hP k_6 (hP.al 6 rfl) fl_X2_40 rfl r_6_10 dX2_passTo_10 ?_
  refine lv_iconst (v := -1) hx hb dX2_passTo_13 ic_m1 ?_
  obtain ⟨w_14, hc_14, h⟩ := bo_s h
  refine x_goes (x_runS (As := [.ref (ad 49), .int (-1 : Int32)]) (rest := []) F hP hS (c_J7_fill_53178 l D cT lo NB w_6 ad 49 4 k_49 (hP.al 49 rfl) (-1 : Int32) w_14 hc_14) cw_J7_fill_53178 lk_X2_43 st_J7_fill_53178 ⟨rfl, rfl, Nat.le_of_ble_eq_true rfl, Nat.le_of_ble_eq_true rfl⟩ hl.1 rfl (Nat.le_of_ble_eq_true rfl) dX2_passTo_14 ⟨Nat.zero_le _, Nat.zero_le _⟩) hS (fun H locs hP hS hm => ?_)
  have hM_w := hM_w.trans hm
  refine lv_iconst (v := 0) hx hb dX2_passTo_17 ic_0 ?_
  refine lv_istore_n (lv' := [(2, .int (0 : Int32)), (0, .ref (ad 6)), (1, .int a1)]) hx hb dX2_passTo_18 rfl hl (Nat.le_of_ble_eq_true rfl) rfl (fun ls hl => ?_)
  have L_19 : ∀ (n_19 : Nat) (w_19l : Wd) (x2_19l : Int32), mono w_14 w_19l → l_X2_passTo_19 a1 n_19 w_19l x2_19l = some w9 → GG p l e { frames := 3, cells := 0, slots := 0, locals := 69 } s m args below meth c 0 0 (MQ below (mQ D cT lo NB w w9 ad none) args s 0 0 (fun q => lo ≤ q)) D cT lo NB 4 ad w_19l 19 [(2, .int x2_19l), (0, .ref (ad 6)), (1, .int a1)] [] := by
    intro n_19
    induction n_19 with
    | zero =>
      intro w_19l x2_19l _ h
      exact absurd h (by unfold l_X2_passTo_19; exact fun z => by cases z)
    | succ n_19 ih_19 =>
      intro w_19l x2_19l hm h H locs ls hP hS hl
      unfold l_X2_passTo_19 at h
      have hM_w := hM_w.trans hm
      have hM_w_14 := hm
      refine lv_iload_n hx hb dX2_passTo_19 rfl (lv_at hl 0 rfl) ?_
      refine lv_iload_n hx hb dX2_passTo_20 rfl (lv_at hl 2 rfl) ?_
      refine lv_icmp_gt (tgt := 72) hx hb dX2_passTo_21 (by decide) (fun hc => ?_) (fun hc => ?_)
      · have h := if_t _ hc h
        exact y_vret h F hr hP hS hM_w hlk dX2_passTo_72
      · have h := if_f _ hc h
        refine lv_iconst (v := 0) hx hb dX2_passTo_24 ic_0 ?_
        refine lv_istore_n (lv' := [(3, .int (0 : Int32)), (2, .int x2_19l), (0, .ref (ad 6)), (1, .int a1)]) hx hb dX2_passTo_25 rfl hl (Nat.le_of_ble_eq_true rfl) rfl (fun ls hl => ?_)
        refine jn_use (fun (j_66 : Wd → Option Wd) => ∀ (w_66j : Wd), mono w_19l w_66j → j_66 w_66j = some w9 → GG p l e { frames := 3, cells := 0, slots := 0, locals := 69 } s m args below meth c 0 0 (MQ below (mQ D cT lo NB w w9 ad none) args s 0 0 (fun q => lo ≤ q)) D cT lo NB 4 ad w_66j 66 [(2, .int x2_19l), (0, .ref (ad 6)), (1, .int a1)] []) h (fun w_66j hm h H locs ls hP hS hl => ?_) (fun j_66 J_66 h => ?_)
        · have hM_w := hM_w.trans hm
          have hM_w_14 := hM_w_14.trans hm
          have hM_w_19l := hm
          refine y_iinc (lv' := fun (v_66 : Int32) => [(2, .int v_66), (0, .ref (ad 6)), (1, .int a1)]) h F ic_1 dX2_passTo_66 hl (kq := 0) rfl (Nat.le_of_ble_eq_true rfl) (fun _ => rfl) (fun v_66 ls hl h => ?_)
          refine lv_goto (tgt := 19) hx hb dX2_passTo_69 (by decide) ?_
          exact ih_19 w_66j v_66 hM_w_14 h _ _ _ hP hS (lv_sub hl [0, 1, 2] rfl)
        · have L_26 : ∀ (n_26 : Nat) (w_26l : Wd) (x3_26l : Int32), mono w_19l w_26l → l_X2_passTo_26 x2_19l j_66 n_26 w_26l x3_26l = some w9 → GG p l e { frames := 3, cells := 0, slots := 0, locals := 69 } s m args below meth c 0 0 (MQ below (mQ D cT lo NB w w9 ad none) args s 0 0 (fun q => lo ≤ q)) D cT lo NB 4 ad w_26l 26 [(3, .int x3_26l), (2, .int x2_19l), (0, .ref (ad 6)), (1, .int a1)] [] := by
            intro n_26
            induction n_26 with
            | zero =>
              intro w_26l x3_26l _ h
              exact absurd h (by unfold l_X2_passTo_26; exact fun z => by cases z)
            | succ n_26 ih_26 =>
              intro w_26l x3_26l hm h H locs ls hP hS hl
              unfold l_X2_passTo_26 at h
              have hM_w := hM_w.trans hm
              have hM_w_14 := hM_w_14.trans hm
              have hM_w_19l := hm
              refine lv_iload_n hx hb dX2_passTo_26 rfl (lv_at hl 0 rfl) ?_
              refine lv_aload_n hx hb dX2_passTo_27 rfl (lv_at hl 2 rfl) ?_
              refine y_geti h F hP k_6 (n2 (hP.al 6 rfl)) fl_X2_53 rfl dX2_passTo_28 (fun v_28 h => ?_)
              refine lv_icmp_ge (tgt := 66) hx hb dX2_passTo_31 (by decide) (fun hc => ?_) (fun hc => ?_)
              · have h := if_t _ hc h
                exact J_66 w_26l hM_w_19l h _ _ _ hP hS (lv_sub hl [1, 2, 3] rfl)
              · have h := if_f _ hc h
                refine lv_iload_n hx hb dX2_passTo_34 rfl (lv_at hl 1 rfl) ?_
                refine lv_aload_n hx hb dX2_passTo_35 rfl (lv_at hl 2 rfl) ?_
                refine x_getr F hP k_6 (hP.al 6 rfl) fl_X2_28 rfl r_6_5 dX2_passTo_36 ?_
                refine lv_iload_n hx hb dX2_passTo_39 rfl (lv_at hl 0 rfl) ?_
                refine y_iald h F hP k_45 (n2 (hP.al 45 rfl)) dX2_passTo_40 (fun v_40 h => ?_)
                refine jn_use (fun (j_60 : Wd → Option Wd) => ∀ (w_60j : Wd), mono w_26l w_60j → j_60 w_60j = some w9 → GG p l e { frames := 3, cells := 0, slots := 0, locals := 69 } s m args below meth c 0 0 (MQ below (mQ D cT lo NB w w9 ad none) args s 0 0 (fun q => lo ≤ q)) D cT lo NB 4 ad w_60j 60 [(3, .int x3_26l), (2, .int x2_19l), (0, .ref (ad 6)), (1, .int a1)] []) h (fun w_60j hm h H locs ls hP hS hl => ?_) (fun j_60 J_60 h => ?_)
                · have hM_w := hM_w.trans hm
                  have hM_w_14 := hM_w_14.trans hm
                  have hM_w_19l := hM_w_19l.trans hm
                  have hM_w_26l := hm
                  refine y_iinc (lv' := fun (v_60 : Int32) => [(3, .int v_60), (2, .int x2_19l), (0, .ref (ad 6)), (1, .int a1)]) h F ic_1 dX2_passTo_60 hl (kq := 0) rfl (Nat.le_of_ble_eq_true rfl) (fun _ => rfl) (fun v_60 ls hl h => ?_)
                  refine lv_goto (tgt := 26) hx hb dX2_passTo_63 (by decide) ?_
                  exact ih_26 w_60j v_60 hM_w_19l h _ _ _ hP hS (lv_sub hl [0, 1, 2, 3] rfl)
                · refine jn_use (fun (j_54 : Option Wd) => j_54 = some w9 → GG p l e { frames := 3, cells := 0, slots := 0, locals := 69 } s m args below meth c 0 0 (MQ below (mQ D cT lo NB w w9 ad none) args s 0 0 (fun q => lo ≤ q)) D cT lo NB 4 ad w_26l 54 [(3, .int x3_26l), (2, .int x2_19l), (0, .ref (ad 6)), (1, .int a1)] []) h (fun h H locs ls hP hS hl => ?_) (fun j_54 J_54 h => ?_)
                  · refine lv_aload_n hx hb dX2_passTo_54 rfl (lv_at hl 2 rfl) ?_
                    refine lv_iload_n hx hb dX2_passTo_55 rfl (lv_at hl 0 rfl) ?_
                    refine lv_iload_n hx hb dX2_passTo_56 rfl (lv_at hl 1 rfl) ?_
                    obtain ⟨w_57, hc_57, h⟩ := bo_s h
                    refine x_goes (x_runV (As := [.int x3_26l, .int x2_19l]) (rest := []) F hP hS (c_X2_pass l D cT lo w_26l ad x3_26l x2_19l w_57 hc_57) cw_X2_pass lk_X2_61 vi_X2_pass k_6 (n2 (hP.al 6 rfl)) rfl ⟨rfl, rfl, Nat.le_of_ble_eq_true rfl, Nat.le_of_ble_eq_true rfl⟩ hl.1 rfl (Nat.le_of_ble_eq_true rfl) dX2_passTo_57 ⟨Nat.zero_le _, Nat.zero_le _⟩) hS (fun H locs hP hS hm => ?_)
                    have hM_w := hM_w.trans hm
                    have hM_w_14 := hM_w_14.trans hm
                    have hM_w_19l := hM_w_19l.trans hm
                    have hM_w_26l := hm
                    exact J_60 w_57 hM_w_26l h _ _ _ hP hS (lv_sub hl [0, 1, 2, 3] rfl)
                  · refine lv_icmp_lt (tgt := 54) hx hb dX2_passTo_41 (by decide) (fun hc => ?_) (fun hc => ?_)
                    · have h := if_t _ hc h
                      exact J_54  h _ _ _ hP hS (lv_sub hl [0, 1, 2, 3] rfl)
                    · have h := if_f _ hc h
                      refine lv_iload_n hx hb dX2_passTo_44 rfl (lv_at hl 1 rfl) ?_
                      refine lv_aload_n hx hb dX2_passTo_45 rfl (lv_at hl 2 rfl) ?_
                      refine x_getr F hP k_6 (hP.al 6 rfl) fl_X2_31 rfl r_6_6 dX2_passTo_46 ?_
                      refine lv_iload_n hx hb dX2_passTo_49 rfl (lv_at hl 0 rfl) ?_
                      refine y_iald h F hP k_46 (n2 (hP.al 46 rfl)) dX2_passTo_50 (fun v_50 h => ?_)
                      refine lv_icmp_lt (tgt := 60) hx hb dX2_passTo_51 (by decide) (fun hc => ?_) (fun hc => ?_)
                      · have h := if_t _ hc h
                        exact J_60 w_26l mono.refl h _ _ _ hP hS (lv_sub hl [0, 1, 2, 3] rfl)
                      · have h := if_f _ hc h
                        exact J_54  h _ _ _ hP hS (lv_sub hl [0, 1, 2, 3] rfl)
          exact L_26 FU w_19l (0 : Int32) mono.refl h _ _ _ hP hS (lv_sub hl [0, 1, 2, 3] rfl)
  exact L_19 FU w_14 (0 : Int32) mono.refl h _ _ _ hP hS (lv_sub hl [0, 1, 2] rfl)
def f_X2_goneOf (w : Wd) (a1 : Int32) : Option (Int32 × Wd) :=
q_gt w 6 7 (fun v_3 =>
if (f_X11_within a1 (0 : Int32) (v_3 - (1 : Int32))) = 0 then
some ((-2 : Int32), w)
else
q_bo (f_X2_passTo w (2000 : Int32)) (fun w_21 =>
q_ld w_21 49 4 a1 (fun v_29 =>
some (v_29, w_21))))
set_option maxRecDepth 100000 in
set_option maxHeartbeats 4000000 in
theorem c_X2_goneOf (l : Launch) (D : va_G) (cT : Nat → ClassId) (lo : Nat) (w : Wd) (ad : Nat → Nat) (a1 : Int32) (r : Int32) (w9 : Wd) (h : f_X2_goneOf w a1 = some (r, w9)) : Met l yX2_goneOf (.code yX2_goneOf cX2_goneOf 2 (some .int) :: TW) { frames := 4, cells := 0, slots := 0, locals := 92 } (mPc D cT lo NB w ad [.ref (ad 6), .int a1]) (mQ D cT lo NB w w9 ad (some (.int r))) 0 0 (fun q => lo ≤ q) := by
  unfold f_X2_goneOf at h
  refine x_met (lv := [(0, .ref (ad 6)), (1, .int a1)]) (by decide +kernel) (Nat.le_of_ble_eq_true rfl) rfl ?_
  intro p e s m args below meth c ls F hr hlk hP hin hl
  have hx := F.1
  have hb := F.2.1
  have hS : va_S (fun q => lo ≤ q) s.heap s.heap [] := va_S.rf
  have hM_w : mono w w := mono.refl
  refine lv_iload_n hx hb dX2_goneOf_0 rfl (lv_at hl 1 rfl) ?_
  refine lv_iconst (v := 0) hx hb dX2_goneOf_1 ic_0 ?_
  refine lv_aload_n hx hb dX2_goneOf_2 rfl (lv_at hl 0 rfl) ?_
  refine y_geti h F hP k_6 (n2 (hP.al 6 rfl)) fl_X2_53 rfl dX2_goneOf_3 (fun v_3 h => ?_)
  refine lv_iconst (v := 1) hx hb dX2_goneOf_6 ic_1 ?_
  refine lv_isub hx hb dX2_goneOf_7 ?_
  refine x_goesZ (x_runSN (As := [.int a1, .int (0 : Int32), .int (v_3 - (1 : Int32))]) (rest := []) F hP hS (c_X11_within l D cT lo NB w ad a1 (0 : Int32) (v_3 - (1 : Int32))) cw_X11_within nl_X2_49 st_X11_within ⟨rfl, rfl, Nat.le_of_ble_eq_true rfl, Nat.le_of_ble_eq_true rfl⟩ hl.1 rfl (Nat.le_of_ble_eq_true rfl) dX2_goneOf_8 ⟨Nat.zero_le _, Nat.zero_le _⟩) hS (fun H locs hz_8 hP hS _ => ?_)
  refine lv_if_ne (tgt := 17) hx hb dX2_goneOf_11 (by decide) (fun hc => ?_) (fun hc => ?_)
  · have h := if_f _ hc h
    refine lv_aload_n hx hb dX2_goneOf_17 rfl (lv_at hl 0 rfl) ?_
    refine lv_sipush (v := 2000) hx hb dX2_goneOf_18 is_2000 ?_
    obtain ⟨w_21, hc_21, h⟩ := bo_s h
    refine x_goes (x_runV (As := [.int (2000 : Int32)]) (rest := []) F hP hS (c_X2_passTo l D cT lo w ad (2000 : Int32) w_21 hc_21) cw_X2_passTo lk_X2_57 vi_X2_passTo k_6 (n2 (hP.al 6 rfl)) rfl ⟨rfl, rfl, Nat.le_of_ble_eq_true rfl, Nat.le_of_ble_eq_true rfl⟩ hl.1 rfl (Nat.le_of_ble_eq_true rfl) dX2_goneOf_21 ⟨Nat.zero_le _, Nat.zero_le _⟩) hS (fun H locs hP hS hm => ?_)
    have hM_w := hm
    refine lv_aload_n hx hb dX2_goneOf_24 rfl (lv_at hl 0 rfl) ?_
    refine x_getr F hP k_6 (hP.al 6 rfl) fl_X2_40 rfl r_6_10 dX2_goneOf_25 ?_
    refine lv_iload_n hx hb dX2_goneOf_28 rfl (lv_at hl 1 rfl) ?_
    refine y_iald h F hP k_49 (n2 (hP.al 49 rfl)) dX2_goneOf_29 (fun v_29 h => ?_)
    exact y_iretM h F hr hP hS hM_w hlk dX2_goneOf_30
  · have h := if_t _ hc h
    refine lv_bipush (v := -2) hx hb dX2_goneOf_14 ib_m2 ?_
    exact y_iretM h F hr hP hS mono.refl hlk dX2_goneOf_16
def f_X2_placeOf (w : Wd) (a1 : Int32) (a2 : Int32) : Option (Int32 × Wd) :=
q_gt w 6 7 (fun v_3 =>
if (f_X11_within a1 (0 : Int32) (v_3 - (1 : Int32))) = 0 then
some ((-2 : Int32), w)
else
if (f_X11_within a2 (0 : Int32) (2000 : Int32)) = 0 then
some ((-2 : Int32), w)
else
q_bo (f_X2_passTo w a2) (fun w_30 =>
q_ld w_30 47 4 a1 (fun v_38 =>
some (v_38, w_30))))
set_option maxRecDepth 100000 in
set_option maxHeartbeats 4000000 in
theorem c_X2_placeOf (l : Launch) (D : va_G) (cT : Nat → ClassId) (lo : Nat) (w : Wd) (ad : Nat → Nat) (a1 : Int32) (a2 : Int32) (r : Int32) (w9 : Wd) (h : f_X2_placeOf w a1 a2 = some (r, w9)) : Met l yX2_placeOf (.code yX2_placeOf cX2_placeOf 3 (some .int) :: TW) { frames := 4, cells := 0, slots := 0, locals := 92 } (mPc D cT lo NB w ad [.ref (ad 6), .int a1, .int a2]) (mQ D cT lo NB w w9 ad (some (.int r))) 0 0 (fun q => lo ≤ q) := by
  unfold f_X2_placeOf at h
  refine x_met (lv := [(0, .ref (ad 6)), (1, .int a1), (2, .int a2)]) (by decide +kernel) (Nat.le_of_ble_eq_true rfl) rfl ?_
  intro p e s m args below meth c ls F hr hlk hP hin hl
  have hx := F.1
  have hb := F.2.1
  have hS : va_S (fun q => lo ≤ q) s.heap s.heap [] := va_S.rf
  have hM_w : mono w w := mono.refl
  refine lv_iload_n hx hb dX2_placeOf_0 rfl (lv_at hl 1 rfl) ?_
  refine lv_iconst (v := 0) hx hb dX2_placeOf_1 ic_0 ?_
  refine lv_aload_n hx hb dX2_placeOf_2 rfl (lv_at hl 0 rfl) ?_
  refine y_geti h F hP k_6 (n2 (hP.al 6 rfl)) fl_X2_53 rfl dX2_placeOf_3 (fun v_3 h => ?_)
  refine lv_iconst (v := 1) hx hb dX2_placeOf_6 ic_1 ?_
  refine lv_isub hx hb dX2_placeOf_7 ?_
  refine x_goesZ (x_runSN (As := [.int a1, .int (0 : Int32), .int (v_3 - (1 : Int32))]) (rest := []) F hP hS (c_X11_within l D cT lo NB w ad a1 (0 : Int32) (v_3 - (1 : Int32))) cw_X11_within nl_X2_49 st_X11_within ⟨rfl, rfl, Nat.le_of_ble_eq_true rfl, Nat.le_of_ble_eq_true rfl⟩ hl.1 rfl (Nat.le_of_ble_eq_true rfl) dX2_placeOf_8 ⟨Nat.zero_le _, Nat.zero_le _⟩) hS (fun H locs hz_8 hP hS _ => ?_)
  refine lv_if_eq (tgt := 25) hx hb dX2_placeOf_11 (by decide) (fun hc => ?_) (fun hc => ?_)
  · have h := if_t _ hc h
    refine lv_bipush (v := -2) hx hb dX2_placeOf_25 ib_m2 ?_
    exact y_iretM h F hr hP hS mono.refl hlk dX2_placeOf_27
  · have h := if_f _ hc h
    refine lv_iload_n hx hb dX2_placeOf_14 rfl (lv_at hl 2 rfl) ?_
    refine lv_iconst (v := 0) hx hb dX2_placeOf_15 ic_0 ?_
    refine lv_sipush (v := 2000) hx hb dX2_placeOf_16 is_2000 ?_
    refine x_goesZ (x_runSN (As := [.int a2, .int (0 : Int32), .int (2000 : Int32)]) (rest := []) F hP hS (c_X11_within l D cT lo NB w ad a2 (0 : Int32) (2000 : Int32)) cw_X11_within nl_X2_49 st_X11_within ⟨rfl, rfl, Nat.le_of_ble_eq_true rfl, Nat.le_of_ble_eq_true rfl⟩ hl.1 rfl (Nat.le_of_ble_eq_true rfl) dX2_placeOf_19 ⟨Nat.zero_le _, Nat.zero_le _⟩) hS (fun H locs hz_19 hP hS _ => ?_)
    refine lv_if_ne (tgt := 28) hx hb dX2_placeOf_22 (by decide) (fun hc => ?_) (fun hc => ?_)
    · have h := if_f _ hc h
      refine lv_aload_n hx hb dX2_placeOf_28 rfl (lv_at hl 0 rfl) ?_
      refine lv_iload_n hx hb dX2_placeOf_29 rfl (lv_at hl 2 rfl) ?_
      obtain ⟨w_30, hc_30, h⟩ := bo_s h
      refine x_goes (x_runV (As := [.int a2]) (rest := []) F hP hS (c_X2_passTo l D cT lo w ad a2 w_30 hc_30) cw_X2_passTo lk_X2_57 vi_X2_passTo k_6 (n2 (hP.al 6 rfl)) rfl ⟨rfl, rfl, Nat.le_of_ble_eq_true rfl, Nat.le_of_ble_eq_true rfl⟩ hl.1 rfl (Nat.le_of_ble_eq_true rfl) dX2_placeOf_30 ⟨Nat.zero_le _, Nat.zero_le _⟩) hS (fun H locs hP hS hm => ?_)
      have hM_w := hm
      refine lv_aload_n hx hb dX2_placeOf_33 rfl (lv_at hl 0 rfl) ?_
      refine x_getr F hP k_6 (hP.al 6 rfl) fl_X2_34 rfl r_6_8 dX2_placeOf_34 ?_
      refine lv_iload_n hx hb dX2_placeOf_37 rfl (lv_at hl 1 rfl) ?_
      refine y_iald h F hP k_47 (n2 (hP.al 47 rfl)) dX2_placeOf_38 (fun v_38 h => ?_)
      exact y_iretM h F hr hP hS hM_w hlk dX2_placeOf_39
    · have h := if_t _ hc h
      refine lv_bipush (v := -2) hx hb dX2_placeOf_25 ib_m2 ?_
      exact y_iretM h F hr hP hS mono.refl hlk dX2_placeOf_27
def f_X4_append (w : Wd) (a1 : Int32) : Option (Int32 × Wd) :=
if (f_X11_within a1 (0 : Int32) (255 : Int32)) = 0 then
some ((-2 : Int32), w)
else
q_gt w 8 3 (fun v_15 =>
if v_15 < (80 : Int32) then
q_gt w 8 3 (fun v_31 =>
q_st w 55 80 v_31 a1 (fun w_35 =>
q_gt w_35 8 3 (fun v_38 =>
q_pt w_35 8 3 (v_38 + (1 : Int32)) (fun w_43 =>
q_gt w_43 8 3 (fun v_47 =>
some (v_47, w_43))))))
else
some ((-4 : Int32), w))
set_option maxRecDepth 100000 in
set_option maxHeartbeats 4000000 in
theorem c_X4_append (l : Launch) (D : va_G) (cT : Nat → ClassId) (lo : Nat) (w : Wd) (ad : Nat → Nat) (a1 : Int32) (r : Int32) (w9 : Wd) (h : f_X4_append w a1 = some (r, w9)) : Met l yX4_append (.code yX4_append cX4_append 2 (some .int) :: TW) { frames := 1, cells := 0, slots := 0, locals := 22 } (mPc D cT lo NB w ad [.ref (ad 8), .int a1]) (mQ D cT lo NB w w9 ad (some (.int r))) 0 0 (fun q => lo ≤ q) := by
  unfold f_X4_append at h
  refine x_met (lv := [(0, .ref (ad 8)), (1, .int a1)]) (by decide +kernel) (Nat.le_of_ble_eq_true rfl) rfl ?_
  intro p e s m args below meth c ls F hr hlk hP hin hl
  have hx := F.1
  have hb := F.2.1
  have hS : va_S (fun q => lo ≤ q) s.heap s.heap [] := va_S.rf
  have hM_w : mono w w := mono.refl
  refine lv_iload_n hx hb dX4_append_0 rfl (lv_at hl 1 rfl) ?_
  refine lv_iconst (v := 0) hx hb dX4_append_1 ic_0 ?_
  refine lv_sipush (v := 255) hx hb dX4_append_2 is_255 ?_
  refine x_goesZ (x_runSN (As := [.int a1, .int (0 : Int32), .int (255 : Int32)]) (rest := []) F hP hS (c_X11_within l D cT lo NB w ad a1 (0 : Int32) (255 : Int32)) cw_X11_within nl_X4_23 st_X11_within ⟨rfl, rfl, Nat.le_of_ble_eq_true rfl, Nat.le_of_ble_eq_true rfl⟩ hl.1 rfl (Nat.le_of_ble_eq_true rfl) dX4_append_5 ⟨Nat.zero_le _, Nat.zero_le _⟩) hS (fun H locs hz_5 hP hS _ => ?_)
  refine lv_if_ne (tgt := 14) hx hb dX4_append_8 (by decide) (fun hc => ?_) (fun hc => ?_)
  · have h := if_f _ hc h
    refine lv_aload_n hx hb dX4_append_14 rfl (lv_at hl 0 rfl) ?_
    refine y_geti h F hP k_8 (n2 (hP.al 8 rfl)) fl_X4_27 rfl dX4_append_15 (fun v_15 h => ?_)
    refine lv_bipush (v := 80) hx hb dX4_append_18 ib_80 ?_
    refine lv_icmp_lt (tgt := 26) hx hb dX4_append_20 (by decide) (fun hc => ?_) (fun hc => ?_)
    · have h := if_t _ hc h
      refine lv_aload_n hx hb dX4_append_26 rfl (lv_at hl 0 rfl) ?_
      refine x_getr F hP k_8 (hP.al 8 rfl) fl_X4_11 rfl r_8_2 dX4_append_27 ?_
      refine lv_aload_n hx hb dX4_append_30 rfl (lv_at hl 0 rfl) ?_
      refine y_geti h F hP k_8 (n2 (hP.al 8 rfl)) fl_X4_27 rfl dX4_append_31 (fun v_31 h => ?_)
      refine lv_iload_n hx hb dX4_append_34 rfl (lv_at hl 1 rfl) ?_
      refine y_iast h F hP hS k_55 (n2 (hP.al 55 rfl)) dX4_append_35 (fun w_35 H locs hm h hP hS => ?_)
      have hM_w := hm
      refine lv_aload_n hx hb dX4_append_36 rfl (lv_at hl 0 rfl) ?_
      refine lv_dup hx hb dX4_append_37 rfl ?_
      refine y_geti h F hP k_8 (n2 (hP.al 8 rfl)) fl_X4_27 rfl dX4_append_38 (fun v_38 h => ?_)
      refine lv_iconst (v := 1) hx hb dX4_append_41 ic_1 ?_
      refine lv_iadd hx hb dX4_append_42 ?_
      refine y_puti h F hP hS k_8 (n2 (hP.al 8 rfl)) fl_X4_27 rfl dX4_append_43 (fun w_43 H locs hm h hP hS => ?_)
      have hM_w := hM_w.trans hm
      refine lv_aload_n hx hb dX4_append_46 rfl (lv_at hl 0 rfl) ?_
      refine y_geti h F hP k_8 (n2 (hP.al 8 rfl)) fl_X4_27 rfl dX4_append_47 (fun v_47 h => ?_)
      exact y_iretM h F hr hP hS hM_w hlk dX4_append_50
    · have h := if_f _ hc h
      refine lv_bipush (v := -4) hx hb dX4_append_23 ib_m4 ?_
      exact y_iretM h F hr hP hS mono.refl hlk dX4_append_25
  · have h := if_t _ hc h
    refine lv_bipush (v := -2) hx hb dX4_append_11 ib_m2 ?_
    exact y_iretM h F hr hP hS mono.refl hlk dX4_append_13
def f_X4_clear (w : Wd) : Option (Int32 × Wd) :=
q_gt w 8 3 (fun v_1 =>
q_pt w 8 3 (0 : Int32) (fun w_7 =>
some (v_1, w_7)))
set_option maxRecDepth 100000 in
set_option maxHeartbeats 4000000 in
theorem c_X4_clear (l : Launch) (D : va_G) (cT : Nat → ClassId) (lo : Nat) (w : Wd) (ad : Nat → Nat)  (r : Int32) (w9 : Wd) (h : f_X4_clear w = some (r, w9)) : Met l yX4_clear (.code yX4_clear cX4_clear 2 (some .int) :: TW) { frames := 0, cells := 0, slots := 0, locals := 0 } (mPc D cT lo NB w ad [.ref (ad 8)]) (mQ D cT lo NB w w9 ad (some (.int r))) 0 0 (fun q => lo ≤ q) := by
  unfold f_X4_clear at h
  refine x_met (lv := [(0, .ref (ad 8))]) (by decide +kernel) (Nat.le_of_ble_eq_true rfl) rfl ?_
  intro p e s m args below meth c ls F hr hlk hP hin hl
  have hx := F.1
  have hb := F.2.1
  have hS : va_S (fun q => lo ≤ q) s.heap s.heap [] := va_S.rf
  have hM_w : mono w w := mono.refl
  refine lv_aload_n hx hb dX4_clear_0 rfl (lv_at hl 0 rfl) ?_
  refine y_geti h F hP k_8 (n2 (hP.al 8 rfl)) fl_X4_27 rfl dX4_clear_1 (fun v_1 h => ?_)
  refine lv_istore_n (lv' := [(1, .int v_1), (0, .ref (ad 8))]) hx hb dX4_clear_4 rfl hl (Nat.le_of_ble_eq_true rfl) rfl (fun ls hl => ?_)
  refine lv_aload_n hx hb dX4_clear_5 rfl (lv_at hl 1 rfl) ?_
  refine lv_iconst (v := 0) hx hb dX4_clear_6 ic_0 ?_
  refine y_puti h F hP hS k_8 (n2 (hP.al 8 rfl)) fl_X4_27 rfl dX4_clear_7 (fun w_7 H locs hm h hP hS => ?_)
  have hM_w := hm
  refine lv_iload_n hx hb dX4_clear_10 rfl (lv_at hl 0 rfl) ?_
  exact y_iretM h F hr hP hS hM_w hlk dX4_clear_11
def f_X4_byteAt (w : Wd) (a1 : Int32) : Option Int32 :=
q_gt w 8 3 (fun v_3 =>
if (f_X11_within a1 (0 : Int32) (v_3 - (1 : Int32))) = 0 then
some (-1 : Int32)
else
q_ld w 55 80 a1 (fun v_19 =>
some v_19))
set_option maxRecDepth 100000 in
set_option maxHeartbeats 4000000 in
theorem c_X4_byteAt (l : Launch) (D : va_G) (cT : Nat → ClassId) (lo : Nat) (w : Wd) (ad : Nat → Nat) (a1 : Int32) (r : Int32) (h : f_X4_byteAt w a1 = some r) : Met l yX4_byteAt (.code yX4_byteAt cX4_byteAt 2 (some .int) :: TW) { frames := 1, cells := 0, slots := 0, locals := 22 } (mPc D cT lo NB w ad [.ref (ad 8), .int a1]) (mQ D cT lo NB w w ad (some (.int r))) 0 0 (fun q => lo ≤ q) := by
  unfold f_X4_byteAt at h
  refine x_met (lv := [(0, .ref (ad 8)), (1, .int a1)]) (by decide +kernel) (Nat.le_of_ble_eq_true rfl) rfl ?_
  intro p e s m args below meth c ls F hr hlk hP hin hl
  have hx := F.1
  have hb := F.2.1
  have hS : va_S (fun q => lo ≤ q) s.heap s.heap [] := va_S.rf
  refine lv_iload_n hx hb dX4_byteAt_0 rfl (lv_at hl 1 rfl) ?_
  refine lv_iconst (v := 0) hx hb dX4_byteAt_1 ic_0 ?_
  refine lv_aload_n hx hb dX4_byteAt_2 rfl (lv_at hl 0 rfl) ?_
  refine y_geti h F hP k_8 (n2 (hP.al 8 rfl)) fl_X4_27 rfl dX4_byteAt_3 (fun v_3 h => ?_)
  refine lv_iconst (v := 1) hx hb dX4_byteAt_6 ic_1 ?_
  refine lv_isub hx hb dX4_byteAt_7 ?_
  refine x_goesZ (x_runSN (As := [.int a1, .int (0 : Int32), .int (v_3 - (1 : Int32))]) (rest := []) F hP hS (c_X11_within l D cT lo NB w ad a1 (0 : Int32) (v_3 - (1 : Int32))) cw_X11_within nl_X4_23 st_X11_within ⟨rfl, rfl, Nat.le_of_ble_eq_true rfl, Nat.le_of_ble_eq_true rfl⟩ hl.1 rfl (Nat.le_of_ble_eq_true rfl) dX4_byteAt_8 ⟨Nat.zero_le _, Nat.zero_le _⟩) hS (fun H locs hz_8 hP hS _ => ?_)
  refine lv_if_eq (tgt := 23) hx hb dX4_byteAt_11 (by decide) (fun hc => ?_) (fun hc => ?_)
  · have h := if_t _ hc h
    refine lv_iconst (v := -1) hx hb dX4_byteAt_23 ic_m1 ?_
    exact y_iretO h F hr hP hS hlk dX4_byteAt_24
  · have h := if_f _ hc h
    refine lv_aload_n hx hb dX4_byteAt_14 rfl (lv_at hl 0 rfl) ?_
    refine x_getr F hP k_8 (hP.al 8 rfl) fl_X4_11 rfl r_8_2 dX4_byteAt_15 ?_
    refine lv_iload_n hx hb dX4_byteAt_18 rfl (lv_at hl 1 rfl) ?_
    refine y_iald h F hP k_55 (n2 (hP.al 55 rfl)) dX4_byteAt_19 (fun v_19 h => ?_)
    refine lv_goto (tgt := 24) hx hb dX4_byteAt_20 (by decide) ?_
    exact y_iretO h F hr hP hS hlk dX4_byteAt_24
def f_X4_isFigure (w : Wd) (a1 : Int32) : Option Int32 :=
q_bo (f_X4_byteAt w a1) (fun v_2 =>
some (f_X11_within v_2 (48 : Int32) (57 : Int32)))
set_option maxRecDepth 100000 in
set_option maxHeartbeats 4000000 in
theorem c_X4_isFigure (l : Launch) (D : va_G) (cT : Nat → ClassId) (lo : Nat) (w : Wd) (ad : Nat → Nat) (a1 : Int32) (r : Int32) (h : f_X4_isFigure w a1 = some r) : Met l yX4_isFigure (.code yX4_isFigure cX4_isFigure 2 (some .boolean) :: TW) { frames := 2, cells := 0, slots := 0, locals := 43 } (mPc D cT lo NB w ad [.ref (ad 8), .int a1]) (mQz D cT lo NB w w ad r) 0 0 (fun q => lo ≤ q) := by
  unfold f_X4_isFigure at h
  refine x_met (lv := [(0, .ref (ad 8)), (1, .int a1)]) (by decide +kernel) (Nat.le_of_ble_eq_true rfl) rfl ?_
  intro p e s m args below meth c ls F hr hlk hP hin hl
  have hx := F.1
  have hb := F.2.1
  have hS : va_S (fun q => lo ≤ q) s.heap s.heap [] := va_S.rf
  refine lv_aload_n hx hb dX4_isFigure_0 rfl (lv_at hl 0 rfl) ?_
  refine lv_iload_n hx hb dX4_isFigure_1 rfl (lv_at hl 1 rfl) ?_
  obtain ⟨v_2, hc_2, h⟩ := bo_s h
  refine x_goes (x_runV (As := [.int a1]) (rest := []) F hP hS (c_X4_byteAt l D cT lo w ad a1 v_2 hc_2) cw_X4_byteAt lk_X4_31 vi_X4_byteAt k_8 (n2 (hP.al 8 rfl)) rfl ⟨rfl, rfl, Nat.le_of_ble_eq_true rfl, Nat.le_of_ble_eq_true rfl⟩ hl.1 rfl (Nat.le_of_ble_eq_true rfl) dX4_isFigure_2 ⟨Nat.zero_le _, Nat.zero_le _⟩) hS (fun H locs hP hS _ => ?_)
  refine lv_bipush (v := 48) hx hb dX4_isFigure_5 ib_48 ?_
  refine lv_bipush (v := 57) hx hb dX4_isFigure_7 ib_57 ?_
  refine x_goesZ (x_runSN (As := [.int v_2, .int (48 : Int32), .int (57 : Int32)]) (rest := []) F hP hS (c_X11_within l D cT lo NB w ad v_2 (48 : Int32) (57 : Int32)) cw_X11_within nl_X4_23 st_X11_within ⟨rfl, rfl, Nat.le_of_ble_eq_true rfl, Nat.le_of_ble_eq_true rfl⟩ hl.1 rfl (Nat.le_of_ble_eq_true rfl) dX4_isFigure_9 ⟨Nat.zero_le _, Nat.zero_le _⟩) hS (fun H locs hz_9 hP hS _ => ?_)
  exact y_zretO h F hr hP hS hlk hz_9 dX4_isFigure_12
def f_X4_figuresAt (w : Wd) (a1 : Int32) : Option Int32 :=
q_bo (f_X4_isFigure w a1) (fun v_2 =>
if v_2 = 0 then
some (0 : Int32)
else
q_bo (f_X4_isFigure w (a1 + (1 : Int32))) (fun v_14 =>
if v_14 = 0 then
some (1 : Int32)
else
some (2 : Int32)))
set_option maxRecDepth 100000 in
set_option maxHeartbeats 4000000 in
theorem c_X4_figuresAt (l : Launch) (D : va_G) (cT : Nat → ClassId) (lo : Nat) (w : Wd) (ad : Nat → Nat) (a1 : Int32) (r : Int32) (h : f_X4_figuresAt w a1 = some r) : Met l yX4_figuresAt (.code yX4_figuresAt cX4_figuresAt 2 (some .int) :: TW) { frames := 3, cells := 0, slots := 0, locals := 64 } (mPc D cT lo NB w ad [.ref (ad 8), .int a1]) (mQ D cT lo NB w w ad (some (.int r))) 0 0 (fun q => lo ≤ q) := by
  unfold f_X4_figuresAt at h
  refine x_met (lv := [(0, .ref (ad 8)), (1, .int a1)]) (by decide +kernel) (Nat.le_of_ble_eq_true rfl) rfl ?_
  intro p e s m args below meth c ls F hr hlk hP hin hl
  have hx := F.1
  have hb := F.2.1
  have hS : va_S (fun q => lo ≤ q) s.heap s.heap [] := va_S.rf
  refine lv_aload_n hx hb dX4_figuresAt_0 rfl (lv_at hl 0 rfl) ?_
  refine lv_iload_n hx hb dX4_figuresAt_1 rfl (lv_at hl 1 rfl) ?_
  obtain ⟨v_2, hc_2, h⟩ := bo_s h
  refine x_goesZ (x_runV (As := [.int a1]) (rest := []) F hP hS (c_X4_isFigure l D cT lo w ad a1 v_2 hc_2) cw_X4_isFigure lk_X4_35 vi_X4_isFigure k_8 (n2 (hP.al 8 rfl)) rfl ⟨rfl, rfl, Nat.le_of_ble_eq_true rfl, Nat.le_of_ble_eq_true rfl⟩ hl.1 rfl (Nat.le_of_ble_eq_true rfl) dX4_figuresAt_2 ⟨Nat.zero_le _, Nat.zero_le _⟩) hS (fun H locs hz_2 hP hS _ => ?_)
  refine lv_if_ne (tgt := 10) hx hb dX4_figuresAt_5 (by decide) (fun hc => ?_) (fun hc => ?_)
  · have h := if_f _ hc h
    refine lv_aload_n hx hb dX4_figuresAt_10 rfl (lv_at hl 0 rfl) ?_
    refine lv_iload_n hx hb dX4_figuresAt_11 rfl (lv_at hl 1 rfl) ?_
    refine lv_iconst (v := 1) hx hb dX4_figuresAt_12 ic_1 ?_
    refine lv_iadd hx hb dX4_figuresAt_13 ?_
    obtain ⟨v_14, hc_14, h⟩ := bo_s h
    refine x_goesZ (x_runV (As := [.int (a1 + (1 : Int32))]) (rest := []) F hP hS (c_X4_isFigure l D cT lo w ad (a1 + (1 : Int32)) v_14 hc_14) cw_X4_isFigure lk_X4_35 vi_X4_isFigure k_8 (n2 (hP.al 8 rfl)) rfl ⟨rfl, rfl, Nat.le_of_ble_eq_true rfl, Nat.le_of_ble_eq_true rfl⟩ hl.1 rfl (Nat.le_of_ble_eq_true rfl) dX4_figuresAt_14 ⟨Nat.zero_le _, Nat.zero_le _⟩) hS (fun H locs hz_14 hP hS _ => ?_)
    refine lv_if_eq (tgt := 24) hx hb dX4_figuresAt_17 (by decide) (fun hc => ?_) (fun hc => ?_)
    · have h := if_t _ hc h
      refine lv_iconst (v := 1) hx hb dX4_figuresAt_24 ic_1 ?_
      exact y_iretO h F hr hP hS hlk dX4_figuresAt_25
    · have h := if_f _ hc h
      refine lv_iconst (v := 2) hx hb dX4_figuresAt_20 ic_2 ?_
      refine lv_goto (tgt := 25) hx hb dX4_figuresAt_21 (by decide) ?_
      exact y_iretO h F hr hP hS hlk dX4_figuresAt_25
  · have h := if_t _ hc h
    refine lv_iconst (v := 0) hx hb dX4_figuresAt_8 ic_0 ?_
    exact y_iretO h F hr hP hS hlk dX4_figuresAt_9
def f_X4_numberAt (w : Wd) (a1 : Int32) : Option Int32 :=
q_bo (f_X4_byteAt w a1) (fun v_2 =>
q_lt (v_2 - (48 : Int32)) (fun v_8 =>
q_bo (f_X4_figuresAt w a1) (fun v_11 =>
if v_11 = (2 : Int32) then
q_bo (f_X4_byteAt w (a1 + (1 : Int32))) (fun v_26 =>
some ((((10 : Int32) * v_8) + v_26) - (48 : Int32)))
else
some v_8)))
set_option maxRecDepth 100000 in
set_option maxHeartbeats 4000000 in
theorem c_X4_numberAt (l : Launch) (D : va_G) (cT : Nat → ClassId) (lo : Nat) (w : Wd) (ad : Nat → Nat) (a1 : Int32) (r : Int32) (h : f_X4_numberAt w a1 = some r) : Met l yX4_numberAt (.code yX4_numberAt cX4_numberAt 3 (some .int) :: TW) { frames := 4, cells := 0, slots := 0, locals := 85 } (mPc D cT lo NB w ad [.ref (ad 8), .int a1]) (mQ D cT lo NB w w ad (some (.int r))) 0 0 (fun q => lo ≤ q) := by
  unfold f_X4_numberAt at h
  refine x_met (lv := [(0, .ref (ad 8)), (1, .int a1)]) (by decide +kernel) (Nat.le_of_ble_eq_true rfl) rfl ?_
  intro p e s m args below meth c ls F hr hlk hP hin hl
  have hx := F.1
  have hb := F.2.1
  have hS : va_S (fun q => lo ≤ q) s.heap s.heap [] := va_S.rf
  refine lv_aload_n hx hb dX4_numberAt_0 rfl (lv_at hl 0 rfl) ?_
  refine lv_iload_n hx hb dX4_numberAt_1 rfl (lv_at hl 1 rfl) ?_
  obtain ⟨v_2, hc_2, h⟩ := bo_s h
  refine x_goes (x_runV (As := [.int a1]) (rest := []) F hP hS (c_X4_byteAt l D cT lo w ad a1 v_2 hc_2) cw_X4_byteAt lk_X4_31 vi_X4_byteAt k_8 (n2 (hP.al 8 rfl)) rfl ⟨rfl, rfl, Nat.le_of_ble_eq_true rfl, Nat.le_of_ble_eq_true rfl⟩ hl.1 rfl (Nat.le_of_ble_eq_true rfl) dX4_numberAt_2 ⟨Nat.zero_le _, Nat.zero_le _⟩) hS (fun H locs hP hS _ => ?_)
  refine lv_bipush (v := 48) hx hb dX4_numberAt_5 ib_48 ?_
  refine lv_isub hx hb dX4_numberAt_7 ?_
  refine y_let h (fun v_8 h => ?_)
  refine lv_istore_n (lv' := [(2, .int v_8), (0, .ref (ad 8)), (1, .int a1)]) hx hb dX4_numberAt_8 rfl hl (Nat.le_of_ble_eq_true rfl) rfl (fun ls hl => ?_)
  refine lv_aload_n hx hb dX4_numberAt_9 rfl (lv_at hl 1 rfl) ?_
  refine lv_iload_n hx hb dX4_numberAt_10 rfl (lv_at hl 2 rfl) ?_
  obtain ⟨v_11, hc_11, h⟩ := bo_s h
  refine x_goes (x_runV (As := [.int a1]) (rest := []) F hP hS (c_X4_figuresAt l D cT lo w ad a1 v_11 hc_11) cw_X4_figuresAt lk_X4_39 vi_X4_figuresAt k_8 (n2 (hP.al 8 rfl)) rfl ⟨rfl, rfl, Nat.le_of_ble_eq_true rfl, Nat.le_of_ble_eq_true rfl⟩ hl.1 rfl (Nat.le_of_ble_eq_true rfl) dX4_numberAt_11 ⟨Nat.zero_le _, Nat.zero_le _⟩) hS (fun H locs hP hS _ => ?_)
  refine lv_iconst (v := 2) hx hb dX4_numberAt_14 ic_2 ?_
  refine lv_icmp_ne (tgt := 36) hx hb dX4_numberAt_15 (by decide) (fun hc => ?_) (fun hc => ?_)
  · have h := if_f _ hc h
    refine lv_iload_n hx hb dX4_numberAt_36 rfl (lv_at hl 0 rfl) ?_
    exact y_iretO h F hr hP hS hlk dX4_numberAt_37
  · have h := if_t _ hc h
    refine lv_bipush (v := 10) hx hb dX4_numberAt_18 ib_10 ?_
    refine lv_iload_n hx hb dX4_numberAt_20 rfl (lv_at hl 0 rfl) ?_
    refine lv_imul hx hb dX4_numberAt_21 ?_
    refine lv_aload_n hx hb dX4_numberAt_22 rfl (lv_at hl 1 rfl) ?_
    refine lv_iload_n hx hb dX4_numberAt_23 rfl (lv_at hl 2 rfl) ?_
    refine lv_iconst (v := 1) hx hb dX4_numberAt_24 ic_1 ?_
    refine lv_iadd hx hb dX4_numberAt_25 ?_
    obtain ⟨v_26, hc_26, h⟩ := bo_s h
    refine x_goes (x_runV (As := [.int (a1 + (1 : Int32))]) (rest := [.int ((10 : Int32) * v_8)]) F hP hS (c_X4_byteAt l D cT lo w ad (a1 + (1 : Int32)) v_26 hc_26) cw_X4_byteAt lk_X4_31 vi_X4_byteAt k_8 (n2 (hP.al 8 rfl)) rfl ⟨rfl, rfl, Nat.le_of_ble_eq_true rfl, Nat.le_of_ble_eq_true rfl⟩ hl.1 rfl (Nat.le_of_ble_eq_true rfl) dX4_numberAt_26 ⟨Nat.zero_le _, Nat.zero_le _⟩) hS (fun H locs hP hS _ => ?_)
    refine lv_iadd hx hb dX4_numberAt_29 ?_
    refine lv_bipush (v := 48) hx hb dX4_numberAt_30 ib_48 ?_
    refine lv_isub hx hb dX4_numberAt_32 ?_
    refine lv_goto (tgt := 37) hx hb dX4_numberAt_33 (by decide) ?_
    exact y_iretO h F hr hP hS hlk dX4_numberAt_37
def f_X4_mostBehind (a1 : Int32) : Int32 :=
if a1 = 98 then
(40 : Int32)
else if a1 = 100 then
(40 : Int32)
else if a1 = 102 then
(20 : Int32)
else if a1 = 108 then
(3 : Int32)
else if a1 = 114 then
(3 : Int32)
else if a1 = 119 then
(9 : Int32)
else 
(-1 : Int32)
set_option maxRecDepth 100000 in
set_option maxHeartbeats 4000000 in
theorem c_X4_mostBehind (l : Launch) (D : va_G) (cT : Nat → ClassId) (lo nb : Nat) (w : Wd) (ad : Nat → Nat) (a1 : Int32) : Met l yX4_mostBehind (.code yX4_mostBehind cX4_mostBehind 1 (some .int) :: TW) { frames := 0, cells := 0, slots := 0, locals := 0 } (mPc D cT lo nb w ad [.int a1]) (mQ D cT lo nb w w ad (some (.int (f_X4_mostBehind a1)))) 0 0 (fun q => lo ≤ q) := by
  obtain ⟨r, h⟩ : ∃ r, f_X4_mostBehind a1 = r := ⟨_, rfl⟩
  rw [h]
  unfold f_X4_mostBehind at h
  refine x_met (lv := [(0, .int a1)]) (by decide +kernel) (Nat.le_of_ble_eq_true rfl) rfl ?_
  intro p e s m args below meth c ls F hr hlk hP hin hl
  have hx := F.1
  have hb := F.2.1
  have hS : va_S (fun q => lo ≤ q) s.heap s.heap [] := va_S.rf
  refine lv_iload_n hx hb dX4_mostBehind_0 rfl (lv_at hl 0 rfl) ?_
  by_cases hc0 : a1 = 98
  · have h := if_t _ hc0 h
    refine lv_lookup (off := 59) (tgt := 60) hx hb dX4_mostBehind_1 (by decide) (by rw [hc0]; decide) (by decide) ?_
    refine lv_bipush (v := 40) hx hb dX4_mostBehind_60 ib_40 ?_
    exact y_iretP h F hr hP hS hlk dX4_mostBehind_62
  have h := if_f _ hc0 h
  by_cases hc1 : a1 = 100
  · have h := if_t _ hc1 h
    refine lv_lookup (off := 59) (tgt := 60) hx hb dX4_mostBehind_1 (by decide) (by rw [hc1]; decide) (by decide) ?_
    refine lv_bipush (v := 40) hx hb dX4_mostBehind_60 ib_40 ?_
    exact y_iretP h F hr hP hS hlk dX4_mostBehind_62
  have h := if_f _ hc1 h
  by_cases hc2 : a1 = 102
  · have h := if_t _ hc2 h
    refine lv_lookup (off := 67) (tgt := 68) hx hb dX4_mostBehind_1 (by decide) (by rw [hc2]; decide) (by decide) ?_
    refine lv_bipush (v := 20) hx hb dX4_mostBehind_68 ib_20 ?_
    exact y_iretP h F hr hP hS hlk dX4_mostBehind_70
  have h := if_f _ hc2 h
  by_cases hc3 : a1 = 108
  · have h := if_t _ hc3 h
    refine lv_lookup (off := 62) (tgt := 63) hx hb dX4_mostBehind_1 (by decide) (by rw [hc3]; decide) (by decide) ?_
    refine lv_iconst (v := 3) hx hb dX4_mostBehind_63 ic_3 ?_
    exact y_iretP h F hr hP hS hlk dX4_mostBehind_64
  have h := if_f _ hc3 h
  by_cases hc4 : a1 = 114
  · have h := if_t _ hc4 h
    refine lv_lookup (off := 62) (tgt := 63) hx hb dX4_mostBehind_1 (by decide) (by rw [hc4]; decide) (by decide) ?_
    refine lv_iconst (v := 3) hx hb dX4_mostBehind_63 ic_3 ?_
    exact y_iretP h F hr hP hS hlk dX4_mostBehind_64
  have h := if_f _ hc4 h
  by_cases hc5 : a1 = 119
  · have h := if_t _ hc5 h
    refine lv_lookup (off := 64) (tgt := 65) hx hb dX4_mostBehind_1 (by decide) (by rw [hc5]; decide) (by decide) ?_
    refine lv_bipush (v := 9) hx hb dX4_mostBehind_65 ib_9 ?_
    exact y_iretP h F hr hP hS hlk dX4_mostBehind_67
  have h := if_f _ hc5 h
  refine lv_lookup (off := 70) (tgt := 71) hx hb dX4_mostBehind_1 (by decide) (lk_out [((98 : Int32), (59 : Int)), ((100 : Int32), (59 : Int)), ((102 : Int32), (67 : Int)), ((108 : Int32), (62 : Int)), ((114 : Int32), (62 : Int)), ((119 : Int32), (64 : Int))] 70 (by decide) (by simp [hc0, hc1, hc2, hc3, hc4, hc5])) (by decide) ?_
  refine lv_iconst (v := -1) hx hb dX4_mostBehind_71 ic_m1 ?_
  exact y_iretP h F hr hP hS hlk dX4_mostBehind_72
def f_X4_leastBehind (a1 : Int32) : Int32 :=
if a1 = (108 : Int32) then
(0 : Int32)
else
if a1 = (114 : Int32) then
(0 : Int32)
else
if a1 = (119 : Int32) then
(0 : Int32)
else
(1 : Int32)
set_option maxRecDepth 100000 in
set_option maxHeartbeats 4000000 in
theorem c_X4_leastBehind (l : Launch) (D : va_G) (cT : Nat → ClassId) (lo nb : Nat) (w : Wd) (ad : Nat → Nat) (a1 : Int32) : Met l yX4_leastBehind (.code yX4_leastBehind cX4_leastBehind 1 (some .int) :: TW) { frames := 0, cells := 0, slots := 0, locals := 0 } (mPc D cT lo nb w ad [.int a1]) (mQ D cT lo nb w w ad (some (.int (f_X4_leastBehind a1)))) 0 0 (fun q => lo ≤ q) := by
  obtain ⟨r, h⟩ : ∃ r, f_X4_leastBehind a1 = r := ⟨_, rfl⟩
  rw [h]
  unfold f_X4_leastBehind at h
  refine x_met (lv := [(0, .int a1)]) (by decide +kernel) (Nat.le_of_ble_eq_true rfl) rfl ?_
  intro p e s m args below meth c ls F hr hlk hP hin hl
  have hx := F.1
  have hb := F.2.1
  have hS : va_S (fun q => lo ≤ q) s.heap s.heap [] := va_S.rf
  refine lv_iload_n hx hb dX4_leastBehind_0 rfl (lv_at hl 0 rfl) ?_
  refine lv_bipush (v := 108) hx hb dX4_leastBehind_1 ib_108 ?_
  refine lv_icmp_eq (tgt := 18) hx hb dX4_leastBehind_3 (by decide) (fun hc => ?_) (fun hc => ?_)
  · have h := if_t _ hc h
    refine lv_iconst (v := 0) hx hb dX4_leastBehind_18 ic_0 ?_
    refine lv_goto (tgt := 23) hx hb dX4_leastBehind_19 (by decide) ?_
    exact y_iretP h F hr hP hS hlk dX4_leastBehind_23
  · have h := if_f _ hc h
    refine lv_iload_n hx hb dX4_leastBehind_6 rfl (lv_at hl 0 rfl) ?_
    refine lv_bipush (v := 114) hx hb dX4_leastBehind_7 ib_114 ?_
    refine lv_icmp_eq (tgt := 18) hx hb dX4_leastBehind_9 (by decide) (fun hc => ?_) (fun hc => ?_)
    · have h := if_t _ hc h
      refine lv_iconst (v := 0) hx hb dX4_leastBehind_18 ic_0 ?_
      refine lv_goto (tgt := 23) hx hb dX4_leastBehind_19 (by decide) ?_
      exact y_iretP h F hr hP hS hlk dX4_leastBehind_23
    · have h := if_f _ hc h
      refine lv_iload_n hx hb dX4_leastBehind_12 rfl (lv_at hl 0 rfl) ?_
      refine lv_bipush (v := 119) hx hb dX4_leastBehind_13 ib_119 ?_
      refine lv_icmp_ne (tgt := 22) hx hb dX4_leastBehind_15 (by decide) (fun hc => ?_) (fun hc => ?_)
      · have h := if_f _ hc h
        refine lv_iconst (v := 1) hx hb dX4_leastBehind_22 ic_1 ?_
        exact y_iretP h F hr hP hS hlk dX4_leastBehind_23
      · have h := if_t _ hc h
        refine lv_iconst (v := 0) hx hb dX4_leastBehind_18 ic_0 ?_
        refine lv_goto (tgt := 23) hx hb dX4_leastBehind_19 (by decide) ?_
        exact y_iretP h F hr hP hS hlk dX4_leastBehind_23
def l_X4_faultPlace_2 (w : Wd) (j_97 : Option Int32) (j_59 : Int32 → Option Int32) : Nat → Int32 → Option Int32
  | 0, _ => none
  | n_2 + 1, x1_2l =>
    q_gt w 8 3 (fun v_4 =>
    if v_4 ≤ x1_2l then
    j_97
    else
    q_bo (f_X4_byteAt w x1_2l) (fun v_12 =>
    if (f_X4_mostBehind v_12) = (-1 : Int32) then
    some x1_2l
    else
    q_bo (f_X4_figuresAt w (x1_2l + (1 : Int32))) (fun v_30 =>
    if v_30 = 0 then
    j_59 x1_2l
    else
    q_bo (f_X4_numberAt w (x1_2l + (1 : Int32))) (fun v_42 =>
    if (f_X11_within v_42 (f_X4_leastBehind v_12) (f_X4_mostBehind v_12)) = 0 then
    j_59 x1_2l
    else
    q_lt (x1_2l + ((1 : Int32) + v_30)) (fun v_68 =>
    q_gt w 8 3 (fun v_71 =>
    if v_68 = v_71 then
    some (-1 : Int32)
    else
    q_bo (f_X4_byteAt w v_68) (fun v_81 =>
    if v_81 = (59 : Int32) then
    q_lt (v_68 + (1 : Int32)) (fun v_91 =>
    l_X4_faultPlace_2 w j_97 j_59 n_2 v_91)
    else
    some v_68)))))))
def f_X4_faultPlace (w : Wd) : Option Int32 :=
q_jn (q_gt w 8 3 (fun v_98 =>
some v_98)) (fun j_97 =>
q_jn (fun (x1_59 : Int32) =>
some (x1_59 + (1 : Int32))) (fun j_59 =>
l_X4_faultPlace_2 w j_97 j_59 FU (0 : Int32)))
set_option maxRecDepth 100000 in
set_option maxHeartbeats 4000000 in
theorem c_X4_faultPlace (l : Launch) (D : va_G) (cT : Nat → ClassId) (lo : Nat) (w : Wd) (ad : Nat → Nat)  (r : Int32) (h : f_X4_faultPlace w = some r) : Met l yX4_faultPlace (.code yX4_faultPlace cX4_faultPlace 4 (some .int) :: TW) { frames := 5, cells := 0, slots := 0, locals := 107 } (mPc D cT lo NB w ad [.ref (ad 8)]) (mQ D cT lo NB w w ad (some (.int r))) 0 0 (fun q => lo ≤ q) := by
  unfold f_X4_faultPlace at h
  refine x_met (lv := [(0, .ref (ad 8))]) (by decide +kernel) (Nat.le_of_ble_eq_true rfl) rfl ?_
  intro p e s m args below meth c ls F hr hlk hP hin hl
  have hx := F.1
  have hb := F.2.1
  have hS : va_S (fun q => lo ≤ q) s.heap s.heap [] := va_S.rf
  refine lv_iconst (v := 0) hx hb dX4_faultPlace_0 ic_0 ?_
  refine lv_istore_n (lv' := [(1, .int (0 : Int32)), (0, .ref (ad 8))]) hx hb dX4_faultPlace_1 rfl hl (Nat.le_of_ble_eq_true rfl) rfl (fun ls hl => ?_)
  refine jn_use (fun (j_97 : Option Int32) => j_97 = some r → GG p l e { frames := 5, cells := 0, slots := 0, locals := 107 } s m args below meth c 0 0 (MQ below (mQ D cT lo NB w w ad (some (.int r))) args s 0 0 (fun q => lo ≤ q)) D cT lo NB 4 ad w 97 [(0, .ref (ad 8))] []) h (fun h H locs ls hP hS hl => ?_) (fun j_97 J_97 h => ?_)
  · refine lv_aload_n hx hb dX4_faultPlace_97 rfl (lv_at hl 0 rfl) ?_
    refine y_geti h F hP k_8 (n2 (hP.al 8 rfl)) fl_X4_27 rfl dX4_faultPlace_98 (fun v_98 h => ?_)
    exact y_iretO h F hr hP hS hlk dX4_faultPlace_101
  · refine jn_use (fun (j_59 : Int32 → Option Int32) => ∀ (x1_59 : Int32), j_59 x1_59 = some r → GG p l e { frames := 5, cells := 0, slots := 0, locals := 107 } s m args below meth c 0 0 (MQ below (mQ D cT lo NB w w ad (some (.int r))) args s 0 0 (fun q => lo ≤ q)) D cT lo NB 4 ad w 59 [(1, .int x1_59)] []) h (fun x1_59 h H locs ls hP hS hl => ?_) (fun j_59 J_59 h => ?_)
    · refine lv_iload_n hx hb dX4_faultPlace_59 rfl (lv_at hl 0 rfl) ?_
      refine lv_iconst (v := 1) hx hb dX4_faultPlace_60 ic_1 ?_
      refine lv_iadd hx hb dX4_faultPlace_61 ?_
      exact y_iretO h F hr hP hS hlk dX4_faultPlace_62
    · have L_2 : ∀ (n_2 : Nat) (x1_2l : Int32), l_X4_faultPlace_2 w j_97 j_59 n_2 x1_2l = some r → GG p l e { frames := 5, cells := 0, slots := 0, locals := 107 } s m args below meth c 0 0 (MQ below (mQ D cT lo NB w w ad (some (.int r))) args s 0 0 (fun q => lo ≤ q)) D cT lo NB 4 ad w 2 [(1, .int x1_2l), (0, .ref (ad 8))] [] := by
        intro n_2
        induction n_2 with
        | zero =>
          intro x1_2l h
          exact absurd h (by unfold l_X4_faultPlace_2; exact fun z => by cases z)
        | succ n_2 ih_2 =>
          intro x1_2l h H locs ls hP hS hl
          unfold l_X4_faultPlace_2 at h
          refine lv_iload_n hx hb dX4_faultPlace_2 rfl (lv_at hl 0 rfl) ?_
          refine lv_aload_n hx hb dX4_faultPlace_3 rfl (lv_at hl 1 rfl) ?_
          refine y_geti h F hP k_8 (n2 (hP.al 8 rfl)) fl_X4_27 rfl dX4_faultPlace_4 (fun v_4 h => ?_)
          refine lv_icmp_ge (tgt := 97) hx hb dX4_faultPlace_7 (by decide) (fun hc => ?_) (fun hc => ?_)
          · have h := if_t _ hc h
            exact J_97  h _ _ _ hP hS (lv_sub hl [1] rfl)
          · have h := if_f _ hc h
            refine lv_aload_n hx hb dX4_faultPlace_10 rfl (lv_at hl 1 rfl) ?_
            refine lv_iload_n hx hb dX4_faultPlace_11 rfl (lv_at hl 0 rfl) ?_
            obtain ⟨v_12, hc_12, h⟩ := bo_s h
            refine x_goes (x_runV (As := [.int x1_2l]) (rest := []) F hP hS (c_X4_byteAt l D cT lo w ad x1_2l v_12 hc_12) cw_X4_byteAt lk_X4_31 vi_X4_byteAt k_8 (n2 (hP.al 8 rfl)) rfl ⟨rfl, rfl, Nat.le_of_ble_eq_true rfl, Nat.le_of_ble_eq_true rfl⟩ hl.1 rfl (Nat.le_of_ble_eq_true rfl) dX4_faultPlace_12 ⟨Nat.zero_le _, Nat.zero_le _⟩) hS (fun H locs hP hS _ => ?_)
            refine lv_istore_n (lv' := [(2, .int v_12), (1, .int x1_2l), (0, .ref (ad 8))]) hx hb dX4_faultPlace_15 rfl hl (Nat.le_of_ble_eq_true rfl) rfl (fun ls hl => ?_)
            refine lv_iload_n hx hb dX4_faultPlace_16 rfl (lv_at hl 0 rfl) ?_
            refine x_goes (x_runS (As := [.int v_12]) (rest := []) F hP hS (c_X4_mostBehind l D cT lo NB w ad v_12) cw_X4_mostBehind lk_X4_42 st_X4_mostBehind ⟨rfl, rfl, Nat.le_of_ble_eq_true rfl, Nat.le_of_ble_eq_true rfl⟩ hl.1 rfl (Nat.le_of_ble_eq_true rfl) dX4_faultPlace_17 ⟨Nat.zero_le _, Nat.zero_le _⟩) hS (fun H locs hP hS _ => ?_)
            refine lv_iconst (v := -1) hx hb dX4_faultPlace_20 ic_m1 ?_
            refine lv_icmp_ne (tgt := 26) hx hb dX4_faultPlace_21 (by decide) (fun hc => ?_) (fun hc => ?_)
            · have h := if_f _ hc h
              refine lv_aload_n hx hb dX4_faultPlace_26 rfl (lv_at hl 2 rfl) ?_
              refine lv_iload_n hx hb dX4_faultPlace_27 rfl (lv_at hl 1 rfl) ?_
              refine lv_iconst (v := 1) hx hb dX4_faultPlace_28 ic_1 ?_
              refine lv_iadd hx hb dX4_faultPlace_29 ?_
              obtain ⟨v_30, hc_30, h⟩ := bo_s h
              refine x_goes (x_runV (As := [.int (x1_2l + (1 : Int32))]) (rest := []) F hP hS (c_X4_figuresAt l D cT lo w ad (x1_2l + (1 : Int32)) v_30 hc_30) cw_X4_figuresAt lk_X4_39 vi_X4_figuresAt k_8 (n2 (hP.al 8 rfl)) rfl ⟨rfl, rfl, Nat.le_of_ble_eq_true rfl, Nat.le_of_ble_eq_true rfl⟩ hl.1 rfl (Nat.le_of_ble_eq_true rfl) dX4_faultPlace_30 ⟨Nat.zero_le _, Nat.zero_le _⟩) hS (fun H locs hP hS _ => ?_)
              refine lv_istore_n (lv' := [(3, .int v_30), (2, .int v_12), (1, .int x1_2l), (0, .ref (ad 8))]) hx hb dX4_faultPlace_33 rfl hl (Nat.le_of_ble_eq_true rfl) rfl (fun ls hl => ?_)
              refine lv_iload_n hx hb dX4_faultPlace_34 rfl (lv_at hl 0 rfl) ?_
              refine lv_if_eq (tgt := 59) hx hb dX4_faultPlace_35 (by decide) (fun hc => ?_) (fun hc => ?_)
              · have h := if_t _ hc h
                exact J_59 x1_2l h _ _ _ hP hS (lv_sub hl [2] rfl)
              · have h := if_f _ hc h
                refine lv_aload_n hx hb dX4_faultPlace_38 rfl (lv_at hl 3 rfl) ?_
                refine lv_iload_n hx hb dX4_faultPlace_39 rfl (lv_at hl 2 rfl) ?_
                refine lv_iconst (v := 1) hx hb dX4_faultPlace_40 ic_1 ?_
                refine lv_iadd hx hb dX4_faultPlace_41 ?_
                obtain ⟨v_42, hc_42, h⟩ := bo_s h
                refine x_goes (x_runV (As := [.int (x1_2l + (1 : Int32))]) (rest := []) F hP hS (c_X4_numberAt l D cT lo w ad (x1_2l + (1 : Int32)) v_42 hc_42) cw_X4_numberAt lk_X4_45 vi_X4_numberAt k_8 (n2 (hP.al 8 rfl)) rfl ⟨rfl, rfl, Nat.le_of_ble_eq_true rfl, Nat.le_of_ble_eq_true rfl⟩ hl.1 rfl (Nat.le_of_ble_eq_true rfl) dX4_faultPlace_42 ⟨Nat.zero_le _, Nat.zero_le _⟩) hS (fun H locs hP hS _ => ?_)
                refine lv_iload_n hx hb dX4_faultPlace_45 rfl (lv_at hl 1 rfl) ?_
                refine x_goes (x_runS (As := [.int v_12]) (rest := [.int v_42]) F hP hS (c_X4_leastBehind l D cT lo NB w ad v_12) cw_X4_leastBehind lk_X4_48 st_X4_leastBehind ⟨rfl, rfl, Nat.le_of_ble_eq_true rfl, Nat.le_of_ble_eq_true rfl⟩ hl.1 rfl (Nat.le_of_ble_eq_true rfl) dX4_faultPlace_46 ⟨Nat.zero_le _, Nat.zero_le _⟩) hS (fun H locs hP hS _ => ?_)
                refine lv_iload_n hx hb dX4_faultPlace_49 rfl (lv_at hl 1 rfl) ?_
                refine x_goes (x_runS (As := [.int v_12]) (rest := [.int (f_X4_leastBehind v_12), .int v_42]) F hP hS (c_X4_mostBehind l D cT lo NB w ad v_12) cw_X4_mostBehind lk_X4_42 st_X4_mostBehind ⟨rfl, rfl, Nat.le_of_ble_eq_true rfl, Nat.le_of_ble_eq_true rfl⟩ hl.1 rfl (Nat.le_of_ble_eq_true rfl) dX4_faultPlace_50 ⟨Nat.zero_le _, Nat.zero_le _⟩) hS (fun H locs hP hS _ => ?_)
                refine x_goesZ (x_runSN (As := [.int v_42, .int (f_X4_leastBehind v_12), .int (f_X4_mostBehind v_12)]) (rest := []) F hP hS (c_X11_within l D cT lo NB w ad v_42 (f_X4_leastBehind v_12) (f_X4_mostBehind v_12)) cw_X11_within nl_X4_23 st_X11_within ⟨rfl, rfl, Nat.le_of_ble_eq_true rfl, Nat.le_of_ble_eq_true rfl⟩ hl.1 rfl (Nat.le_of_ble_eq_true rfl) dX4_faultPlace_53 ⟨Nat.zero_le _, Nat.zero_le _⟩) hS (fun H locs hz_53 hP hS _ => ?_)
                refine lv_if_ne (tgt := 63) hx hb dX4_faultPlace_56 (by decide) (fun hc => ?_) (fun hc => ?_)
                · have h := if_f _ hc h
                  refine lv_iload_n hx hb dX4_faultPlace_63 rfl (lv_at hl 2 rfl) ?_
                  refine lv_iconst (v := 1) hx hb dX4_faultPlace_64 ic_1 ?_
                  refine lv_iload_n hx hb dX4_faultPlace_65 rfl (lv_at hl 0 rfl) ?_
                  refine lv_iadd hx hb dX4_faultPlace_66 ?_
                  refine lv_iadd hx hb dX4_faultPlace_67 ?_
                  refine y_let h (fun v_68 h => ?_)
                  refine lv_istore_n (lv' := [(1, .int v_68), (3, .int v_30), (2, .int v_12), (0, .ref (ad 8))]) hx hb dX4_faultPlace_68 rfl hl (Nat.le_of_ble_eq_true rfl) rfl (fun ls hl => ?_)
                  refine lv_iload_n hx hb dX4_faultPlace_69 rfl (lv_at hl 0 rfl) ?_
                  refine lv_aload_n hx hb dX4_faultPlace_70 rfl (lv_at hl 3 rfl) ?_
                  refine y_geti h F hP k_8 (n2 (hP.al 8 rfl)) fl_X4_27 rfl dX4_faultPlace_71 (fun v_71 h => ?_)
                  refine lv_icmp_ne (tgt := 79) hx hb dX4_faultPlace_74 (by decide) (fun hc => ?_) (fun hc => ?_)
                  · have h := if_f _ hc h
                    refine lv_aload_n hx hb dX4_faultPlace_79 rfl (lv_at hl 3 rfl) ?_
                    refine lv_iload_n hx hb dX4_faultPlace_80 rfl (lv_at hl 0 rfl) ?_
                    obtain ⟨v_81, hc_81, h⟩ := bo_s h
                    refine x_goes (x_runV (As := [.int v_68]) (rest := []) F hP hS (c_X4_byteAt l D cT lo w ad v_68 v_81 hc_81) cw_X4_byteAt lk_X4_31 vi_X4_byteAt k_8 (n2 (hP.al 8 rfl)) rfl ⟨rfl, rfl, Nat.le_of_ble_eq_true rfl, Nat.le_of_ble_eq_true rfl⟩ hl.1 rfl (Nat.le_of_ble_eq_true rfl) dX4_faultPlace_81 ⟨Nat.zero_le _, Nat.zero_le _⟩) hS (fun H locs hP hS _ => ?_)
                    refine lv_bipush (v := 59) hx hb dX4_faultPlace_84 ib_59 ?_
                    refine lv_icmp_eq (tgt := 91) hx hb dX4_faultPlace_86 (by decide) (fun hc => ?_) (fun hc => ?_)
                    · have h := if_t _ hc h
                      refine y_iinc (lv' := fun (v_91 : Int32) => [(1, .int v_91), (3, .int v_30), (2, .int v_12), (0, .ref (ad 8))]) h F ic_1 dX4_faultPlace_91 hl (kq := 0) rfl (Nat.le_of_ble_eq_true rfl) (fun _ => rfl) (fun v_91 ls hl h => ?_)
                      refine lv_goto (tgt := 2) hx hb dX4_faultPlace_94 (by decide) ?_
                      exact ih_2 v_91 h _ _ _ hP hS (lv_sub hl [0, 3] rfl)
                    · have h := if_f _ hc h
                      refine lv_iload_n hx hb dX4_faultPlace_89 rfl (lv_at hl 0 rfl) ?_
                      exact y_iretO h F hr hP hS hlk dX4_faultPlace_90
                  · have h := if_t _ hc h
                    refine lv_iconst (v := -1) hx hb dX4_faultPlace_77 ic_m1 ?_
                    exact y_iretO h F hr hP hS hlk dX4_faultPlace_78
                · have h := if_t _ hc h
                  exact J_59 x1_2l h _ _ _ hP hS (lv_sub hl [2] rfl)
            · have h := if_t _ hc h
              refine lv_iload_n hx hb dX4_faultPlace_24 rfl (lv_at hl 1 rfl) ?_
              exact y_iretO h F hr hP hS hlk dX4_faultPlace_25
      exact L_2 FU (0 : Int32) h _ _ _ hP hS (lv_sub hl [0, 1] rfl)
def f_X4_movesAsked (a1 : Int32) (a2 : Int32) : Int32 :=
if a1 = 98 then
a2
else if a1 = 100 then
a2
else if a1 = 108 then
(1 : Int32)
else if a1 = 114 then
(1 : Int32)
else 
(0 : Int32)
set_option maxRecDepth 100000 in
set_option maxHeartbeats 4000000 in
theorem c_X4_movesAsked (l : Launch) (D : va_G) (cT : Nat → ClassId) (lo nb : Nat) (w : Wd) (ad : Nat → Nat) (a1 : Int32) (a2 : Int32) : Met l yX4_movesAsked (.code yX4_movesAsked cX4_movesAsked 2 (some .int) :: TW) { frames := 0, cells := 0, slots := 0, locals := 0 } (mPc D cT lo nb w ad [.int a1, .int a2]) (mQ D cT lo nb w w ad (some (.int (f_X4_movesAsked a1 a2)))) 0 0 (fun q => lo ≤ q) := by
  obtain ⟨r, h⟩ : ∃ r, f_X4_movesAsked a1 a2 = r := ⟨_, rfl⟩
  rw [h]
  unfold f_X4_movesAsked at h
  refine x_met (lv := [(0, .int a1), (1, .int a2)]) (by decide +kernel) (Nat.le_of_ble_eq_true rfl) rfl ?_
  intro p e s m args below meth c ls F hr hlk hP hin hl
  have hx := F.1
  have hb := F.2.1
  have hS : va_S (fun q => lo ≤ q) s.heap s.heap [] := va_S.rf
  refine lv_iload_n hx hb dX4_movesAsked_0 rfl (lv_at hl 0 rfl) ?_
  by_cases hc0 : a1 = 98
  · have h := if_t _ hc0 h
    refine lv_lookup (off := 43) (tgt := 44) hx hb dX4_movesAsked_1 (by decide) (by rw [hc0]; decide) (by decide) ?_
    refine lv_iload_n hx hb dX4_movesAsked_44 rfl (lv_at hl 1 rfl) ?_
    exact y_iretP h F hr hP hS hlk dX4_movesAsked_45
  have h := if_f _ hc0 h
  by_cases hc1 : a1 = 100
  · have h := if_t _ hc1 h
    refine lv_lookup (off := 43) (tgt := 44) hx hb dX4_movesAsked_1 (by decide) (by rw [hc1]; decide) (by decide) ?_
    refine lv_iload_n hx hb dX4_movesAsked_44 rfl (lv_at hl 1 rfl) ?_
    exact y_iretP h F hr hP hS hlk dX4_movesAsked_45
  have h := if_f _ hc1 h
  by_cases hc2 : a1 = 108
  · have h := if_t _ hc2 h
    refine lv_lookup (off := 45) (tgt := 46) hx hb dX4_movesAsked_1 (by decide) (by rw [hc2]; decide) (by decide) ?_
    refine lv_iconst (v := 1) hx hb dX4_movesAsked_46 ic_1 ?_
    exact y_iretP h F hr hP hS hlk dX4_movesAsked_47
  have h := if_f _ hc2 h
  by_cases hc3 : a1 = 114
  · have h := if_t _ hc3 h
    refine lv_lookup (off := 45) (tgt := 46) hx hb dX4_movesAsked_1 (by decide) (by rw [hc3]; decide) (by decide) ?_
    refine lv_iconst (v := 1) hx hb dX4_movesAsked_46 ic_1 ?_
    exact y_iretP h F hr hP hS hlk dX4_movesAsked_47
  have h := if_f _ hc3 h
  refine lv_lookup (off := 47) (tgt := 48) hx hb dX4_movesAsked_1 (by decide) (lk_out [((98 : Int32), (43 : Int)), ((100 : Int32), (43 : Int)), ((108 : Int32), (45 : Int)), ((114 : Int32), (45 : Int))] 47 (by decide) (by simp [hc0, hc1, hc2, hc3])) (by decide) ?_
  refine lv_iconst (v := 0) hx hb dX4_movesAsked_48 ic_0 ?_
  exact y_iretP h F hr hP hS hlk dX4_movesAsked_49
def f_X4_moveOf (a1 : Int32) (a2 : Int32) : Int32 :=
if a1 = 98 then
(1 : Int32)
else if a1 = 100 then
(0 : Int32)
else if a1 = 108 then
(2 : Int32) + a2
else 
(6 : Int32) + a2
set_option maxRecDepth 100000 in
set_option maxHeartbeats 4000000 in
theorem c_X4_moveOf (l : Launch) (D : va_G) (cT : Nat → ClassId) (lo nb : Nat) (w : Wd) (ad : Nat → Nat) (a1 : Int32) (a2 : Int32) : Met l yX4_moveOf (.code yX4_moveOf cX4_moveOf 2 (some .int) :: TW) { frames := 0, cells := 0, slots := 0, locals := 0 } (mPc D cT lo nb w ad [.int a1, .int a2]) (mQ D cT lo nb w w ad (some (.int (f_X4_moveOf a1 a2)))) 0 0 (fun q => lo ≤ q) := by
  obtain ⟨r, h⟩ : ∃ r, f_X4_moveOf a1 a2 = r := ⟨_, rfl⟩
  rw [h]
  unfold f_X4_moveOf at h
  refine x_met (lv := [(0, .int a1), (1, .int a2)]) (by decide +kernel) (Nat.le_of_ble_eq_true rfl) rfl ?_
  intro p e s m args below meth c ls F hr hlk hP hin hl
  have hx := F.1
  have hb := F.2.1
  have hS : va_S (fun q => lo ≤ q) s.heap s.heap [] := va_S.rf
  refine lv_iload_n hx hb dX4_moveOf_0 rfl (lv_at hl 0 rfl) ?_
  by_cases hc0 : a1 = 98
  · have h := if_t _ hc0 h
    refine lv_lookup (off := 37) (tgt := 38) hx hb dX4_moveOf_1 (by decide) (by rw [hc0]; decide) (by decide) ?_
    refine lv_iconst (v := 1) hx hb dX4_moveOf_38 ic_1 ?_
    exact y_iretP h F hr hP hS hlk dX4_moveOf_39
  have h := if_f _ hc0 h
  by_cases hc1 : a1 = 100
  · have h := if_t _ hc1 h
    refine lv_lookup (off := 35) (tgt := 36) hx hb dX4_moveOf_1 (by decide) (by rw [hc1]; decide) (by decide) ?_
    refine lv_iconst (v := 0) hx hb dX4_moveOf_36 ic_0 ?_
    exact y_iretP h F hr hP hS hlk dX4_moveOf_37
  have h := if_f _ hc1 h
  by_cases hc2 : a1 = 108
  · have h := if_t _ hc2 h
    refine lv_lookup (off := 39) (tgt := 40) hx hb dX4_moveOf_1 (by decide) (by rw [hc2]; decide) (by decide) ?_
    refine lv_iconst (v := 2) hx hb dX4_moveOf_40 ic_2 ?_
    refine lv_iload_n hx hb dX4_moveOf_41 rfl (lv_at hl 1 rfl) ?_
    refine lv_iadd hx hb dX4_moveOf_42 ?_
    exact y_iretP h F hr hP hS hlk dX4_moveOf_43
  have h := if_f _ hc2 h
  refine lv_lookup (off := 43) (tgt := 44) hx hb dX4_moveOf_1 (by decide) (lk_out [((98 : Int32), (37 : Int)), ((100 : Int32), (35 : Int)), ((108 : Int32), (39 : Int))] 43 (by decide) (by simp [hc0, hc1, hc2])) (by decide) ?_
  refine lv_bipush (v := 6) hx hb dX4_moveOf_44 ib_6 ?_
  refine lv_iload_n hx hb dX4_moveOf_46 rfl (lv_at hl 1 rfl) ?_
  refine lv_iadd hx hb dX4_moveOf_47 ?_
  exact y_iretP h F hr hP hS hlk dX4_moveOf_48
def f_X4_otherDone (w : Wd) (a1 : Int32) (a2 : Int32) : Option (Int32 × Wd) :=
if a1 = (119 : Int32) then
q_bi (f_X8_lower w a2 (1 : Int32)) (fun v_12 w_12 =>
if v_12 = (-2 : Int32) then
some ((0 : Int32), w_12)
else
some ((1 : Int32), w_12))
else
if a1 = (102 : Int32) then
q_pt w 3 3 a2 (fun w_37 =>
some ((1 : Int32), w_37))
else
some ((1 : Int32), w)
set_option maxRecDepth 100000 in
set_option maxHeartbeats 4000000 in
theorem c_X4_otherDone (l : Launch) (D : va_G) (cT : Nat → ClassId) (lo : Nat) (w : Wd) (ad : Nat → Nat) (a1 : Int32) (a2 : Int32) (r : Int32) (w9 : Wd) (h : f_X4_otherDone w a1 a2 = some (r, w9)) : Met l yX4_otherDone (.code yX4_otherDone cX4_otherDone 3 (some .boolean) :: TW) { frames := 2, cells := 0, slots := 0, locals := 45 } (mPc D cT lo NB w ad [.ref (ad 8), .int a1, .int a2]) (mQz D cT lo NB w w9 ad r) 0 0 (fun q => lo ≤ q) := by
  unfold f_X4_otherDone at h
  refine x_met (lv := [(0, .ref (ad 8)), (1, .int a1), (2, .int a2)]) (by decide +kernel) (Nat.le_of_ble_eq_true rfl) rfl ?_
  intro p e s m args below meth c ls F hr hlk hP hin hl
  have hx := F.1
  have hb := F.2.1
  have hS : va_S (fun q => lo ≤ q) s.heap s.heap [] := va_S.rf
  have hM_w : mono w w := mono.refl
  refine lv_iload_n hx hb dX4_otherDone_0 rfl (lv_at hl 1 rfl) ?_
  refine lv_bipush (v := 119) hx hb dX4_otherDone_1 ib_119 ?_
  refine lv_icmp_ne (tgt := 26) hx hb dX4_otherDone_3 (by decide) (fun hc => ?_) (fun hc => ?_)
  · have h := if_f _ hc h
    refine lv_iload_n hx hb dX4_otherDone_26 rfl (lv_at hl 1 rfl) ?_
    refine lv_bipush (v := 102) hx hb dX4_otherDone_27 ib_102 ?_
    refine lv_icmp_ne (tgt := 40) hx hb dX4_otherDone_29 (by decide) (fun hc => ?_) (fun hc => ?_)
    · have h := if_f _ hc h
      refine lv_iconst (v := 1) hx hb dX4_otherDone_40 ic_1 ?_
      exact y_zretM h F hr hP hS mono.refl hlk rfl dX4_otherDone_41
    · have h := if_t _ hc h
      refine lv_aload_n hx hb dX4_otherDone_32 rfl (lv_at hl 0 rfl) ?_
      refine x_getr F hP k_8 (hP.al 8 rfl) fl_X4_19 rfl r_8_1 dX4_otherDone_33 ?_
      refine lv_iload_n hx hb dX4_otherDone_36 rfl (lv_at hl 2 rfl) ?_
      refine y_puti h F hP hS k_3 (n2 (hP.al 3 rfl)) fl_X4_74 rfl dX4_otherDone_37 (fun w_37 H locs hm h hP hS => ?_)
      have hM_w := hm
      refine lv_iconst (v := 1) hx hb dX4_otherDone_40 ic_1 ?_
      exact y_zretM h F hr hP hS hM_w hlk rfl dX4_otherDone_41
  · have h := if_t _ hc h
    refine lv_aload_n hx hb dX4_otherDone_6 rfl (lv_at hl 0 rfl) ?_
    refine x_getr F hP k_8 (hP.al 8 rfl) fl_X4_15 rfl r_8_0 dX4_otherDone_7 ?_
    refine lv_iload_n hx hb dX4_otherDone_10 rfl (lv_at hl 2 rfl) ?_
    refine lv_iconst (v := 1) hx hb dX4_otherDone_11 ic_1 ?_
    obtain ⟨v_12, w_12, hc_12, h⟩ := bi_s h
    refine x_goes (x_runV (As := [.int a2, .int (1 : Int32)]) (rest := []) F hP hS (c_X8_lower l D cT lo w ad a2 (1 : Int32) v_12 w_12 hc_12) cw_X8_lower lk_X4_68 vi_X8_lower k_2 (n2 (hP.al 2 rfl)) rfl ⟨rfl, rfl, Nat.le_of_ble_eq_true rfl, Nat.le_of_ble_eq_true rfl⟩ hl.1 rfl (Nat.le_of_ble_eq_true rfl) dX4_otherDone_12 ⟨Nat.zero_le _, Nat.zero_le _⟩) hS (fun H locs hP hS hm => ?_)
    have hM_w := hm
    refine lv_bipush (v := -2) hx hb dX4_otherDone_15 ib_m2 ?_
    refine lv_icmp_eq (tgt := 24) hx hb dX4_otherDone_17 (by decide) (fun hc => ?_) (fun hc => ?_)
    · have h := if_t _ hc h
      refine lv_iconst (v := 0) hx hb dX4_otherDone_24 ic_0 ?_
      exact y_zretM h F hr hP hS hM_w hlk rfl dX4_otherDone_25
    · have h := if_f _ hc h
      refine lv_iconst (v := 1) hx hb dX4_otherDone_20 ic_1 ?_
      refine lv_goto (tgt := 25) hx hb dX4_otherDone_21 (by decide) ?_
      exact y_zretM h F hr hP hS hM_w hlk rfl dX4_otherDone_25
def l_X4_carryOut_40 (a1 : Nat) (v_14 : Int32) (v_23 : Int32) (v_35 : Int32) (j_76 : Wd → Int32 → Option (Int32 × Wd)) : Nat → Wd → Int32 → Int32 → Option (Int32 × Wd)
  | 0, _, _, _ => none
  | n_40 + 1, w_40l, x7_40l, x2_40l =>
    if v_35 ≤ x7_40l then
    j_76 w_40l x2_40l
    else
    q_bi (f_X3_drive w_40l a1 (f_X4_moveOf v_14 v_23)) (fun v_59 w_59 =>
    if v_59 = 0 then
    some (x2_40l, w_59)
    else
    q_lt (x2_40l + (1 : Int32)) (fun v_67 =>
    q_lt (x7_40l + (1 : Int32)) (fun v_70 =>
    l_X4_carryOut_40 a1 v_14 v_23 v_35 j_76 n_40 w_59 v_70 v_67)))
def l_X4_carryOut_4 (a1 : Nat) : Nat → Wd → Int32 → Int32 → Option (Int32 × Wd)
  | 0, _, _, _ => none
  | n_4 + 1, w_4l, x3_4l, x2_4l =>
    q_gt w_4l 8 3 (fun v_6 =>
    if v_6 ≤ x3_4l then
    some (x2_4l, w_4l)
    else
    q_bo (f_X4_byteAt w_4l x3_4l) (fun v_14 =>
    q_bo (f_X4_numberAt w_4l (x3_4l + (1 : Int32))) (fun v_23 =>
    q_lt (f_X4_movesAsked v_14 v_23) (fun v_35 =>
    q_jn (fun (w_76j : Wd) (x2_76 : Int32) =>
    q_bi (f_X4_otherDone w_76j v_14 v_23) (fun v_81 w_81 =>
    if v_81 = 0 then
    some (x2_76, w_81)
    else
    q_bo (f_X4_figuresAt w_81 (x3_4l + (1 : Int32))) (fun v_95 =>
    q_lt (x3_4l + ((2 : Int32) + v_95)) (fun v_100 =>
    l_X4_carryOut_4 a1 n_4 w_81 v_100 x2_76)))) (fun j_76 =>
    l_X4_carryOut_40 a1 v_14 v_23 v_35 j_76 FU w_4l (0 : Int32) x2_4l)))))
def f_X4_carryOut (w : Wd) (a1 : Nat) : Option (Int32 × Wd) :=
l_X4_carryOut_4 a1 FU w (0 : Int32) (0 : Int32)
set_option maxRecDepth 100000 in
set_option maxHeartbeats 4000000 in
theorem c_X4_carryOut (l : Launch) (D : va_G) (cT : Nat → ClassId) (lo : Nat) (w : Wd) (ad : Nat → Nat) (a1 : Nat) (hk1 : kt a1 = (11, 0)) (ha1 : wA w a1 = 2) (r : Int32) (w9 : Wd) (h : f_X4_carryOut w a1 = some (r, w9)) : Met l yX4_carryOut (.code yX4_carryOut cX4_carryOut 8 (some .int) :: TW) { frames := 6, cells := 0, slots := 0, locals := 146 } (mPc D cT lo NB w ad [.ref (ad 8), .ref (ad a1)]) (mQ D cT lo NB w w9 ad (some (.int r))) 0 0 (fun q => lo ≤ q) := by
  unfold f_X4_carryOut at h
  refine x_met (lv := [(0, .ref (ad 8)), (1, .ref (ad a1))]) (by decide +kernel) (Nat.le_of_ble_eq_true rfl) rfl ?_
  intro p e s m args below meth c ls F hr hlk hP hin hl
  have hx := F.1
  have hb := F.2.1
  have hS : va_S (fun q => lo ≤ q) s.heap s.heap [] := va_S.rf
  have hM_w : mono w w := mono.refl
  refine lv_iconst (v := 0) hx hb dX4_carryOut_0 ic_0 ?_
  refine lv_istore_n (lv' := [(2, .int (0 : Int32)), (0, .ref (ad 8)), (1, .ref (ad a1))]) hx hb dX4_carryOut_1 rfl hl (Nat.le_of_ble_eq_true rfl) rfl (fun ls hl => ?_)
  refine lv_iconst (v := 0) hx hb dX4_carryOut_2 ic_0 ?_
  refine lv_istore_n (lv' := [(3, .int (0 : Int32)), (2, .int (0 : Int32)), (0, .ref (ad 8)), (1, .ref (ad a1))]) hx hb dX4_carryOut_3 rfl hl (Nat.le_of_ble_eq_true rfl) rfl (fun ls hl => ?_)
  have L_4 : ∀ (n_4 : Nat) (w_4l : Wd) (x3_4l : Int32) (x2_4l : Int32), mono w w_4l → l_X4_carryOut_4 a1 n_4 w_4l x3_4l x2_4l = some (r, w9) → GG p l e { frames := 6, cells := 0, slots := 0, locals := 146 } s m args below meth c 0 0 (MQ below (mQ D cT lo NB w w9 ad (some (.int r))) args s 0 0 (fun q => lo ≤ q)) D cT lo NB 8 ad w_4l 4 [(3, .int x3_4l), (2, .int x2_4l), (0, .ref (ad 8)), (1, .ref (ad a1))] [] := by
    intro n_4
    induction n_4 with
    | zero =>
      intro w_4l x3_4l x2_4l _ h
      exact absurd h (by unfold l_X4_carryOut_4; exact fun z => by cases z)
    | succ n_4 ih_4 =>
      intro w_4l x3_4l x2_4l hm h H locs ls hP hS hl
      unfold l_X4_carryOut_4 at h
      have hM_w := hm
      have ha1 := hm.2 _ ha1
      refine lv_iload_n hx hb dX4_carryOut_4 rfl (lv_at hl 0 rfl) ?_
      refine lv_aload_n hx hb dX4_carryOut_5 rfl (lv_at hl 2 rfl) ?_
      refine y_geti h F hP k_8 (n2 (hP.al 8 rfl)) fl_X4_27 rfl dX4_carryOut_6 (fun v_6 h => ?_)
      refine lv_icmp_ge (tgt := 104) hx hb dX4_carryOut_9 (by decide) (fun hc => ?_) (fun hc => ?_)
      · have h := if_t _ hc h
        refine lv_iload_n hx hb dX4_carryOut_104 rfl (lv_at hl 1 rfl) ?_
        exact y_iretM h F hr hP hS hM_w hlk dX4_carryOut_105
      · have h := if_f _ hc h
        refine lv_aload_n hx hb dX4_carryOut_12 rfl (lv_at hl 2 rfl) ?_
        refine lv_iload_n hx hb dX4_carryOut_13 rfl (lv_at hl 0 rfl) ?_
        obtain ⟨v_14, hc_14, h⟩ := bo_s h
        refine x_goes (x_runV (As := [.int x3_4l]) (rest := []) F hP hS (c_X4_byteAt l D cT lo w_4l ad x3_4l v_14 hc_14) cw_X4_byteAt lk_X4_31 vi_X4_byteAt k_8 (n2 (hP.al 8 rfl)) rfl ⟨rfl, rfl, Nat.le_of_ble_eq_true rfl, Nat.le_of_ble_eq_true rfl⟩ hl.1 rfl (Nat.le_of_ble_eq_true rfl) dX4_carryOut_14 ⟨Nat.zero_le _, Nat.zero_le _⟩) hS (fun H locs hP hS _ => ?_)
        refine lv_istore (lv' := [(4, .int v_14), (3, .int x3_4l), (2, .int x2_4l), (0, .ref (ad 8)), (1, .ref (ad a1))]) hx hb dX4_carryOut_17 hl (Nat.le_of_ble_eq_true rfl) rfl (fun ls hl => ?_)
        refine lv_aload_n hx hb dX4_carryOut_19 rfl (lv_at hl 3 rfl) ?_
        refine lv_iload_n hx hb dX4_carryOut_20 rfl (lv_at hl 1 rfl) ?_
        refine lv_iconst (v := 1) hx hb dX4_carryOut_21 ic_1 ?_
        refine lv_iadd hx hb dX4_carryOut_22 ?_
        obtain ⟨v_23, hc_23, h⟩ := bo_s h
        refine x_goes (x_runV (As := [.int (x3_4l + (1 : Int32))]) (rest := []) F hP hS (c_X4_numberAt l D cT lo w_4l ad (x3_4l + (1 : Int32)) v_23 hc_23) cw_X4_numberAt lk_X4_45 vi_X4_numberAt k_8 (n2 (hP.al 8 rfl)) rfl ⟨rfl, rfl, Nat.le_of_ble_eq_true rfl, Nat.le_of_ble_eq_true rfl⟩ hl.1 rfl (Nat.le_of_ble_eq_true rfl) dX4_carryOut_23 ⟨Nat.zero_le _, Nat.zero_le _⟩) hS (fun H locs hP hS _ => ?_)
        refine lv_istore (lv' := [(5, .int v_23), (4, .int v_14), (3, .int x3_4l), (2, .int x2_4l), (0, .ref (ad 8)), (1, .ref (ad a1))]) hx hb dX4_carryOut_26 hl (Nat.le_of_ble_eq_true rfl) rfl (fun ls hl => ?_)
        refine lv_iload hx hb dX4_carryOut_28 (lv_at hl 1 rfl) ?_
        refine lv_iload hx hb dX4_carryOut_30 (lv_at hl 0 rfl) ?_
        refine x_goes (x_runS (As := [.int v_14, .int v_23]) (rest := []) F hP hS (c_X4_movesAsked l D cT lo NB w_4l ad v_14 v_23) cw_X4_movesAsked lk_X4_51 st_X4_movesAsked ⟨rfl, rfl, Nat.le_of_ble_eq_true rfl, Nat.le_of_ble_eq_true rfl⟩ hl.1 rfl (Nat.le_of_ble_eq_true rfl) dX4_carryOut_32 ⟨Nat.zero_le _, Nat.zero_le _⟩) hS (fun H locs hP hS _ => ?_)
        refine y_let h (fun v_35 h => ?_)
        refine lv_istore (lv' := [(6, .int v_35), (5, .int v_23), (4, .int v_14), (3, .int x3_4l), (2, .int x2_4l), (0, .ref (ad 8)), (1, .ref (ad a1))]) hx hb dX4_carryOut_35 hl (Nat.le_of_ble_eq_true rfl) rfl (fun ls hl => ?_)
        refine lv_iconst (v := 0) hx hb dX4_carryOut_37 ic_0 ?_
        refine lv_istore (lv' := [(7, .int (0 : Int32)), (6, .int v_35), (5, .int v_23), (4, .int v_14), (3, .int x3_4l), (2, .int x2_4l), (0, .ref (ad 8)), (1, .ref (ad a1))]) hx hb dX4_carryOut_38 hl (Nat.le_of_ble_eq_true rfl) rfl (fun ls hl => ?_)
        refine jn_use (fun (j_76 : Wd → Int32 → Option (Int32 × Wd)) => ∀ (w_76j : Wd) (x2_76 : Int32), mono w_4l w_76j → j_76 w_76j x2_76 = some (r, w9) → GG p l e { frames := 6, cells := 0, slots := 0, locals := 146 } s m args below meth c 0 0 (MQ below (mQ D cT lo NB w w9 ad (some (.int r))) args s 0 0 (fun q => lo ≤ q)) D cT lo NB 8 ad w_76j 76 [(5, .int v_23), (4, .int v_14), (3, .int x3_4l), (2, .int x2_76), (0, .ref (ad 8)), (1, .ref (ad a1))] []) h (fun w_76j x2_76 hm h H locs ls hP hS hl => ?_) (fun j_76 J_76 h => ?_)
        · have hM_w := hM_w.trans hm
          have hM_w_4l := hm
          have ha1 := hm.2 _ ha1
          refine lv_aload_n hx hb dX4_carryOut_76 rfl (lv_at hl 4 rfl) ?_
          refine lv_iload hx hb dX4_carryOut_77 (lv_at hl 1 rfl) ?_
          refine lv_iload hx hb dX4_carryOut_79 (lv_at hl 0 rfl) ?_
          obtain ⟨v_81, w_81, hc_81, h⟩ := bi_s h
          refine x_goesZ (x_runV (As := [.int v_14, .int v_23]) (rest := []) F hP hS (c_X4_otherDone l D cT lo w_76j ad v_14 v_23 v_81 w_81 hc_81) cw_X4_otherDone lk_X4_64 vi_X4_otherDone k_8 (n2 (hP.al 8 rfl)) rfl ⟨rfl, rfl, Nat.le_of_ble_eq_true rfl, Nat.le_of_ble_eq_true rfl⟩ hl.1 rfl (Nat.le_of_ble_eq_true rfl) dX4_carryOut_81 ⟨Nat.zero_le _, Nat.zero_le _⟩) hS (fun H locs hz_81 hP hS hm => ?_)
          have hM_w := hM_w.trans hm
          have hM_w_4l := hM_w_4l.trans hm
          have ha1 := hm.2 _ ha1
          refine lv_if_ne (tgt := 89) hx hb dX4_carryOut_84 (by decide) (fun hc => ?_) (fun hc => ?_)
          · have h := if_f _ hc h
            refine lv_iload_n hx hb dX4_carryOut_89 rfl (lv_at hl 2 rfl) ?_
            refine lv_iconst (v := 2) hx hb dX4_carryOut_90 ic_2 ?_
            refine lv_aload_n hx hb dX4_carryOut_91 rfl (lv_at hl 4 rfl) ?_
            refine lv_iload_n hx hb dX4_carryOut_92 rfl (lv_at hl 2 rfl) ?_
            refine lv_iconst (v := 1) hx hb dX4_carryOut_93 ic_1 ?_
            refine lv_iadd hx hb dX4_carryOut_94 ?_
            obtain ⟨v_95, hc_95, h⟩ := bo_s h
            refine x_goes (x_runV (As := [.int (x3_4l + (1 : Int32))]) (rest := [.int (2 : Int32), .int x3_4l]) F hP hS (c_X4_figuresAt l D cT lo w_81 ad (x3_4l + (1 : Int32)) v_95 hc_95) cw_X4_figuresAt lk_X4_39 vi_X4_figuresAt k_8 (n2 (hP.al 8 rfl)) rfl ⟨rfl, rfl, Nat.le_of_ble_eq_true rfl, Nat.le_of_ble_eq_true rfl⟩ hl.1 rfl (Nat.le_of_ble_eq_true rfl) dX4_carryOut_95 ⟨Nat.zero_le _, Nat.zero_le _⟩) hS (fun H locs hP hS _ => ?_)
            refine lv_iadd hx hb dX4_carryOut_98 ?_
            refine lv_iadd hx hb dX4_carryOut_99 ?_
            refine y_let h (fun v_100 h => ?_)
            refine lv_istore_n (lv' := [(3, .int v_100), (5, .int v_23), (4, .int v_14), (2, .int x2_76), (0, .ref (ad 8)), (1, .ref (ad a1))]) hx hb dX4_carryOut_100 rfl hl (Nat.le_of_ble_eq_true rfl) rfl (fun ls hl => ?_)
            refine lv_goto (tgt := 4) hx hb dX4_carryOut_101 (by decide) ?_
            exact ih_4 w_81 v_100 x2_76 hM_w h _ _ _ hP hS (lv_sub hl [0, 3, 4, 5] rfl)
          · have h := if_t _ hc h
            refine lv_iload_n hx hb dX4_carryOut_87 rfl (lv_at hl 3 rfl) ?_
            exact y_iretM h F hr hP hS hM_w hlk dX4_carryOut_88
        · have L_40 : ∀ (n_40 : Nat) (w_40l : Wd) (x7_40l : Int32) (x2_40l : Int32), mono w_4l w_40l → l_X4_carryOut_40 a1 v_14 v_23 v_35 j_76 n_40 w_40l x7_40l x2_40l = some (r, w9) → GG p l e { frames := 6, cells := 0, slots := 0, locals := 146 } s m args below meth c 0 0 (MQ below (mQ D cT lo NB w w9 ad (some (.int r))) args s 0 0 (fun q => lo ≤ q)) D cT lo NB 8 ad w_40l 40 [(7, .int x7_40l), (6, .int v_35), (5, .int v_23), (4, .int v_14), (3, .int x3_4l), (2, .int x2_40l), (0, .ref (ad 8)), (1, .ref (ad a1))] [] := by
            intro n_40
            induction n_40 with
            | zero =>
              intro w_40l x7_40l x2_40l _ h
              exact absurd h (by unfold l_X4_carryOut_40; exact fun z => by cases z)
            | succ n_40 ih_40 =>
              intro w_40l x7_40l x2_40l hm h H locs ls hP hS hl
              unfold l_X4_carryOut_40 at h
              have hM_w := hM_w.trans hm
              have hM_w_4l := hm
              have ha1 := hm.2 _ ha1
              refine lv_iload hx hb dX4_carryOut_40 (lv_at hl 0 rfl) ?_
              refine lv_iload hx hb dX4_carryOut_42 (lv_at hl 1 rfl) ?_
              refine lv_icmp_ge (tgt := 76) hx hb dX4_carryOut_44 (by decide) (fun hc => ?_) (fun hc => ?_)
              · have h := if_t _ hc h
                exact J_76 w_40l x2_40l hM_w_4l h _ _ _ hP hS (lv_sub hl [2, 3, 4, 5, 6, 7] rfl)
              · have h := if_f _ hc h
                refine lv_aload_n hx hb dX4_carryOut_47 rfl (lv_at hl 6 rfl) ?_
                refine x_getr F hP k_8 (hP.al 8 rfl) fl_X4_19 rfl r_8_1 dX4_carryOut_48 ?_
                refine lv_aload_n hx hb dX4_carryOut_51 rfl (lv_at hl 7 rfl) ?_
                refine lv_iload hx hb dX4_carryOut_52 (lv_at hl 3 rfl) ?_
                refine lv_iload hx hb dX4_carryOut_54 (lv_at hl 2 rfl) ?_
                refine x_goes (x_runS (As := [.int v_14, .int v_23]) (rest := [.ref (ad a1), .ref (ad 3)]) F hP hS (c_X4_moveOf l D cT lo NB w_40l ad v_14 v_23) cw_X4_moveOf lk_X4_55 st_X4_moveOf ⟨rfl, rfl, Nat.le_of_ble_eq_true rfl, Nat.le_of_ble_eq_true rfl⟩ hl.1 rfl (Nat.le_of_ble_eq_true rfl) dX4_carryOut_56 ⟨Nat.zero_le _, Nat.zero_le _⟩) hS (fun H locs hP hS _ => ?_)
                obtain ⟨v_59, w_59, hc_59, h⟩ := bi_s h
                refine x_goesZ (x_runV (As := [.ref (ad a1), .int (f_X4_moveOf v_14 v_23)]) (rest := []) F hP hS (c_X3_drive l D cT lo w_40l ad a1 hk1 ha1 (f_X4_moveOf v_14 v_23) v_59 w_59 hc_59) cw_X3_drive lk_X4_58 vi_X3_drive k_3 (n2 (hP.al 3 rfl)) rfl ⟨rfl, rfl, Nat.le_of_ble_eq_true rfl, Nat.le_of_ble_eq_true rfl⟩ hl.1 rfl (Nat.le_of_ble_eq_true rfl) dX4_carryOut_59 ⟨Nat.zero_le _, Nat.zero_le _⟩) hS (fun H locs hz_59 hP hS hm => ?_)
                have hM_w := hM_w.trans hm
                have hM_w_4l := hM_w_4l.trans hm
                have ha1 := hm.2 _ ha1
                refine lv_if_ne (tgt := 67) hx hb dX4_carryOut_62 (by decide) (fun hc => ?_) (fun hc => ?_)
                · have h := if_f _ hc h
                  refine y_iinc (lv' := fun (v_67 : Int32) => [(2, .int v_67), (7, .int x7_40l), (6, .int v_35), (5, .int v_23), (4, .int v_14), (3, .int x3_4l), (0, .ref (ad 8)), (1, .ref (ad a1))]) h F ic_1 dX4_carryOut_67 hl (kq := 5) rfl (Nat.le_of_ble_eq_true rfl) (fun _ => rfl) (fun v_67 ls hl h => ?_)
                  refine y_iinc (lv' := fun (v_70 : Int32) => [(7, .int v_70), (2, .int v_67), (6, .int v_35), (5, .int v_23), (4, .int v_14), (3, .int x3_4l), (0, .ref (ad 8)), (1, .ref (ad a1))]) h F ic_1 dX4_carryOut_70 hl (kq := 1) rfl (Nat.le_of_ble_eq_true rfl) (fun _ => rfl) (fun v_70 ls hl h => ?_)
                  refine lv_goto (tgt := 40) hx hb dX4_carryOut_73 (by decide) ?_
                  exact ih_40 w_59 v_70 v_67 hM_w_4l h _ _ _ hP hS (lv_sub hl [0, 2, 3, 4, 5, 1, 6, 7] rfl)
                · have h := if_t _ hc h
                  refine lv_iload_n hx hb dX4_carryOut_65 rfl (lv_at hl 5 rfl) ?_
                  exact y_iretM h F hr hP hS hM_w hlk dX4_carryOut_66
          exact L_40 FU w_4l (0 : Int32) x2_4l mono.refl h _ _ _ hP hS (lv_sub hl [0, 1, 2, 3, 4, 5, 6, 7] rfl)
  exact L_4 FU w (0 : Int32) (0 : Int32) mono.refl h _ _ _ hP hS (lv_sub hl [0, 1, 2, 3] rfl)
def f_X6_isSheet (a1 : Int32) : Int32 :=
f_X11_within a1 (0 : Int32) (3 : Int32)
set_option maxRecDepth 100000 in
set_option maxHeartbeats 4000000 in
theorem c_X6_isSheet (l : Launch) (D : va_G) (cT : Nat → ClassId) (lo nb : Nat) (w : Wd) (ad : Nat → Nat) (a1 : Int32) : Met l yX6_isSheet (.code yX6_isSheet cX6_isSheet 1 (some .boolean) :: TW) { frames := 1, cells := 0, slots := 0, locals := 22 } (mPc D cT lo nb w ad [.int a1]) (mQz D cT lo nb w w ad (f_X6_isSheet a1)) 0 0 (fun q => lo ≤ q) := by
  obtain ⟨r, h⟩ : ∃ r, f_X6_isSheet a1 = r := ⟨_, rfl⟩
  rw [h]
  unfold f_X6_isSheet at h
  refine x_met (lv := [(0, .int a1)]) (by decide +kernel) (Nat.le_of_ble_eq_true rfl) rfl ?_
  intro p e s m args below meth c ls F hr hlk hP hin hl
  have hx := F.1
  have hb := F.2.1
  have hS : va_S (fun q => lo ≤ q) s.heap s.heap [] := va_S.rf
  refine lv_iload_n hx hb dX6_isSheet_0 rfl (lv_at hl 0 rfl) ?_
  refine lv_iconst (v := 0) hx hb dX6_isSheet_1 ic_0 ?_
  refine lv_iconst (v := 3) hx hb dX6_isSheet_2 ic_3 ?_
  refine x_goesZ (x_runSN (As := [.int a1, .int (0 : Int32), .int (3 : Int32)]) (rest := []) F hP hS (c_X11_within l D cT lo nb w ad a1 (0 : Int32) (3 : Int32)) cw_X11_within nl_X6_29 st_X11_within ⟨rfl, rfl, Nat.le_of_ble_eq_true rfl, Nat.le_of_ble_eq_true rfl⟩ hl.1 rfl (Nat.le_of_ble_eq_true rfl) dX6_isSheet_3 ⟨Nat.zero_le _, Nat.zero_le _⟩) hS (fun H locs hz_3 hP hS _ => ?_)
  exact y_zretP h F hr hP hS hlk hz_3 dX6_isSheet_6
def f_X6_isForm (a1 : Int32) : Int32 :=
f_X11_within a1 (0 : Int32) (2 : Int32)
set_option maxRecDepth 100000 in
set_option maxHeartbeats 4000000 in
theorem c_X6_isForm (l : Launch) (D : va_G) (cT : Nat → ClassId) (lo nb : Nat) (w : Wd) (ad : Nat → Nat) (a1 : Int32) : Met l yX6_isForm (.code yX6_isForm cX6_isForm 1 (some .boolean) :: TW) { frames := 1, cells := 0, slots := 0, locals := 22 } (mPc D cT lo nb w ad [.int a1]) (mQz D cT lo nb w w ad (f_X6_isForm a1)) 0 0 (fun q => lo ≤ q) := by
  obtain ⟨r, h⟩ : ∃ r, f_X6_isForm a1 = r := ⟨_, rfl⟩
  rw [h]
  unfold f_X6_isForm at h
  refine x_met (lv := [(0, .int a1)]) (by decide +kernel) (Nat.le_of_ble_eq_true rfl) rfl ?_
  intro p e s m args below meth c ls F hr hlk hP hin hl
  have hx := F.1
  have hb := F.2.1
  have hS : va_S (fun q => lo ≤ q) s.heap s.heap [] := va_S.rf
  refine lv_iload_n hx hb dX6_isForm_0 rfl (lv_at hl 0 rfl) ?_
  refine lv_iconst (v := 0) hx hb dX6_isForm_1 ic_0 ?_
  refine lv_iconst (v := 2) hx hb dX6_isForm_2 ic_2 ?_
  refine x_goesZ (x_runSN (As := [.int a1, .int (0 : Int32), .int (2 : Int32)]) (rest := []) F hP hS (c_X11_within l D cT lo nb w ad a1 (0 : Int32) (2 : Int32)) cw_X11_within nl_X6_29 st_X11_within ⟨rfl, rfl, Nat.le_of_ble_eq_true rfl, Nat.le_of_ble_eq_true rfl⟩ hl.1 rfl (Nat.le_of_ble_eq_true rfl) dX6_isForm_3 ⟨Nat.zero_le _, Nat.zero_le _⟩) hS (fun H locs hz_3 hP hS _ => ?_)
  exact y_zretP h F hr hP hS hlk hz_3 dX6_isForm_6
def f_X6_find (w : Wd) (a1 : Int32) : Option (Int32 × Wd) :=
q_pt w 9 3 a1 (fun w_2 =>
some ((-10 : Int32) - a1, w_2))
set_option maxRecDepth 100000 in
set_option maxHeartbeats 4000000 in
theorem c_X6_find (l : Launch) (D : va_G) (cT : Nat → ClassId) (lo : Nat) (w : Wd) (ad : Nat → Nat) (a1 : Int32) (r : Int32) (w9 : Wd) (h : f_X6_find w a1 = some (r, w9)) : Met l yX6_find (.code yX6_find cX6_find 2 (some .int) :: TW) { frames := 0, cells := 0, slots := 0, locals := 0 } (mPc D cT lo NB w ad [.ref (ad 9), .int a1]) (mQ D cT lo NB w w9 ad (some (.int r))) 0 0 (fun q => lo ≤ q) := by
  unfold f_X6_find at h
  refine x_met (lv := [(0, .ref (ad 9)), (1, .int a1)]) (by decide +kernel) (Nat.le_of_ble_eq_true rfl) rfl ?_
  intro p e s m args below meth c ls F hr hlk hP hin hl
  have hx := F.1
  have hb := F.2.1
  have hS : va_S (fun q => lo ≤ q) s.heap s.heap [] := va_S.rf
  have hM_w : mono w w := mono.refl
  refine lv_aload_n hx hb dX6_find_0 rfl (lv_at hl 0 rfl) ?_
  refine lv_iload_n hx hb dX6_find_1 rfl (lv_at hl 1 rfl) ?_
  refine y_puti h F hP hS k_9 (n2 (hP.al 9 rfl)) fl_X6_33 rfl dX6_find_2 (fun w_2 H locs hm h hP hS => ?_)
  have hM_w := hm
  refine lv_bipush (v := -10) hx hb dX6_find_5 ib_m10 ?_
  refine lv_iload_n hx hb dX6_find_7 rfl (lv_at hl 1 rfl) ?_
  refine lv_isub hx hb dX6_find_8 ?_
  exact y_iretM h F hr hP hS hM_w hlk dX6_find_9
def f_X6_refusalOf (w : Wd) (a1 : Int32) : Option (Int32 × Wd) :=
if (f_X6_isSheet a1) = 0 then
some ((-2 : Int32), w)
else
q_ld w 61 4 a1 (fun v_15 =>
if v_15 = (-1 : Int32) then
q_bi (f_X6_find w (1 : Int32)) (fun v_22 w_22 =>
some (v_22, w_22))
else
some ((0 : Int32), w))
set_option maxRecDepth 100000 in
set_option maxHeartbeats 4000000 in
theorem c_X6_refusalOf (l : Launch) (D : va_G) (cT : Nat → ClassId) (lo : Nat) (w : Wd) (ad : Nat → Nat) (a1 : Int32) (r : Int32) (w9 : Wd) (h : f_X6_refusalOf w a1 = some (r, w9)) : Met l yX6_refusalOf (.code yX6_refusalOf cX6_refusalOf 2 (some .int) :: TW) { frames := 2, cells := 0, slots := 0, locals := 42 } (mPc D cT lo NB w ad [.ref (ad 9), .int a1]) (mQ D cT lo NB w w9 ad (some (.int r))) 0 0 (fun q => lo ≤ q) := by
  unfold f_X6_refusalOf at h
  refine x_met (lv := [(0, .ref (ad 9)), (1, .int a1)]) (by decide +kernel) (Nat.le_of_ble_eq_true rfl) rfl ?_
  intro p e s m args below meth c ls F hr hlk hP hin hl
  have hx := F.1
  have hb := F.2.1
  have hS : va_S (fun q => lo ≤ q) s.heap s.heap [] := va_S.rf
  have hM_w : mono w w := mono.refl
  refine lv_iload_n hx hb dX6_refusalOf_0 rfl (lv_at hl 1 rfl) ?_
  refine x_goesZ (x_runS (As := [.int a1]) (rest := []) F hP hS (c_X6_isSheet l D cT lo NB w ad a1) cw_X6_isSheet lk_X6_37 st_X6_isSheet ⟨rfl, rfl, Nat.le_of_ble_eq_true rfl, Nat.le_of_ble_eq_true rfl⟩ hl.1 rfl (Nat.le_of_ble_eq_true rfl) dX6_refusalOf_1 ⟨Nat.zero_le _, Nat.zero_le _⟩) hS (fun H locs hz_1 hP hS _ => ?_)
  refine lv_if_ne (tgt := 10) hx hb dX6_refusalOf_4 (by decide) (fun hc => ?_) (fun hc => ?_)
  · have h := if_f _ hc h
    refine lv_aload_n hx hb dX6_refusalOf_10 rfl (lv_at hl 0 rfl) ?_
    refine x_getr F hP k_9 (hP.al 9 rfl) fl_X6_16 rfl r_9_1 dX6_refusalOf_11 ?_
    refine lv_iload_n hx hb dX6_refusalOf_14 rfl (lv_at hl 1 rfl) ?_
    refine y_iald h F hP k_61 (n2 (hP.al 61 rfl)) dX6_refusalOf_15 (fun v_15 h => ?_)
    refine lv_iconst (v := -1) hx hb dX6_refusalOf_16 ic_m1 ?_
    refine lv_icmp_ne (tgt := 28) hx hb dX6_refusalOf_17 (by decide) (fun hc => ?_) (fun hc => ?_)
    · have h := if_f _ hc h
      refine lv_iconst (v := 0) hx hb dX6_refusalOf_28 ic_0 ?_
      exact y_iretM h F hr hP hS mono.refl hlk dX6_refusalOf_29
    · have h := if_t _ hc h
      refine lv_aload_n hx hb dX6_refusalOf_20 rfl (lv_at hl 0 rfl) ?_
      refine lv_iconst (v := 1) hx hb dX6_refusalOf_21 ic_1 ?_
      obtain ⟨v_22, w_22, hc_22, h⟩ := bi_s h
      refine x_goes (x_runV (As := [.int (1 : Int32)]) (rest := []) F hP hS (c_X6_find l D cT lo w ad (1 : Int32) v_22 w_22 hc_22) cw_X6_find lk_X6_41 vi_X6_find k_9 (n2 (hP.al 9 rfl)) rfl ⟨rfl, rfl, Nat.le_of_ble_eq_true rfl, Nat.le_of_ble_eq_true rfl⟩ hl.1 rfl (Nat.le_of_ble_eq_true rfl) dX6_refusalOf_22 ⟨Nat.zero_le _, Nat.zero_le _⟩) hS (fun H locs hP hS hm => ?_)
      have hM_w := hm
      refine lv_goto (tgt := 29) hx hb dX6_refusalOf_25 (by decide) ?_
      exact y_iretM h F hr hP hS hM_w hlk dX6_refusalOf_29
  · have h := if_t _ hc h
    refine lv_bipush (v := -2) hx hb dX6_refusalOf_7 ib_m2 ?_
    exact y_iretM h F hr hP hS mono.refl hlk dX6_refusalOf_9
def f_X6_renew (w : Wd) (a1 : Int32) (a2 : Int32) (a3 : Int32) : Option (Int32 × Wd) :=
if (f_X6_isSheet a1) = 0 then
some ((-2 : Int32), w)
else
if (f_X6_isForm a2) = 0 then
some ((-2 : Int32), w)
else
if a3 ≤ (60 : Int32) then
if 0 ≤ a3 then
q_ldq w 56 4 a1 (fun q_38 =>
q_bo (f_J7_fill_53178 w q_38 60 (0 : Int32)) (fun w_40 =>
q_st w_40 61 4 a1 a2 (fun w_49 =>
q_st w_49 62 4 a1 a3 (fun w_56 =>
some (a3, w_56)))))
else
q_bi (f_X6_find w (5 : Int32)) (fun v_29 w_29 =>
some (v_29, w_29))
else
some ((-2 : Int32), w)
set_option maxRecDepth 100000 in
set_option maxHeartbeats 4000000 in
theorem c_X6_renew (l : Launch) (D : va_G) (cT : Nat → ClassId) (lo : Nat) (w : Wd) (ad : Nat → Nat) (a1 : Int32) (a2 : Int32) (a3 : Int32) (r : Int32) (w9 : Wd) (h : f_X6_renew w a1 a2 a3 = some (r, w9)) : Met l yX6_renew (.code yX6_renew cX6_renew 4 (some .int) :: TW) { frames := 2, cells := 0, slots := 0, locals := 42 } (mPc D cT lo NB w ad [.ref (ad 9), .int a1, .int a2, .int a3]) (mQ D cT lo NB w w9 ad (some (.int r))) 0 0 (fun q => lo ≤ q) := by
  unfold f_X6_renew at h
  refine x_met (lv := [(0, .ref (ad 9)), (1, .int a1), (2, .int a2), (3, .int a3)]) (by decide +kernel) (Nat.le_of_ble_eq_true rfl) rfl ?_
  intro p e s m args below meth c ls F hr hlk hP hin hl
  have hx := F.1
  have hb := F.2.1
  have hS : va_S (fun q => lo ≤ q) s.heap s.heap [] := va_S.rf
  have hM_w : mono w w := mono.refl
  refine lv_iload_n hx hb dX6_renew_0 rfl (lv_at hl 1 rfl) ?_
  refine x_goesZ (x_runS (As := [.int a1]) (rest := []) F hP hS (c_X6_isSheet l D cT lo NB w ad a1) cw_X6_isSheet lk_X6_37 st_X6_isSheet ⟨rfl, rfl, Nat.le_of_ble_eq_true rfl, Nat.le_of_ble_eq_true rfl⟩ hl.1 rfl (Nat.le_of_ble_eq_true rfl) dX6_renew_1 ⟨Nat.zero_le _, Nat.zero_le _⟩) hS (fun H locs hz_1 hP hS _ => ?_)
  refine lv_if_eq (tgt := 20) hx hb dX6_renew_4 (by decide) (fun hc => ?_) (fun hc => ?_)
  · have h := if_t _ hc h
    refine lv_bipush (v := -2) hx hb dX6_renew_20 ib_m2 ?_
    exact y_iretM h F hr hP hS mono.refl hlk dX6_renew_22
  · have h := if_f _ hc h
    refine lv_iload_n hx hb dX6_renew_7 rfl (lv_at hl 2 rfl) ?_
    refine x_goesZ (x_runS (As := [.int a2]) (rest := []) F hP hS (c_X6_isForm l D cT lo NB w ad a2) cw_X6_isForm lk_X6_45 st_X6_isForm ⟨rfl, rfl, Nat.le_of_ble_eq_true rfl, Nat.le_of_ble_eq_true rfl⟩ hl.1 rfl (Nat.le_of_ble_eq_true rfl) dX6_renew_8 ⟨Nat.zero_le _, Nat.zero_le _⟩) hS (fun H locs hz_8 hP hS _ => ?_)
    refine lv_if_eq (tgt := 20) hx hb dX6_renew_11 (by decide) (fun hc => ?_) (fun hc => ?_)
    · have h := if_t _ hc h
      refine lv_bipush (v := -2) hx hb dX6_renew_20 ib_m2 ?_
      exact y_iretM h F hr hP hS mono.refl hlk dX6_renew_22
    · have h := if_f _ hc h
      refine lv_iload_n hx hb dX6_renew_14 rfl (lv_at hl 3 rfl) ?_
      refine lv_bipush (v := 60) hx hb dX6_renew_15 ib_60 ?_
      refine lv_icmp_le (tgt := 23) hx hb dX6_renew_17 (by decide) (fun hc => ?_) (fun hc => ?_)
      · have h := if_t _ hc h
        refine lv_iload_n hx hb dX6_renew_23 rfl (lv_at hl 3 rfl) ?_
        refine lv_if_ge (tgt := 33) hx hb dX6_renew_24 (by decide) (fun hc => ?_) (fun hc => ?_)
        · have h := if_t _ hc h
          refine lv_aload_n hx hb dX6_renew_33 rfl (lv_at hl 0 rfl) ?_
          refine x_getr F hP k_9 (hP.al 9 rfl) fl_X6_13 rfl r_9_0 dX6_renew_34 ?_
          refine lv_iload_n hx hb dX6_renew_37 rfl (lv_at hl 1 rfl) ?_
          refine y_aald h F hP k_56 (by decide) (by decide) (n2 (hP.al 56 rfl)) ek_56 dX6_renew_38 (fun q_38 hk_q_38 ha_q_38 h => ?_)
          refine lv_iconst (v := 0) hx hb dX6_renew_39 ic_0 ?_
          obtain ⟨w_40, hc_40, h⟩ := bo_s h
          refine x_goes (x_runS (As := [.ref (ad q_38), .int (0 : Int32)]) (rest := []) F hP hS (c_J7_fill_53178 l D cT lo NB w ad q_38 60 hk_q_38 ha_q_38 (0 : Int32) w_40 hc_40) cw_J7_fill_53178 lk_X6_23 st_J7_fill_53178 ⟨rfl, rfl, Nat.le_of_ble_eq_true rfl, Nat.le_of_ble_eq_true rfl⟩ hl.1 rfl (Nat.le_of_ble_eq_true rfl) dX6_renew_40 ⟨Nat.zero_le _, Nat.zero_le _⟩) hS (fun H locs hP hS hm => ?_)
          have hM_w := hm
          have ha_q_38 := hm.2 _ ha_q_38
          refine lv_aload_n hx hb dX6_renew_43 rfl (lv_at hl 0 rfl) ?_
          refine x_getr F hP k_9 (hP.al 9 rfl) fl_X6_16 rfl r_9_1 dX6_renew_44 ?_
          refine lv_iload_n hx hb dX6_renew_47 rfl (lv_at hl 1 rfl) ?_
          refine lv_iload_n hx hb dX6_renew_48 rfl (lv_at hl 2 rfl) ?_
          refine y_iast h F hP hS k_61 (n2 (hP.al 61 rfl)) dX6_renew_49 (fun w_49 H locs hm h hP hS => ?_)
          have hM_w := hM_w.trans hm
          have ha_q_38 := hm.2 _ ha_q_38
          refine lv_aload_n hx hb dX6_renew_50 rfl (lv_at hl 0 rfl) ?_
          refine x_getr F hP k_9 (hP.al 9 rfl) fl_X6_20 rfl r_9_2 dX6_renew_51 ?_
          refine lv_iload_n hx hb dX6_renew_54 rfl (lv_at hl 1 rfl) ?_
          refine lv_iload_n hx hb dX6_renew_55 rfl (lv_at hl 3 rfl) ?_
          refine y_iast h F hP hS k_62 (n2 (hP.al 62 rfl)) dX6_renew_56 (fun w_56 H locs hm h hP hS => ?_)
          have hM_w := hM_w.trans hm
          have ha_q_38 := hm.2 _ ha_q_38
          refine lv_iload_n hx hb dX6_renew_57 rfl (lv_at hl 3 rfl) ?_
          exact y_iretM h F hr hP hS hM_w hlk dX6_renew_58
        · have h := if_f _ hc h
          refine lv_aload_n hx hb dX6_renew_27 rfl (lv_at hl 0 rfl) ?_
          refine lv_iconst (v := 5) hx hb dX6_renew_28 ic_5 ?_
          obtain ⟨v_29, w_29, hc_29, h⟩ := bi_s h
          refine x_goes (x_runV (As := [.int (5 : Int32)]) (rest := []) F hP hS (c_X6_find l D cT lo w ad (5 : Int32) v_29 w_29 hc_29) cw_X6_find lk_X6_41 vi_X6_find k_9 (n2 (hP.al 9 rfl)) rfl ⟨rfl, rfl, Nat.le_of_ble_eq_true rfl, Nat.le_of_ble_eq_true rfl⟩ hl.1 rfl (Nat.le_of_ble_eq_true rfl) dX6_renew_29 ⟨Nat.zero_le _, Nat.zero_le _⟩) hS (fun H locs hP hS hm => ?_)
          have hM_w := hm
          exact y_iretM h F hr hP hS hM_w hlk dX6_renew_32
      · have h := if_f _ hc h
        refine lv_bipush (v := -2) hx hb dX6_renew_20 ib_m2 ?_
        exact y_iretM h F hr hP hS mono.refl hlk dX6_renew_22
def f_X6_drop (w : Wd) (a1 : Int32) : Option (Int32 × Wd) :=
q_bi (f_X6_refusalOf w a1) (fun v_2 w_2 =>
if v_2 = 0 then
q_st w_2 61 4 a1 (-1 : Int32) (fun w_18 =>
q_ld w_18 62 4 a1 (fun v_24 =>
some (v_24, w_18)))
else
some (v_2, w_2))
set_option maxRecDepth 100000 in
set_option maxHeartbeats 4000000 in
theorem c_X6_drop (l : Launch) (D : va_G) (cT : Nat → ClassId) (lo : Nat) (w : Wd) (ad : Nat → Nat) (a1 : Int32) (r : Int32) (w9 : Wd) (h : f_X6_drop w a1 = some (r, w9)) : Met l yX6_drop (.code yX6_drop cX6_drop 3 (some .int) :: TW) { frames := 3, cells := 0, slots := 0, locals := 63 } (mPc D cT lo NB w ad [.ref (ad 9), .int a1]) (mQ D cT lo NB w w9 ad (some (.int r))) 0 0 (fun q => lo ≤ q) := by
  unfold f_X6_drop at h
  refine x_met (lv := [(0, .ref (ad 9)), (1, .int a1)]) (by decide +kernel) (Nat.le_of_ble_eq_true rfl) rfl ?_
  intro p e s m args below meth c ls F hr hlk hP hin hl
  have hx := F.1
  have hb := F.2.1
  have hS : va_S (fun q => lo ≤ q) s.heap s.heap [] := va_S.rf
  have hM_w : mono w w := mono.refl
  refine lv_aload_n hx hb dX6_drop_0 rfl (lv_at hl 0 rfl) ?_
  refine lv_iload_n hx hb dX6_drop_1 rfl (lv_at hl 1 rfl) ?_
  obtain ⟨v_2, w_2, hc_2, h⟩ := bi_s h
  refine x_goes (x_runV (As := [.int a1]) (rest := []) F hP hS (c_X6_refusalOf l D cT lo w ad a1 v_2 w_2 hc_2) cw_X6_refusalOf lk_X6_48 vi_X6_refusalOf k_9 (n2 (hP.al 9 rfl)) rfl ⟨rfl, rfl, Nat.le_of_ble_eq_true rfl, Nat.le_of_ble_eq_true rfl⟩ hl.1 rfl (Nat.le_of_ble_eq_true rfl) dX6_drop_2 ⟨Nat.zero_le _, Nat.zero_le _⟩) hS (fun H locs hP hS hm => ?_)
  have hM_w := hm
  refine lv_istore_n (lv' := [(2, .int v_2), (0, .ref (ad 9)), (1, .int a1)]) hx hb dX6_drop_5 rfl hl (Nat.le_of_ble_eq_true rfl) rfl (fun ls hl => ?_)
  refine lv_iload_n hx hb dX6_drop_6 rfl (lv_at hl 0 rfl) ?_
  refine lv_if_eq (tgt := 12) hx hb dX6_drop_7 (by decide) (fun hc => ?_) (fun hc => ?_)
  · have h := if_t _ hc h
    refine lv_aload_n hx hb dX6_drop_12 rfl (lv_at hl 1 rfl) ?_
    refine x_getr F hP k_9 (hP.al 9 rfl) fl_X6_16 rfl r_9_1 dX6_drop_13 ?_
    refine lv_iload_n hx hb dX6_drop_16 rfl (lv_at hl 2 rfl) ?_
    refine lv_iconst (v := -1) hx hb dX6_drop_17 ic_m1 ?_
    refine y_iast h F hP hS k_61 (n2 (hP.al 61 rfl)) dX6_drop_18 (fun w_18 H locs hm h hP hS => ?_)
    have hM_w := hM_w.trans hm
    refine lv_aload_n hx hb dX6_drop_19 rfl (lv_at hl 1 rfl) ?_
    refine x_getr F hP k_9 (hP.al 9 rfl) fl_X6_20 rfl r_9_2 dX6_drop_20 ?_
    refine lv_iload_n hx hb dX6_drop_23 rfl (lv_at hl 2 rfl) ?_
    refine y_iald h F hP k_62 (n2 (hP.al 62 rfl)) dX6_drop_24 (fun v_24 h => ?_)
    exact y_iretM h F hr hP hS hM_w hlk dX6_drop_25
  · have h := if_f _ hc h
    refine lv_iload_n hx hb dX6_drop_10 rfl (lv_at hl 0 rfl) ?_
    exact y_iretM h F hr hP hS hM_w hlk dX6_drop_11
def f_X6_refusalOfItem (w : Wd) (a1 : Int32) (a2 : Int32) (a3 : Int32) : Option (Int32 × Wd) :=
if (f_X6_isSheet a1) = 0 then
some ((-2 : Int32), w)
else
if (f_X6_isForm a2) = 0 then
some ((-2 : Int32), w)
else
q_ld w 61 4 a1 (fun v_22 =>
if v_22 = (-1 : Int32) then
q_bi (f_X6_find w (1 : Int32)) (fun v_29 w_29 =>
some (v_29, w_29))
else
q_ld w 61 4 a1 (fun v_38 =>
if v_38 = a2 then
q_ld w 62 4 a1 (fun v_56 =>
if (f_X11_within a3 (0 : Int32) (v_56 - (1 : Int32))) = 0 then
q_bi (f_X6_find w (2 : Int32)) (fun v_71 w_71 =>
some (v_71, w_71))
else
some ((0 : Int32), w))
else
q_bi (f_X6_find w (3 : Int32)) (fun v_45 w_45 =>
some (v_45, w_45))))
set_option maxRecDepth 100000 in
set_option maxHeartbeats 4000000 in
theorem c_X6_refusalOfItem (l : Launch) (D : va_G) (cT : Nat → ClassId) (lo : Nat) (w : Wd) (ad : Nat → Nat) (a1 : Int32) (a2 : Int32) (a3 : Int32) (r : Int32) (w9 : Wd) (h : f_X6_refusalOfItem w a1 a2 a3 = some (r, w9)) : Met l yX6_refusalOfItem (.code yX6_refusalOfItem cX6_refusalOfItem 4 (some .int) :: TW) { frames := 2, cells := 0, slots := 0, locals := 42 } (mPc D cT lo NB w ad [.ref (ad 9), .int a1, .int a2, .int a3]) (mQ D cT lo NB w w9 ad (some (.int r))) 0 0 (fun q => lo ≤ q) := by
  unfold f_X6_refusalOfItem at h
  refine x_met (lv := [(0, .ref (ad 9)), (1, .int a1), (2, .int a2), (3, .int a3)]) (by decide +kernel) (Nat.le_of_ble_eq_true rfl) rfl ?_
  intro p e s m args below meth c ls F hr hlk hP hin hl
  have hx := F.1
  have hb := F.2.1
  have hS : va_S (fun q => lo ≤ q) s.heap s.heap [] := va_S.rf
  have hM_w : mono w w := mono.refl
  refine lv_iload_n hx hb dX6_refusalOfItem_0 rfl (lv_at hl 1 rfl) ?_
  refine x_goesZ (x_runS (As := [.int a1]) (rest := []) F hP hS (c_X6_isSheet l D cT lo NB w ad a1) cw_X6_isSheet lk_X6_37 st_X6_isSheet ⟨rfl, rfl, Nat.le_of_ble_eq_true rfl, Nat.le_of_ble_eq_true rfl⟩ hl.1 rfl (Nat.le_of_ble_eq_true rfl) dX6_refusalOfItem_1 ⟨Nat.zero_le _, Nat.zero_le _⟩) hS (fun H locs hz_1 hP hS _ => ?_)
  refine lv_if_eq (tgt := 14) hx hb dX6_refusalOfItem_4 (by decide) (fun hc => ?_) (fun hc => ?_)
  · have h := if_t _ hc h
    refine lv_bipush (v := -2) hx hb dX6_refusalOfItem_14 ib_m2 ?_
    exact y_iretM h F hr hP hS mono.refl hlk dX6_refusalOfItem_16
  · have h := if_f _ hc h
    refine lv_iload_n hx hb dX6_refusalOfItem_7 rfl (lv_at hl 2 rfl) ?_
    refine x_goesZ (x_runS (As := [.int a2]) (rest := []) F hP hS (c_X6_isForm l D cT lo NB w ad a2) cw_X6_isForm lk_X6_45 st_X6_isForm ⟨rfl, rfl, Nat.le_of_ble_eq_true rfl, Nat.le_of_ble_eq_true rfl⟩ hl.1 rfl (Nat.le_of_ble_eq_true rfl) dX6_refusalOfItem_8 ⟨Nat.zero_le _, Nat.zero_le _⟩) hS (fun H locs hz_8 hP hS _ => ?_)
    refine lv_if_ne (tgt := 17) hx hb dX6_refusalOfItem_11 (by decide) (fun hc => ?_) (fun hc => ?_)
    · have h := if_f _ hc h
      refine lv_aload_n hx hb dX6_refusalOfItem_17 rfl (lv_at hl 0 rfl) ?_
      refine x_getr F hP k_9 (hP.al 9 rfl) fl_X6_16 rfl r_9_1 dX6_refusalOfItem_18 ?_
      refine lv_iload_n hx hb dX6_refusalOfItem_21 rfl (lv_at hl 1 rfl) ?_
      refine y_iald h F hP k_61 (n2 (hP.al 61 rfl)) dX6_refusalOfItem_22 (fun v_22 h => ?_)
      refine lv_iconst (v := -1) hx hb dX6_refusalOfItem_23 ic_m1 ?_
      refine lv_icmp_ne (tgt := 33) hx hb dX6_refusalOfItem_24 (by decide) (fun hc => ?_) (fun hc => ?_)
      · have h := if_f _ hc h
        refine lv_aload_n hx hb dX6_refusalOfItem_33 rfl (lv_at hl 0 rfl) ?_
        refine x_getr F hP k_9 (hP.al 9 rfl) fl_X6_16 rfl r_9_1 dX6_refusalOfItem_34 ?_
        refine lv_iload_n hx hb dX6_refusalOfItem_37 rfl (lv_at hl 1 rfl) ?_
        refine y_iald h F hP k_61 (n2 (hP.al 61 rfl)) dX6_refusalOfItem_38 (fun v_38 h => ?_)
        refine lv_iload_n hx hb dX6_refusalOfItem_39 rfl (lv_at hl 2 rfl) ?_
        refine lv_icmp_eq (tgt := 49) hx hb dX6_refusalOfItem_40 (by decide) (fun hc => ?_) (fun hc => ?_)
        · have h := if_t _ hc h
          refine lv_iload_n hx hb dX6_refusalOfItem_49 rfl (lv_at hl 3 rfl) ?_
          refine lv_iconst (v := 0) hx hb dX6_refusalOfItem_50 ic_0 ?_
          refine lv_aload_n hx hb dX6_refusalOfItem_51 rfl (lv_at hl 0 rfl) ?_
          refine x_getr F hP k_9 (hP.al 9 rfl) fl_X6_20 rfl r_9_2 dX6_refusalOfItem_52 ?_
          refine lv_iload_n hx hb dX6_refusalOfItem_55 rfl (lv_at hl 1 rfl) ?_
          refine y_iald h F hP k_62 (n2 (hP.al 62 rfl)) dX6_refusalOfItem_56 (fun v_56 h => ?_)
          refine lv_iconst (v := 1) hx hb dX6_refusalOfItem_57 ic_1 ?_
          refine lv_isub hx hb dX6_refusalOfItem_58 ?_
          refine x_goesZ (x_runSN (As := [.int a3, .int (0 : Int32), .int (v_56 - (1 : Int32))]) (rest := []) F hP hS (c_X11_within l D cT lo NB w ad a3 (0 : Int32) (v_56 - (1 : Int32))) cw_X11_within nl_X6_29 st_X11_within ⟨rfl, rfl, Nat.le_of_ble_eq_true rfl, Nat.le_of_ble_eq_true rfl⟩ hl.1 rfl (Nat.le_of_ble_eq_true rfl) dX6_refusalOfItem_59 ⟨Nat.zero_le _, Nat.zero_le _⟩) hS (fun H locs hz_59 hP hS _ => ?_)
          refine lv_if_eq (tgt := 69) hx hb dX6_refusalOfItem_62 (by decide) (fun hc => ?_) (fun hc => ?_)
          · have h := if_t _ hc h
            refine lv_aload_n hx hb dX6_refusalOfItem_69 rfl (lv_at hl 0 rfl) ?_
            refine lv_iconst (v := 2) hx hb dX6_refusalOfItem_70 ic_2 ?_
            obtain ⟨v_71, w_71, hc_71, h⟩ := bi_s h
            refine x_goes (x_runV (As := [.int (2 : Int32)]) (rest := []) F hP hS (c_X6_find l D cT lo w ad (2 : Int32) v_71 w_71 hc_71) cw_X6_find lk_X6_41 vi_X6_find k_9 (n2 (hP.al 9 rfl)) rfl ⟨rfl, rfl, Nat.le_of_ble_eq_true rfl, Nat.le_of_ble_eq_true rfl⟩ hl.1 rfl (Nat.le_of_ble_eq_true rfl) dX6_refusalOfItem_71 ⟨Nat.zero_le _, Nat.zero_le _⟩) hS (fun H locs hP hS hm => ?_)
            have hM_w := hm
            exact y_iretM h F hr hP hS hM_w hlk dX6_refusalOfItem_74
          · have h := if_f _ hc h
            refine lv_iconst (v := 0) hx hb dX6_refusalOfItem_65 ic_0 ?_
            refine lv_goto (tgt := 74) hx hb dX6_refusalOfItem_66 (by decide) ?_
            exact y_iretM h F hr hP hS mono.refl hlk dX6_refusalOfItem_74
        · have h := if_f _ hc h
          refine lv_aload_n hx hb dX6_refusalOfItem_43 rfl (lv_at hl 0 rfl) ?_
          refine lv_iconst (v := 3) hx hb dX6_refusalOfItem_44 ic_3 ?_
          obtain ⟨v_45, w_45, hc_45, h⟩ := bi_s h
          refine x_goes (x_runV (As := [.int (3 : Int32)]) (rest := []) F hP hS (c_X6_find l D cT lo w ad (3 : Int32) v_45 w_45 hc_45) cw_X6_find lk_X6_41 vi_X6_find k_9 (n2 (hP.al 9 rfl)) rfl ⟨rfl, rfl, Nat.le_of_ble_eq_true rfl, Nat.le_of_ble_eq_true rfl⟩ hl.1 rfl (Nat.le_of_ble_eq_true rfl) dX6_refusalOfItem_45 ⟨Nat.zero_le _, Nat.zero_le _⟩) hS (fun H locs hP hS hm => ?_)
          have hM_w := hm
          exact y_iretM h F hr hP hS hM_w hlk dX6_refusalOfItem_48
      · have h := if_t _ hc h
        refine lv_aload_n hx hb dX6_refusalOfItem_27 rfl (lv_at hl 0 rfl) ?_
        refine lv_iconst (v := 1) hx hb dX6_refusalOfItem_28 ic_1 ?_
        obtain ⟨v_29, w_29, hc_29, h⟩ := bi_s h
        refine x_goes (x_runV (As := [.int (1 : Int32)]) (rest := []) F hP hS (c_X6_find l D cT lo w ad (1 : Int32) v_29 w_29 hc_29) cw_X6_find lk_X6_41 vi_X6_find k_9 (n2 (hP.al 9 rfl)) rfl ⟨rfl, rfl, Nat.le_of_ble_eq_true rfl, Nat.le_of_ble_eq_true rfl⟩ hl.1 rfl (Nat.le_of_ble_eq_true rfl) dX6_refusalOfItem_29 ⟨Nat.zero_le _, Nat.zero_le _⟩) hS (fun H locs hP hS hm => ?_)
        have hM_w := hm
        exact y_iretM h F hr hP hS hM_w hlk dX6_refusalOfItem_32
    · have h := if_t _ hc h
      refine lv_bipush (v := -2) hx hb dX6_refusalOfItem_14 ib_m2 ?_
      exact y_iretM h F hr hP hS mono.refl hlk dX6_refusalOfItem_16
def f_X6_lowestBits (a1 : Int32) (a2 : Int32) : Int32 :=
if a1 = 0 then
a2.toInt8.toInt32
else if a1 = 1 then
a2.toInt16.toInt32
else 
a2
set_option maxRecDepth 100000 in
set_option maxHeartbeats 4000000 in
theorem c_X6_lowestBits (l : Launch) (D : va_G) (cT : Nat → ClassId) (lo nb : Nat) (w : Wd) (ad : Nat → Nat) (a1 : Int32) (a2 : Int32) : Met l yX6_lowestBits (.code yX6_lowestBits cX6_lowestBits 2 (some .int) :: TW) { frames := 0, cells := 0, slots := 0, locals := 0 } (mPc D cT lo nb w ad [.int a1, .int a2]) (mQ D cT lo nb w w ad (some (.int (f_X6_lowestBits a1 a2)))) 0 0 (fun q => lo ≤ q) := by
  obtain ⟨r, h⟩ : ∃ r, f_X6_lowestBits a1 a2 = r := ⟨_, rfl⟩
  rw [h]
  unfold f_X6_lowestBits at h
  refine x_met (lv := [(0, .int a1), (1, .int a2)]) (by decide +kernel) (Nat.le_of_ble_eq_true rfl) rfl ?_
  intro p e s m args below meth c ls F hr hlk hP hin hl
  have hx := F.1
  have hb := F.2.1
  have hS : va_S (fun q => lo ≤ q) s.heap s.heap [] := va_S.rf
  refine lv_iload_n hx hb dX6_lowestBits_0 rfl (lv_at hl 0 rfl) ?_
  by_cases hc0 : a1 = 0
  · have h := if_t _ hc0 h
    refine lv_lookup (off := 27) (tgt := 28) hx hb dX6_lowestBits_1 (by decide) (by rw [hc0]; decide) (by decide) ?_
    refine lv_iload_n hx hb dX6_lowestBits_28 rfl (lv_at hl 1 rfl) ?_
    refine lv_i2b hx hb dX6_lowestBits_29 rfl ?_
    exact y_iretP h F hr hP hS hlk dX6_lowestBits_30
  have h := if_f _ hc0 h
  by_cases hc1 : a1 = 1
  · have h := if_t _ hc1 h
    refine lv_lookup (off := 30) (tgt := 31) hx hb dX6_lowestBits_1 (by decide) (by rw [hc1]; decide) (by decide) ?_
    refine lv_iload_n hx hb dX6_lowestBits_31 rfl (lv_at hl 1 rfl) ?_
    refine lv_i2s hx hb dX6_lowestBits_32 rfl ?_
    exact y_iretP h F hr hP hS hlk dX6_lowestBits_33
  have h := if_f _ hc1 h
  refine lv_lookup (off := 33) (tgt := 34) hx hb dX6_lowestBits_1 (by decide) (lk_out [((0 : Int32), (27 : Int)), ((1 : Int32), (30 : Int))] 33 (by decide) (by simp [hc0, hc1])) (by decide) ?_
  refine lv_iload_n hx hb dX6_lowestBits_34 rfl (lv_at hl 1 rfl) ?_
  exact y_iretP h F hr hP hS hlk dX6_lowestBits_35
def f_X6_write (w : Wd) (a1 : Int32) (a2 : Int32) (a3 : Int32) (a4 : Int32) : Option (Int32 × Wd) :=
q_bi (f_X6_refusalOfItem w a1 a2 a3) (fun v_4 w_4 =>
if v_4 = 0 then
q_ldq w_4 56 4 a1 (fun q_22 =>
q_st w_4 q_22 60 a3 (f_X6_lowestBits a2 a4) (fun w_30 =>
some ((1 : Int32), w_30)))
else
some (v_4, w_4))
set_option maxRecDepth 100000 in
set_option maxHeartbeats 4000000 in
theorem c_X6_write (l : Launch) (D : va_G) (cT : Nat → ClassId) (lo : Nat) (w : Wd) (ad : Nat → Nat) (a1 : Int32) (a2 : Int32) (a3 : Int32) (a4 : Int32) (r : Int32) (w9 : Wd) (h : f_X6_write w a1 a2 a3 a4 = some (r, w9)) : Met l yX6_write (.code yX6_write cX6_write 6 (some .int) :: TW) { frames := 3, cells := 0, slots := 0, locals := 65 } (mPc D cT lo NB w ad [.ref (ad 9), .int a1, .int a2, .int a3, .int a4]) (mQ D cT lo NB w w9 ad (some (.int r))) 0 0 (fun q => lo ≤ q) := by
  unfold f_X6_write at h
  refine x_met (lv := [(0, .ref (ad 9)), (1, .int a1), (2, .int a2), (3, .int a3), (4, .int a4)]) (by decide +kernel) (Nat.le_of_ble_eq_true rfl) rfl ?_
  intro p e s m args below meth c ls F hr hlk hP hin hl
  have hx := F.1
  have hb := F.2.1
  have hS : va_S (fun q => lo ≤ q) s.heap s.heap [] := va_S.rf
  have hM_w : mono w w := mono.refl
  refine lv_aload_n hx hb dX6_write_0 rfl (lv_at hl 0 rfl) ?_
  refine lv_iload_n hx hb dX6_write_1 rfl (lv_at hl 1 rfl) ?_
  refine lv_iload_n hx hb dX6_write_2 rfl (lv_at hl 2 rfl) ?_
  refine lv_iload_n hx hb dX6_write_3 rfl (lv_at hl 3 rfl) ?_
  obtain ⟨v_4, w_4, hc_4, h⟩ := bi_s h
  refine x_goes (x_runV (As := [.int a1, .int a2, .int a3]) (rest := []) F hP hS (c_X6_refusalOfItem l D cT lo w ad a1 a2 a3 v_4 w_4 hc_4) cw_X6_refusalOfItem lk_X6_51 vi_X6_refusalOfItem k_9 (n2 (hP.al 9 rfl)) rfl ⟨rfl, rfl, Nat.le_of_ble_eq_true rfl, Nat.le_of_ble_eq_true rfl⟩ hl.1 rfl (Nat.le_of_ble_eq_true rfl) dX6_write_4 ⟨Nat.zero_le _, Nat.zero_le _⟩) hS (fun H locs hP hS hm => ?_)
  have hM_w := hm
  refine lv_istore (lv' := [(5, .int v_4), (0, .ref (ad 9)), (1, .int a1), (2, .int a2), (3, .int a3), (4, .int a4)]) hx hb dX6_write_7 hl (Nat.le_of_ble_eq_true rfl) rfl (fun ls hl => ?_)
  refine lv_iload hx hb dX6_write_9 (lv_at hl 0 rfl) ?_
  refine lv_if_eq (tgt := 17) hx hb dX6_write_11 (by decide) (fun hc => ?_) (fun hc => ?_)
  · have h := if_t _ hc h
    refine lv_aload_n hx hb dX6_write_17 rfl (lv_at hl 1 rfl) ?_
    refine x_getr F hP k_9 (hP.al 9 rfl) fl_X6_13 rfl r_9_0 dX6_write_18 ?_
    refine lv_iload_n hx hb dX6_write_21 rfl (lv_at hl 2 rfl) ?_
    refine y_aald h F hP k_56 (by decide) (by decide) (n2 (hP.al 56 rfl)) ek_56 dX6_write_22 (fun q_22 hk_q_22 ha_q_22 h => ?_)
    refine lv_iload_n hx hb dX6_write_23 rfl (lv_at hl 4 rfl) ?_
    refine lv_iload_n hx hb dX6_write_24 rfl (lv_at hl 3 rfl) ?_
    refine lv_iload hx hb dX6_write_25 (lv_at hl 5 rfl) ?_
    refine x_goes (x_runS (As := [.int a2, .int a4]) (rest := [.int a3, .ref (ad q_22)]) F hP hS (c_X6_lowestBits l D cT lo NB w_4 ad a2 a4) cw_X6_lowestBits lk_X6_55 st_X6_lowestBits ⟨rfl, rfl, Nat.le_of_ble_eq_true rfl, Nat.le_of_ble_eq_true rfl⟩ hl.1 rfl (Nat.le_of_ble_eq_true rfl) dX6_write_27 ⟨Nat.zero_le _, Nat.zero_le _⟩) hS (fun H locs hP hS _ => ?_)
    refine y_iast h F hP hS hk_q_22 (n2 ha_q_22) dX6_write_30 (fun w_30 H locs hm h hP hS => ?_)
    have hM_w := hM_w.trans hm
    have ha_q_22 := hm.2 _ ha_q_22
    refine lv_iconst (v := 1) hx hb dX6_write_31 ic_1 ?_
    exact y_iretM h F hr hP hS hM_w hlk dX6_write_32
  · have h := if_f _ hc h
    refine lv_iload hx hb dX6_write_14 (lv_at hl 0 rfl) ?_
    exact y_iretM h F hr hP hS hM_w hlk dX6_write_16
def f_X6_read (w : Wd) (a1 : Int32) (a2 : Int32) (a3 : Int32) : Option (Int32 × Wd) :=
q_bi (f_X6_refusalOfItem w a1 a2 a3) (fun v_4 w_4 =>
if v_4 = 0 then
q_ldq w_4 56 4 a1 (fun q_15 =>
q_ld w_4 q_15 60 a3 (fun v_17 =>
some (v_17, w_4)))
else
some ((-2147483648 : Int32), w_4))
set_option maxRecDepth 100000 in
set_option maxHeartbeats 4000000 in
theorem c_X6_read (l : Launch) (D : va_G) (cT : Nat → ClassId) (lo : Nat) (w : Wd) (ad : Nat → Nat) (a1 : Int32) (a2 : Int32) (a3 : Int32) (r : Int32) (w9 : Wd) (h : f_X6_read w a1 a2 a3 = some (r, w9)) : Met l yX6_read (.code yX6_read cX6_read 4 (some .int) :: TW) { frames := 3, cells := 0, slots := 0, locals := 65 } (mPc D cT lo NB w ad [.ref (ad 9), .int a1, .int a2, .int a3]) (mQ D cT lo NB w w9 ad (some (.int r))) 0 0 (fun q => lo ≤ q) := by
  unfold f_X6_read at h
  refine x_met (lv := [(0, .ref (ad 9)), (1, .int a1), (2, .int a2), (3, .int a3)]) (by decide +kernel) (Nat.le_of_ble_eq_true rfl) rfl ?_
  intro p e s m args below meth c ls F hr hlk hP hin hl
  have hx := F.1
  have hb := F.2.1
  have hS : va_S (fun q => lo ≤ q) s.heap s.heap [] := va_S.rf
  have hM_w : mono w w := mono.refl
  refine lv_aload_n hx hb dX6_read_0 rfl (lv_at hl 0 rfl) ?_
  refine lv_iload_n hx hb dX6_read_1 rfl (lv_at hl 1 rfl) ?_
  refine lv_iload_n hx hb dX6_read_2 rfl (lv_at hl 2 rfl) ?_
  refine lv_iload_n hx hb dX6_read_3 rfl (lv_at hl 3 rfl) ?_
  obtain ⟨v_4, w_4, hc_4, h⟩ := bi_s h
  refine x_goes (x_runV (As := [.int a1, .int a2, .int a3]) (rest := []) F hP hS (c_X6_refusalOfItem l D cT lo w ad a1 a2 a3 v_4 w_4 hc_4) cw_X6_refusalOfItem lk_X6_51 vi_X6_refusalOfItem k_9 (n2 (hP.al 9 rfl)) rfl ⟨rfl, rfl, Nat.le_of_ble_eq_true rfl, Nat.le_of_ble_eq_true rfl⟩ hl.1 rfl (Nat.le_of_ble_eq_true rfl) dX6_read_4 ⟨Nat.zero_le _, Nat.zero_le _⟩) hS (fun H locs hP hS hm => ?_)
  have hM_w := hm
  refine lv_if_ne (tgt := 21) hx hb dX6_read_7 (by decide) (fun hc => ?_) (fun hc => ?_)
  · have h := if_f _ hc h
    refine lv_ldc F.1 F.2.1 F.2.2.1 (F.2.2.2.1 _ ct_X6_59) dX6_read_21 ?_
    exact y_iretM h F hr hP hS hM_w hlk dX6_read_23
  · have h := if_t _ hc h
    refine lv_aload_n hx hb dX6_read_10 rfl (lv_at hl 0 rfl) ?_
    refine x_getr F hP k_9 (hP.al 9 rfl) fl_X6_13 rfl r_9_0 dX6_read_11 ?_
    refine lv_iload_n hx hb dX6_read_14 rfl (lv_at hl 1 rfl) ?_
    refine y_aald h F hP k_56 (by decide) (by decide) (n2 (hP.al 56 rfl)) ek_56 dX6_read_15 (fun q_15 hk_q_15 ha_q_15 h => ?_)
    refine lv_iload_n hx hb dX6_read_16 rfl (lv_at hl 3 rfl) ?_
    refine y_iald h F hP hk_q_15 (n2 ha_q_15) dX6_read_17 (fun v_17 h => ?_)
    refine lv_goto (tgt := 23) hx hb dX6_read_18 (by decide) ?_
    exact y_iretM h F hr hP hS hM_w hlk dX6_read_23
def f_X6_hasItems (w : Wd) (a1 : Int32) (a2 : Int32) (a3 : Int32) : Option Int32 :=
if a2 < 0 then
some (0 : Int32)
else
if a3 < 0 then
some (0 : Int32)
else
q_ld w 62 4 a1 (fun v_14 =>
if v_14 < a3 then
some (0 : Int32)
else
q_ld w 62 4 a1 (fun v_24 =>
if (v_24 - a3) < a2 then
some (0 : Int32)
else
some (1 : Int32)))
set_option maxRecDepth 100000 in
set_option maxHeartbeats 4000000 in
theorem c_X6_hasItems (l : Launch) (D : va_G) (cT : Nat → ClassId) (lo : Nat) (w : Wd) (ad : Nat → Nat) (a1 : Int32) (a2 : Int32) (a3 : Int32) (r : Int32) (h : f_X6_hasItems w a1 a2 a3 = some r) : Met l yX6_hasItems (.code yX6_hasItems cX6_hasItems 4 (some .boolean) :: TW) { frames := 0, cells := 0, slots := 0, locals := 0 } (mPc D cT lo NB w ad [.ref (ad 9), .int a1, .int a2, .int a3]) (mQz D cT lo NB w w ad r) 0 0 (fun q => lo ≤ q) := by
  unfold f_X6_hasItems at h
  refine x_met (lv := [(0, .ref (ad 9)), (1, .int a1), (2, .int a2), (3, .int a3)]) (by decide +kernel) (Nat.le_of_ble_eq_true rfl) rfl ?_
  intro p e s m args below meth c ls F hr hlk hP hin hl
  have hx := F.1
  have hb := F.2.1
  have hS : va_S (fun q => lo ≤ q) s.heap s.heap [] := va_S.rf
  refine lv_iload_n hx hb dX6_hasItems_0 rfl (lv_at hl 2 rfl) ?_
  refine lv_if_lt (tgt := 34) hx hb dX6_hasItems_1 (by decide) (fun hc => ?_) (fun hc => ?_)
  · have h := if_t _ hc h
    refine lv_iconst (v := 0) hx hb dX6_hasItems_34 ic_0 ?_
    exact y_zretO h F hr hP hS hlk rfl dX6_hasItems_35
  · have h := if_f _ hc h
    refine lv_iload_n hx hb dX6_hasItems_4 rfl (lv_at hl 3 rfl) ?_
    refine lv_if_lt (tgt := 34) hx hb dX6_hasItems_5 (by decide) (fun hc => ?_) (fun hc => ?_)
    · have h := if_t _ hc h
      refine lv_iconst (v := 0) hx hb dX6_hasItems_34 ic_0 ?_
      exact y_zretO h F hr hP hS hlk rfl dX6_hasItems_35
    · have h := if_f _ hc h
      refine lv_iload_n hx hb dX6_hasItems_8 rfl (lv_at hl 3 rfl) ?_
      refine lv_aload_n hx hb dX6_hasItems_9 rfl (lv_at hl 0 rfl) ?_
      refine x_getr F hP k_9 (hP.al 9 rfl) fl_X6_20 rfl r_9_2 dX6_hasItems_10 ?_
      refine lv_iload_n hx hb dX6_hasItems_13 rfl (lv_at hl 1 rfl) ?_
      refine y_iald h F hP k_62 (n2 (hP.al 62 rfl)) dX6_hasItems_14 (fun v_14 h => ?_)
      refine lv_icmp_gt (tgt := 34) hx hb dX6_hasItems_15 (by decide) (fun hc => ?_) (fun hc => ?_)
      · have h := if_t _ hc h
        refine lv_iconst (v := 0) hx hb dX6_hasItems_34 ic_0 ?_
        exact y_zretO h F hr hP hS hlk rfl dX6_hasItems_35
      · have h := if_f _ hc h
        refine lv_iload_n hx hb dX6_hasItems_18 rfl (lv_at hl 2 rfl) ?_
        refine lv_aload_n hx hb dX6_hasItems_19 rfl (lv_at hl 0 rfl) ?_
        refine x_getr F hP k_9 (hP.al 9 rfl) fl_X6_20 rfl r_9_2 dX6_hasItems_20 ?_
        refine lv_iload_n hx hb dX6_hasItems_23 rfl (lv_at hl 1 rfl) ?_
        refine y_iald h F hP k_62 (n2 (hP.al 62 rfl)) dX6_hasItems_24 (fun v_24 h => ?_)
        refine lv_iload_n hx hb dX6_hasItems_25 rfl (lv_at hl 3 rfl) ?_
        refine lv_isub hx hb dX6_hasItems_26 ?_
        refine lv_icmp_gt (tgt := 34) hx hb dX6_hasItems_27 (by decide) (fun hc => ?_) (fun hc => ?_)
        · have h := if_t _ hc h
          refine lv_iconst (v := 0) hx hb dX6_hasItems_34 ic_0 ?_
          exact y_zretO h F hr hP hS hlk rfl dX6_hasItems_35
        · have h := if_f _ hc h
          refine lv_iconst (v := 1) hx hb dX6_hasItems_30 ic_1 ?_
          refine lv_goto (tgt := 35) hx hb dX6_hasItems_31 (by decide) ?_
          exact y_zretO h F hr hP hS hlk rfl dX6_hasItems_35
def f_X6_carryOver (w : Wd) (a1 : Int32) (a2 : Int32) (a3 : Int32) (a4 : Int32) (a5 : Int32) : Option (Int32 × Wd) :=
if (f_X6_isSheet a1) = 0 then
some ((-2 : Int32), w)
else
if (f_X6_isSheet a3) = 0 then
some ((-2 : Int32), w)
else
q_ld w 61 4 a1 (fun v_22 =>
q_jn (q_bi (f_X6_find w (1 : Int32)) (fun v_39 w_39 =>
some (v_39, w_39))) (fun j_37 =>
if v_22 = (-1 : Int32) then
j_37
else
q_ld w 61 4 a3 (fun v_32 =>
if v_32 = (-1 : Int32) then
j_37
else
q_ld w 61 4 a1 (fun v_48 =>
q_ld w 61 4 a3 (fun v_54 =>
if v_48 = v_54 then
q_bo (f_X6_hasItems w a1 a2 a5) (fun v_69 =>
q_jn (q_bi (f_X6_find w (2 : Int32)) (fun v_89 w_89 =>
some (v_89, w_89))) (fun j_87 =>
if v_69 = 0 then
j_87
else
q_bo (f_X6_hasItems w a3 a4 a5) (fun v_81 =>
if v_81 = 0 then
j_87
else
q_ldq w 56 4 a1 (fun q_98 =>
q_ldq w 56 4 a3 (fun q_105 =>
q_cp w q_98 60 q_105 60 a2 a4 a5 (fun w_110 =>
some ((1 : Int32), w_110)))))))
else
q_bi (f_X6_find w (4 : Int32)) (fun v_60 w_60 =>
some (v_60, w_60)))))))
set_option maxRecDepth 100000 in
set_option maxHeartbeats 4000000 in
theorem c_X6_carryOver (l : Launch) (D : va_G) (cT : Nat → ClassId) (lo : Nat) (w : Wd) (ad : Nat → Nat) (a1 : Int32) (a2 : Int32) (a3 : Int32) (a4 : Int32) (a5 : Int32) (r : Int32) (w9 : Wd) (h : f_X6_carryOver w a1 a2 a3 a4 a5 = some (r, w9)) : Met l yX6_carryOver (.code yX6_carryOver cX6_carryOver 6 (some .int) :: TW) { frames := 2, cells := 0, slots := 0, locals := 42 } (mPc D cT lo NB w ad [.ref (ad 9), .int a1, .int a2, .int a3, .int a4, .int a5]) (mQ D cT lo NB w w9 ad (some (.int r))) 0 0 (fun q => lo ≤ q) := by
  unfold f_X6_carryOver at h
  refine x_met (lv := [(0, .ref (ad 9)), (1, .int a1), (2, .int a2), (3, .int a3), (4, .int a4), (5, .int a5)]) (by decide +kernel) (Nat.le_of_ble_eq_true rfl) rfl ?_
  intro p e s m args below meth c ls F hr hlk hP hin hl
  have hx := F.1
  have hb := F.2.1
  have hS : va_S (fun q => lo ≤ q) s.heap s.heap [] := va_S.rf
  have hM_w : mono w w := mono.refl
  refine lv_iload_n hx hb dX6_carryOver_0 rfl (lv_at hl 1 rfl) ?_
  refine x_goesZ (x_runS (As := [.int a1]) (rest := []) F hP hS (c_X6_isSheet l D cT lo NB w ad a1) cw_X6_isSheet lk_X6_37 st_X6_isSheet ⟨rfl, rfl, Nat.le_of_ble_eq_true rfl, Nat.le_of_ble_eq_true rfl⟩ hl.1 rfl (Nat.le_of_ble_eq_true rfl) dX6_carryOver_1 ⟨Nat.zero_le _, Nat.zero_le _⟩) hS (fun H locs hz_1 hP hS _ => ?_)
  refine lv_if_eq (tgt := 14) hx hb dX6_carryOver_4 (by decide) (fun hc => ?_) (fun hc => ?_)
  · have h := if_t _ hc h
    refine lv_bipush (v := -2) hx hb dX6_carryOver_14 ib_m2 ?_
    exact y_iretM h F hr hP hS mono.refl hlk dX6_carryOver_16
  · have h := if_f _ hc h
    refine lv_iload_n hx hb dX6_carryOver_7 rfl (lv_at hl 3 rfl) ?_
    refine x_goesZ (x_runS (As := [.int a3]) (rest := []) F hP hS (c_X6_isSheet l D cT lo NB w ad a3) cw_X6_isSheet lk_X6_37 st_X6_isSheet ⟨rfl, rfl, Nat.le_of_ble_eq_true rfl, Nat.le_of_ble_eq_true rfl⟩ hl.1 rfl (Nat.le_of_ble_eq_true rfl) dX6_carryOver_8 ⟨Nat.zero_le _, Nat.zero_le _⟩) hS (fun H locs hz_8 hP hS _ => ?_)
    refine lv_if_ne (tgt := 17) hx hb dX6_carryOver_11 (by decide) (fun hc => ?_) (fun hc => ?_)
    · have h := if_f _ hc h
      refine lv_aload_n hx hb dX6_carryOver_17 rfl (lv_at hl 0 rfl) ?_
      refine x_getr F hP k_9 (hP.al 9 rfl) fl_X6_16 rfl r_9_1 dX6_carryOver_18 ?_
      refine lv_iload_n hx hb dX6_carryOver_21 rfl (lv_at hl 1 rfl) ?_
      refine y_iald h F hP k_61 (n2 (hP.al 61 rfl)) dX6_carryOver_22 (fun v_22 h => ?_)
      refine lv_iconst (v := -1) hx hb dX6_carryOver_23 ic_m1 ?_
      refine jn_use (fun (j_37 : Option (Int32 × Wd)) => j_37 = some (r, w9) → GG p l e { frames := 2, cells := 0, slots := 0, locals := 42 } s m args below meth c 0 0 (MQ below (mQ D cT lo NB w w9 ad (some (.int r))) args s 0 0 (fun q => lo ≤ q)) D cT lo NB 6 ad w 37 [(0, .ref (ad 9))] []) h (fun h H locs ls hP hS hl => ?_) (fun j_37 J_37 h => ?_)
      · refine lv_aload_n hx hb dX6_carryOver_37 rfl (lv_at hl 0 rfl) ?_
        refine lv_iconst (v := 1) hx hb dX6_carryOver_38 ic_1 ?_
        obtain ⟨v_39, w_39, hc_39, h⟩ := bi_s h
        refine x_goes (x_runV (As := [.int (1 : Int32)]) (rest := []) F hP hS (c_X6_find l D cT lo w ad (1 : Int32) v_39 w_39 hc_39) cw_X6_find lk_X6_41 vi_X6_find k_9 (n2 (hP.al 9 rfl)) rfl ⟨rfl, rfl, Nat.le_of_ble_eq_true rfl, Nat.le_of_ble_eq_true rfl⟩ hl.1 rfl (Nat.le_of_ble_eq_true rfl) dX6_carryOver_39 ⟨Nat.zero_le _, Nat.zero_le _⟩) hS (fun H locs hP hS hm => ?_)
        have hM_w := hm
        exact y_iretM h F hr hP hS hM_w hlk dX6_carryOver_42
      · refine lv_icmp_eq (tgt := 37) hx hb dX6_carryOver_24 (by decide) (fun hc => ?_) (fun hc => ?_)
        · have h := if_t _ hc h
          exact J_37  h _ _ _ hP hS (lv_sub hl [0] rfl)
        · have h := if_f _ hc h
          refine lv_aload_n hx hb dX6_carryOver_27 rfl (lv_at hl 0 rfl) ?_
          refine x_getr F hP k_9 (hP.al 9 rfl) fl_X6_16 rfl r_9_1 dX6_carryOver_28 ?_
          refine lv_iload_n hx hb dX6_carryOver_31 rfl (lv_at hl 3 rfl) ?_
          refine y_iald h F hP k_61 (n2 (hP.al 61 rfl)) dX6_carryOver_32 (fun v_32 h => ?_)
          refine lv_iconst (v := -1) hx hb dX6_carryOver_33 ic_m1 ?_
          refine lv_icmp_ne (tgt := 43) hx hb dX6_carryOver_34 (by decide) (fun hc => ?_) (fun hc => ?_)
          · have h := if_f _ hc h
            refine lv_aload_n hx hb dX6_carryOver_43 rfl (lv_at hl 0 rfl) ?_
            refine x_getr F hP k_9 (hP.al 9 rfl) fl_X6_16 rfl r_9_1 dX6_carryOver_44 ?_
            refine lv_iload_n hx hb dX6_carryOver_47 rfl (lv_at hl 1 rfl) ?_
            refine y_iald h F hP k_61 (n2 (hP.al 61 rfl)) dX6_carryOver_48 (fun v_48 h => ?_)
            refine lv_aload_n hx hb dX6_carryOver_49 rfl (lv_at hl 0 rfl) ?_
            refine x_getr F hP k_9 (hP.al 9 rfl) fl_X6_16 rfl r_9_1 dX6_carryOver_50 ?_
            refine lv_iload_n hx hb dX6_carryOver_53 rfl (lv_at hl 3 rfl) ?_
            refine y_iald h F hP k_61 (n2 (hP.al 61 rfl)) dX6_carryOver_54 (fun v_54 h => ?_)
            refine lv_icmp_eq (tgt := 64) hx hb dX6_carryOver_55 (by decide) (fun hc => ?_) (fun hc => ?_)
            · have h := if_t _ hc h
              refine lv_aload_n hx hb dX6_carryOver_64 rfl (lv_at hl 0 rfl) ?_
              refine lv_iload_n hx hb dX6_carryOver_65 rfl (lv_at hl 1 rfl) ?_
              refine lv_iload_n hx hb dX6_carryOver_66 rfl (lv_at hl 2 rfl) ?_
              refine lv_iload hx hb dX6_carryOver_67 (lv_at hl 5 rfl) ?_
              obtain ⟨v_69, hc_69, h⟩ := bo_s h
              refine x_goesZ (x_runV (As := [.int a1, .int a2, .int a5]) (rest := []) F hP hS (c_X6_hasItems l D cT lo w ad a1 a2 a5 v_69 hc_69) cw_X6_hasItems lk_X6_60 vi_X6_hasItems k_9 (n2 (hP.al 9 rfl)) rfl ⟨rfl, rfl, Nat.le_of_ble_eq_true rfl, Nat.le_of_ble_eq_true rfl⟩ hl.1 rfl (Nat.le_of_ble_eq_true rfl) dX6_carryOver_69 ⟨Nat.zero_le _, Nat.zero_le _⟩) hS (fun H locs hz_69 hP hS _ => ?_)
              refine jn_use (fun (j_87 : Option (Int32 × Wd)) => j_87 = some (r, w9) → GG p l e { frames := 2, cells := 0, slots := 0, locals := 42 } s m args below meth c 0 0 (MQ below (mQ D cT lo NB w w9 ad (some (.int r))) args s 0 0 (fun q => lo ≤ q)) D cT lo NB 6 ad w 87 [(0, .ref (ad 9))] []) h (fun h H locs ls hP hS hl => ?_) (fun j_87 J_87 h => ?_)
              · refine lv_aload_n hx hb dX6_carryOver_87 rfl (lv_at hl 0 rfl) ?_
                refine lv_iconst (v := 2) hx hb dX6_carryOver_88 ic_2 ?_
                obtain ⟨v_89, w_89, hc_89, h⟩ := bi_s h
                refine x_goes (x_runV (As := [.int (2 : Int32)]) (rest := []) F hP hS (c_X6_find l D cT lo w ad (2 : Int32) v_89 w_89 hc_89) cw_X6_find lk_X6_41 vi_X6_find k_9 (n2 (hP.al 9 rfl)) rfl ⟨rfl, rfl, Nat.le_of_ble_eq_true rfl, Nat.le_of_ble_eq_true rfl⟩ hl.1 rfl (Nat.le_of_ble_eq_true rfl) dX6_carryOver_89 ⟨Nat.zero_le _, Nat.zero_le _⟩) hS (fun H locs hP hS hm => ?_)
                have hM_w := hm
                exact y_iretM h F hr hP hS hM_w hlk dX6_carryOver_92
              · refine lv_if_eq (tgt := 87) hx hb dX6_carryOver_72 (by decide) (fun hc => ?_) (fun hc => ?_)
                · have h := if_t _ hc h
                  exact J_87  h _ _ _ hP hS (lv_sub hl [0] rfl)
                · have h := if_f _ hc h
                  refine lv_aload_n hx hb dX6_carryOver_75 rfl (lv_at hl 0 rfl) ?_
                  refine lv_iload_n hx hb dX6_carryOver_76 rfl (lv_at hl 3 rfl) ?_
                  refine lv_iload hx hb dX6_carryOver_77 (lv_at hl 4 rfl) ?_
                  refine lv_iload hx hb dX6_carryOver_79 (lv_at hl 5 rfl) ?_
                  obtain ⟨v_81, hc_81, h⟩ := bo_s h
                  refine x_goesZ (x_runV (As := [.int a3, .int a4, .int a5]) (rest := []) F hP hS (c_X6_hasItems l D cT lo w ad a3 a4 a5 v_81 hc_81) cw_X6_hasItems lk_X6_60 vi_X6_hasItems k_9 (n2 (hP.al 9 rfl)) rfl ⟨rfl, rfl, Nat.le_of_ble_eq_true rfl, Nat.le_of_ble_eq_true rfl⟩ hl.1 rfl (Nat.le_of_ble_eq_true rfl) dX6_carryOver_81 ⟨Nat.zero_le _, Nat.zero_le _⟩) hS (fun H locs hz_81 hP hS _ => ?_)
                  refine lv_if_ne (tgt := 93) hx hb dX6_carryOver_84 (by decide) (fun hc => ?_) (fun hc => ?_)
                  · have h := if_f _ hc h
                    refine lv_aload_n hx hb dX6_carryOver_93 rfl (lv_at hl 0 rfl) ?_
                    refine x_getr F hP k_9 (hP.al 9 rfl) fl_X6_13 rfl r_9_0 dX6_carryOver_94 ?_
                    refine lv_iload_n hx hb dX6_carryOver_97 rfl (lv_at hl 1 rfl) ?_
                    refine y_aald h F hP k_56 (by decide) (by decide) (n2 (hP.al 56 rfl)) ek_56 dX6_carryOver_98 (fun q_98 hk_q_98 ha_q_98 h => ?_)
                    refine lv_iload_n hx hb dX6_carryOver_99 rfl (lv_at hl 2 rfl) ?_
                    refine lv_aload_n hx hb dX6_carryOver_100 rfl (lv_at hl 0 rfl) ?_
                    refine x_getr F hP k_9 (hP.al 9 rfl) fl_X6_13 rfl r_9_0 dX6_carryOver_101 ?_
                    refine lv_iload_n hx hb dX6_carryOver_104 rfl (lv_at hl 3 rfl) ?_
                    refine y_aald h F hP k_56 (by decide) (by decide) (n2 (hP.al 56 rfl)) ek_56 dX6_carryOver_105 (fun q_105 hk_q_105 ha_q_105 h => ?_)
                    refine lv_iload hx hb dX6_carryOver_106 (lv_at hl 4 rfl) ?_
                    refine lv_iload hx hb dX6_carryOver_108 (lv_at hl 5 rfl) ?_
                    refine y_copy h F hP hS lk_X6_63 na_copy st_copy in_System hk_q_98 (n2 ha_q_98) hk_q_105 (n2 ha_q_105) ⟨Nat.le_of_ble_eq_true rfl, Nat.le_of_ble_eq_true rfl⟩ hl.1 dX6_carryOver_110 (fun w_110 H locs hm h hP hS => ?_)
                    have hM_w := hm
                    have ha_q_98 := hm.2 _ ha_q_98
                    have ha_q_105 := hm.2 _ ha_q_105
                    refine lv_iconst (v := 1) hx hb dX6_carryOver_113 ic_1 ?_
                    exact y_iretM h F hr hP hS hM_w hlk dX6_carryOver_114
                  · have h := if_t _ hc h
                    exact J_87  h _ _ _ hP hS (lv_sub hl [0] rfl)
            · have h := if_f _ hc h
              refine lv_aload_n hx hb dX6_carryOver_58 rfl (lv_at hl 0 rfl) ?_
              refine lv_iconst (v := 4) hx hb dX6_carryOver_59 ic_4 ?_
              obtain ⟨v_60, w_60, hc_60, h⟩ := bi_s h
              refine x_goes (x_runV (As := [.int (4 : Int32)]) (rest := []) F hP hS (c_X6_find l D cT lo w ad (4 : Int32) v_60 w_60 hc_60) cw_X6_find lk_X6_41 vi_X6_find k_9 (n2 (hP.al 9 rfl)) rfl ⟨rfl, rfl, Nat.le_of_ble_eq_true rfl, Nat.le_of_ble_eq_true rfl⟩ hl.1 rfl (Nat.le_of_ble_eq_true rfl) dX6_carryOver_60 ⟨Nat.zero_le _, Nat.zero_le _⟩) hS (fun H locs hP hS hm => ?_)
              have hM_w := hm
              exact y_iretM h F hr hP hS hM_w hlk dX6_carryOver_63
          · have h := if_t _ hc h
            exact J_37  h _ _ _ hP hS (lv_sub hl [0] rfl)
    · have h := if_t _ hc h
      refine lv_bipush (v := -2) hx hb dX6_carryOver_14 ib_m2 ?_
      exact y_iretM h F hr hP hS mono.refl hlk dX6_carryOver_16
