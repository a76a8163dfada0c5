theorem dX0_init_0 : decode cX0_init 0 = .ok (.aload_n 0, 1) := by decide +kernel
theorem dX0_init_1 : decode cX0_init 1 = .ok (.invokespecial 3, 3) := by decide +kernel
theorem dX0_init_4 : decode cX0_init 4 = .ok (.aload_n 0, 1) := by decide +kernel
theorem dX0_init_5 : decode cX0_init 5 = .ok (.iload_n 1, 1) := by decide +kernel
theorem dX0_init_6 : decode cX0_init 6 = .ok (.putfield 9, 3) := by decide +kernel
theorem dX0_init_9 : decode cX0_init 9 = .ok (.aload_n 0, 1) := by decide +kernel
theorem dX0_init_10 : decode cX0_init 10 = .ok (.iload_n 2, 1) := by decide +kernel
theorem dX0_init_11 : decode cX0_init 11 = .ok (.putfield 15, 3) := by decide +kernel
theorem dX0_init_14 : decode cX0_init 14 = .ok (.aload_n 0, 1) := by decide +kernel
theorem dX0_init_15 : decode cX0_init 15 = .ok (.iload_n 3, 1) := by decide +kernel
theorem dX0_init_16 : decode cX0_init 16 = .ok (.putfield 18, 3) := by decide +kernel
theorem dX0_init_19 : decode cX0_init 19 = .ok (.aload_n 0, 1) := by decide +kernel
theorem dX0_init_20 : decode cX0_init 20 = .ok (.iload 4, 2) := by decide +kernel
theorem dX0_init_22 : decode cX0_init 22 = .ok (.putfield 21, 3) := by decide +kernel
theorem dX0_init_25 : decode cX0_init 25 = .ok (.return_, 1) := by decide +kernel
theorem dX0_holds_0 : decode cX0_holds 0 = .ok (.iload_n 1, 1) := by decide +kernel
theorem dX0_holds_1 : decode cX0_holds 1 = .ok (.bipush 65, 2) := by decide +kernel
theorem dX0_holds_3 : decode cX0_holds 3 = .ok (.aload_n 0, 1) := by decide +kernel
theorem dX0_holds_4 : decode cX0_holds 4 = .ok (.getfield 9, 3) := by decide +kernel
theorem dX0_holds_7 : decode cX0_holds 7 = .ok (.imul, 1) := by decide +kernel
theorem dX0_holds_8 : decode cX0_holds 8 = .ok (.bipush 65, 2) := by decide +kernel
theorem dX0_holds_10 : decode cX0_holds 10 = .ok (.aload_n 0, 1) := by decide +kernel
theorem dX0_holds_11 : decode cX0_holds 11 = .ok (.getfield 18, 3) := by decide +kernel
theorem dX0_holds_14 : decode cX0_holds 14 = .ok (.imul, 1) := by decide +kernel
theorem dX0_holds_15 : decode cX0_holds 15 = .ok (.invokestatic 24, 3) := by decide +kernel
theorem dX0_holds_18 : decode cX0_holds 18 = .ok (.ifCond .eq 28, 3) := by decide +kernel
theorem dX0_holds_21 : decode cX0_holds 21 = .ok (.iload_n 2, 1) := by decide +kernel
theorem dX0_holds_22 : decode cX0_holds 22 = .ok (.bipush 65, 2) := by decide +kernel
theorem dX0_holds_24 : decode cX0_holds 24 = .ok (.aload_n 0, 1) := by decide +kernel
theorem dX0_holds_25 : decode cX0_holds 25 = .ok (.getfield 15, 3) := by decide +kernel
theorem dX0_holds_28 : decode cX0_holds 28 = .ok (.imul, 1) := by decide +kernel
theorem dX0_holds_29 : decode cX0_holds 29 = .ok (.bipush 65, 2) := by decide +kernel
theorem dX0_holds_31 : decode cX0_holds 31 = .ok (.aload_n 0, 1) := by decide +kernel
theorem dX0_holds_32 : decode cX0_holds 32 = .ok (.getfield 21, 3) := by decide +kernel
theorem dX0_holds_35 : decode cX0_holds 35 = .ok (.imul, 1) := by decide +kernel
theorem dX0_holds_36 : decode cX0_holds 36 = .ok (.invokestatic 24, 3) := by decide +kernel
theorem dX0_holds_39 : decode cX0_holds 39 = .ok (.ifCond .eq 7, 3) := by decide +kernel
theorem dX0_holds_42 : decode cX0_holds 42 = .ok (.iconst 1, 1) := by decide +kernel
theorem dX0_holds_43 : decode cX0_holds 43 = .ok (.goto 4, 3) := by decide +kernel
theorem dX0_holds_46 : decode cX0_holds 46 = .ok (.iconst 0, 1) := by decide +kernel
theorem dX0_holds_47 : decode cX0_holds 47 = .ok (.ireturn, 1) := by decide +kernel
theorem dX0_holdsInside_0 : decode cX0_holdsInside 0 = .ok (.iload_n 1, 1) := by decide +kernel
theorem dX0_holdsInside_1 : decode cX0_holdsInside 1 = .ok (.bipush 65, 2) := by decide +kernel
theorem dX0_holdsInside_3 : decode cX0_holdsInside 3 = .ok (.aload_n 0, 1) := by decide +kernel
theorem dX0_holdsInside_4 : decode cX0_holdsInside 4 = .ok (.getfield 9, 3) := by decide +kernel
theorem dX0_holdsInside_7 : decode cX0_holdsInside 7 = .ok (.imul, 1) := by decide +kernel
theorem dX0_holdsInside_8 : decode cX0_holdsInside 8 = .ok (.if_icmp .le 40, 3) := by decide +kernel
theorem dX0_holdsInside_11 : decode cX0_holdsInside 11 = .ok (.iload_n 1, 1) := by decide +kernel
theorem dX0_holdsInside_12 : decode cX0_holdsInside 12 = .ok (.bipush 65, 2) := by decide +kernel
theorem dX0_holdsInside_14 : decode cX0_holdsInside 14 = .ok (.aload_n 0, 1) := by decide +kernel
theorem dX0_holdsInside_15 : decode cX0_holdsInside 15 = .ok (.getfield 18, 3) := by decide +kernel
theorem dX0_holdsInside_18 : decode cX0_holdsInside 18 = .ok (.imul, 1) := by decide +kernel
theorem dX0_holdsInside_19 : decode cX0_holdsInside 19 = .ok (.if_icmp .ge 29, 3) := by decide +kernel
theorem dX0_holdsInside_22 : decode cX0_holdsInside 22 = .ok (.iload_n 2, 1) := by decide +kernel
theorem dX0_holdsInside_23 : decode cX0_holdsInside 23 = .ok (.bipush 65, 2) := by decide +kernel
theorem dX0_holdsInside_25 : decode cX0_holdsInside 25 = .ok (.aload_n 0, 1) := by decide +kernel
theorem dX0_holdsInside_26 : decode cX0_holdsInside 26 = .ok (.getfield 15, 3) := by decide +kernel
theorem dX0_holdsInside_29 : decode cX0_holdsInside 29 = .ok (.imul, 1) := by decide +kernel
theorem dX0_holdsInside_30 : decode cX0_holdsInside 30 = .ok (.if_icmp .le 18, 3) := by decide +kernel
theorem dX0_holdsInside_33 : decode cX0_holdsInside 33 = .ok (.iload_n 2, 1) := by decide +kernel
theorem dX0_holdsInside_34 : decode cX0_holdsInside 34 = .ok (.bipush 65, 2) := by decide +kernel
theorem dX0_holdsInside_36 : decode cX0_holdsInside 36 = .ok (.aload_n 0, 1) := by decide +kernel
theorem dX0_holdsInside_37 : decode cX0_holdsInside 37 = .ok (.getfield 21, 3) := by decide +kernel
theorem dX0_holdsInside_40 : decode cX0_holdsInside 40 = .ok (.imul, 1) := by decide +kernel
theorem dX0_holdsInside_41 : decode cX0_holdsInside 41 = .ok (.if_icmp .ge 7, 3) := by decide +kernel
theorem dX0_holdsInside_44 : decode cX0_holdsInside 44 = .ok (.iconst 1, 1) := by decide +kernel
theorem dX0_holdsInside_45 : decode cX0_holdsInside 45 = .ok (.goto 4, 3) := by decide +kernel
theorem dX0_holdsInside_48 : decode cX0_holdsInside 48 = .ok (.iconst 0, 1) := by decide +kernel
theorem dX0_holdsInside_49 : decode cX0_holdsInside 49 = .ok (.ireturn, 1) := by decide +kernel
theorem dX5_init_0 : decode cX5_init 0 = .ok (.aload_n 0, 1) := by decide +kernel
theorem dX5_init_1 : decode cX5_init 1 = .ok (.invokespecial 3, 3) := by decide +kernel
theorem dX5_init_4 : decode cX5_init 4 = .ok (.return_, 1) := by decide +kernel
theorem dX1_heightOf_0 : decode cX1_heightOf 0 = .ok (.iload_n 1, 1) := by decide +kernel
theorem dX1_heightOf_1 : decode cX1_heightOf 1 = .ok (.ifCond .lt 20, 3) := by decide +kernel
theorem dX1_heightOf_4 : decode cX1_heightOf 4 = .ok (.iload_n 1, 1) := by decide +kernel
theorem dX1_heightOf_5 : decode cX1_heightOf 5 = .ok (.aload_n 0, 1) := by decide +kernel
theorem dX1_heightOf_6 : decode cX1_heightOf 6 = .ok (.getfield 60, 3) := by decide +kernel
theorem dX1_heightOf_9 : decode cX1_heightOf 9 = .ok (.if_icmp .ge 12, 3) := by decide +kernel
theorem dX1_heightOf_12 : decode cX1_heightOf 12 = .ok (.aload_n 0, 1) := by decide +kernel
theorem dX1_heightOf_13 : decode cX1_heightOf 13 = .ok (.getfield 11, 3) := by decide +kernel
theorem dX1_heightOf_16 : decode cX1_heightOf 16 = .ok (.iload_n 1, 1) := by decide +kernel
theorem dX1_heightOf_17 : decode cX1_heightOf 17 = .ok (.iaload, 1) := by decide +kernel
theorem dX1_heightOf_18 : decode cX1_heightOf 18 = .ok (.goto 4, 3) := by decide +kernel
theorem dX1_heightOf_21 : decode cX1_heightOf 21 = .ok (.iconst 0, 1) := by decide +kernel
theorem dX1_heightOf_22 : decode cX1_heightOf 22 = .ok (.ireturn, 1) := by decide +kernel
theorem dX1_footOf_0 : decode cX1_footOf 0 = .ok (.aload_n 0, 1) := by decide +kernel
theorem dX1_footOf_1 : decode cX1_footOf 1 = .ok (.iload_n 1, 1) := by decide +kernel
theorem dX1_footOf_2 : decode cX1_footOf 2 = .ok (.iconst 1, 1) := by decide +kernel
theorem dX1_footOf_3 : decode cX1_footOf 3 = .ok (.isub, 1) := by decide +kernel
theorem dX1_footOf_4 : decode cX1_footOf 4 = .ok (.invokevirtual 67, 3) := by decide +kernel
theorem dX1_footOf_7 : decode cX1_footOf 7 = .ok (.ireturn, 1) := by decide +kernel
theorem dX1_addStorey_0 : decode cX1_addStorey 0 = .ok (.iload_n 1, 1) := by decide +kernel
theorem dX1_addStorey_1 : decode cX1_addStorey 1 = .ok (.iconst 1, 1) := by decide +kernel
theorem dX1_addStorey_2 : decode cX1_addStorey 2 = .ok (.bipush 99, 2) := by decide +kernel
theorem dX1_addStorey_4 : decode cX1_addStorey 4 = .ok (.invokestatic 56, 3) := by decide +kernel
theorem dX1_addStorey_7 : decode cX1_addStorey 7 = .ok (.ifCond .eq 15, 3) := by decide +kernel
theorem dX1_addStorey_10 : decode cX1_addStorey 10 = .ok (.iload_n 1, 1) := by decide +kernel
theorem dX1_addStorey_11 : decode cX1_addStorey 11 = .ok (.aload_n 0, 1) := by decide +kernel
theorem dX1_addStorey_12 : decode cX1_addStorey 12 = .ok (.aload_n 0, 1) := by decide +kernel
theorem dX1_addStorey_13 : decode cX1_addStorey 13 = .ok (.getfield 60, 3) := by decide +kernel
theorem dX1_addStorey_16 : decode cX1_addStorey 16 = .ok (.invokevirtual 63, 3) := by decide +kernel
theorem dX1_addStorey_19 : decode cX1_addStorey 19 = .ok (.if_icmp .gt 6, 3) := by decide +kernel
theorem dX1_addStorey_22 : decode cX1_addStorey 22 = .ok (.bipush (-2), 2) := by decide +kernel
theorem dX1_addStorey_24 : decode cX1_addStorey 24 = .ok (.ireturn, 1) := by decide +kernel
theorem dX1_addStorey_25 : decode cX1_addStorey 25 = .ok (.iload_n 2, 1) := by decide +kernel
theorem dX1_addStorey_26 : decode cX1_addStorey 26 = .ok (.iconst 1, 1) := by decide +kernel
theorem dX1_addStorey_27 : decode cX1_addStorey 27 = .ok (.bipush 30, 2) := by decide +kernel
theorem dX1_addStorey_29 : decode cX1_addStorey 29 = .ok (.invokestatic 56, 3) := by decide +kernel
theorem dX1_addStorey_32 : decode cX1_addStorey 32 = .ok (.ifCond .eq 13, 3) := by decide +kernel
theorem dX1_addStorey_35 : decode cX1_addStorey 35 = .ok (.iload_n 3, 1) := by decide +kernel
theorem dX1_addStorey_36 : decode cX1_addStorey 36 = .ok (.iconst 1, 1) := by decide +kernel
theorem dX1_addStorey_37 : decode cX1_addStorey 37 = .ok (.bipush 30, 2) := by decide +kernel
theorem dX1_addStorey_39 : decode cX1_addStorey 39 = .ok (.invokestatic 56, 3) := by decide +kernel
theorem dX1_addStorey_42 : decode cX1_addStorey 42 = .ok (.ifCond .ne 6, 3) := by decide +kernel
theorem dX1_addStorey_45 : decode cX1_addStorey 45 = .ok (.bipush (-2), 2) := by decide +kernel
theorem dX1_addStorey_47 : decode cX1_addStorey 47 = .ok (.ireturn, 1) := by decide +kernel
theorem dX1_addStorey_48 : decode cX1_addStorey 48 = .ok (.aload_n 0, 1) := by decide +kernel
theorem dX1_addStorey_49 : decode cX1_addStorey 49 = .ok (.getfield 60, 3) := by decide +kernel
theorem dX1_addStorey_52 : decode cX1_addStorey 52 = .ok (.iconst 5, 1) := by decide +kernel
theorem dX1_addStorey_53 : decode cX1_addStorey 53 = .ok (.if_icmp .lt 6, 3) := by decide +kernel
theorem dX1_addStorey_56 : decode cX1_addStorey 56 = .ok (.bipush (-4), 2) := by decide +kernel
theorem dX1_addStorey_58 : decode cX1_addStorey 58 = .ok (.ireturn, 1) := by decide +kernel
theorem dX1_addStorey_59 : decode cX1_addStorey 59 = .ok (.aload_n 0, 1) := by decide +kernel
theorem dX1_addStorey_60 : decode cX1_addStorey 60 = .ok (.getfield 11, 3) := by decide +kernel
theorem dX1_addStorey_63 : decode cX1_addStorey 63 = .ok (.aload_n 0, 1) := by decide +kernel
theorem dX1_addStorey_64 : decode cX1_addStorey 64 = .ok (.getfield 60, 3) := by decide +kernel
theorem dX1_addStorey_67 : decode cX1_addStorey 67 = .ok (.iload_n 1, 1) := by decide +kernel
theorem dX1_addStorey_68 : decode cX1_addStorey 68 = .ok (.iastore, 1) := by decide +kernel
theorem dX1_addStorey_69 : decode cX1_addStorey 69 = .ok (.aload_n 0, 1) := by decide +kernel
theorem dX1_addStorey_70 : decode cX1_addStorey 70 = .ok (.getfield 15, 3) := by decide +kernel
theorem dX1_addStorey_73 : decode cX1_addStorey 73 = .ok (.aload_n 0, 1) := by decide +kernel
theorem dX1_addStorey_74 : decode cX1_addStorey 74 = .ok (.getfield 60, 3) := by decide +kernel
theorem dX1_addStorey_77 : decode cX1_addStorey 77 = .ok (.iload_n 2, 1) := by decide +kernel
theorem dX1_addStorey_78 : decode cX1_addStorey 78 = .ok (.iastore, 1) := by decide +kernel
theorem dX1_addStorey_79 : decode cX1_addStorey 79 = .ok (.aload_n 0, 1) := by decide +kernel
theorem dX1_addStorey_80 : decode cX1_addStorey 80 = .ok (.getfield 18, 3) := by decide +kernel
theorem dX1_addStorey_83 : decode cX1_addStorey 83 = .ok (.aload_n 0, 1) := by decide +kernel
theorem dX1_addStorey_84 : decode cX1_addStorey 84 = .ok (.getfield 60, 3) := by decide +kernel
theorem dX1_addStorey_87 : decode cX1_addStorey 87 = .ok (.iload_n 3, 1) := by decide +kernel
theorem dX1_addStorey_88 : decode cX1_addStorey 88 = .ok (.iastore, 1) := by decide +kernel
theorem dX1_addStorey_89 : decode cX1_addStorey 89 = .ok (.aload_n 0, 1) := by decide +kernel
theorem dX1_addStorey_90 : decode cX1_addStorey 90 = .ok (.dup, 1) := by decide +kernel
theorem dX1_addStorey_91 : decode cX1_addStorey 91 = .ok (.getfield 60, 3) := by decide +kernel
theorem dX1_addStorey_94 : decode cX1_addStorey 94 = .ok (.iconst 1, 1) := by decide +kernel
theorem dX1_addStorey_95 : decode cX1_addStorey 95 = .ok (.iadd, 1) := by decide +kernel
theorem dX1_addStorey_96 : decode cX1_addStorey 96 = .ok (.putfield 60, 3) := by decide +kernel
theorem dX1_addStorey_99 : decode cX1_addStorey 99 = .ok (.aload_n 0, 1) := by decide +kernel
theorem dX1_addStorey_100 : decode cX1_addStorey 100 = .ok (.getfield 60, 3) := by decide +kernel
theorem dX1_addStorey_103 : decode cX1_addStorey 103 = .ok (.ireturn, 1) := by decide +kernel
theorem dX5_lay_0 : decode cX5_lay 0 = .ok (.aload_n 0, 1) := by decide +kernel
theorem dX5_lay_1 : decode cX5_lay 1 = .ok (.iload_n 1, 1) := by decide +kernel
theorem dX5_lay_2 : decode cX5_lay 2 = .ok (.putfield 9, 3) := by decide +kernel
theorem dX5_lay_5 : decode cX5_lay 5 = .ok (.aload_n 0, 1) := by decide +kernel
theorem dX5_lay_6 : decode cX5_lay 6 = .ok (.iload_n 2, 1) := by decide +kernel
theorem dX5_lay_7 : decode cX5_lay 7 = .ok (.putfield 15, 3) := by decide +kernel
theorem dX5_lay_10 : decode cX5_lay 10 = .ok (.aload_n 0, 1) := by decide +kernel
theorem dX5_lay_11 : decode cX5_lay 11 = .ok (.iload_n 3, 1) := by decide +kernel
theorem dX5_lay_12 : decode cX5_lay 12 = .ok (.putfield 18, 3) := by decide +kernel
theorem dX5_lay_15 : decode cX5_lay 15 = .ok (.aload_n 0, 1) := by decide +kernel
theorem dX5_lay_16 : decode cX5_lay 16 = .ok (.iload 4, 2) := by decide +kernel
theorem dX5_lay_18 : decode cX5_lay 18 = .ok (.putfield 21, 3) := by decide +kernel
theorem dX5_lay_21 : decode cX5_lay 21 = .ok (.aload_n 0, 1) := by decide +kernel
theorem dX5_lay_22 : decode cX5_lay 22 = .ok (.iload 5, 2) := by decide +kernel
theorem dX5_lay_24 : decode cX5_lay 24 = .ok (.putfield 24, 3) := by decide +kernel
theorem dX5_lay_27 : decode cX5_lay 27 = .ok (.aload_n 0, 1) := by decide +kernel
theorem dX5_lay_28 : decode cX5_lay 28 = .ok (.iload 6, 2) := by decide +kernel
theorem dX5_lay_30 : decode cX5_lay 30 = .ok (.putfield 27, 3) := by decide +kernel
theorem dX5_lay_33 : decode cX5_lay 33 = .ok (.aload_n 0, 1) := by decide +kernel
theorem dX5_lay_34 : decode cX5_lay 34 = .ok (.iload 5, 2) := by decide +kernel
theorem dX5_lay_36 : decode cX5_lay 36 = .ok (.iload_n 3, 1) := by decide +kernel
theorem dX5_lay_37 : decode cX5_lay 37 = .ok (.invokestatic 30, 3) := by decide +kernel
theorem dX5_lay_40 : decode cX5_lay 40 = .ok (.imul, 1) := by decide +kernel
theorem dX5_lay_41 : decode cX5_lay 41 = .ok (.iload 6, 2) := by decide +kernel
theorem dX5_lay_43 : decode cX5_lay 43 = .ok (.iload 4, 2) := by decide +kernel
theorem dX5_lay_45 : decode cX5_lay 45 = .ok (.invokestatic 30, 3) := by decide +kernel
theorem dX5_lay_48 : decode cX5_lay 48 = .ok (.imul, 1) := by decide +kernel
theorem dX5_lay_49 : decode cX5_lay 49 = .ok (.iadd, 1) := by decide +kernel
theorem dX5_lay_50 : decode cX5_lay 50 = .ok (.putfield 36, 3) := by decide +kernel
theorem dX5_lay_53 : decode cX5_lay 53 = .ok (.aload_n 0, 1) := by decide +kernel
theorem dX5_lay_54 : decode cX5_lay 54 = .ok (.iload 5, 2) := by decide +kernel
theorem dX5_lay_56 : decode cX5_lay 56 = .ok (.iload 4, 2) := by decide +kernel
theorem dX5_lay_58 : decode cX5_lay 58 = .ok (.invokestatic 30, 3) := by decide +kernel
theorem dX5_lay_61 : decode cX5_lay 61 = .ok (.imul, 1) := by decide +kernel
theorem dX5_lay_62 : decode cX5_lay 62 = .ok (.iload 6, 2) := by decide +kernel
theorem dX5_lay_64 : decode cX5_lay 64 = .ok (.iload_n 3, 1) := by decide +kernel
theorem dX5_lay_65 : decode cX5_lay 65 = .ok (.invokestatic 30, 3) := by decide +kernel
theorem dX5_lay_68 : decode cX5_lay 68 = .ok (.imul, 1) := by decide +kernel
theorem dX5_lay_69 : decode cX5_lay 69 = .ok (.iadd, 1) := by decide +kernel
theorem dX5_lay_70 : decode cX5_lay 70 = .ok (.putfield 39, 3) := by decide +kernel
theorem dX5_lay_73 : decode cX5_lay 73 = .ok (.return_, 1) := by decide +kernel
theorem dX1_layAt_0 : decode cX1_layAt 0 = .ok (.iload_n 3, 1) := by decide +kernel
theorem dX1_layAt_1 : decode cX1_layAt 1 = .ok (.invokestatic 70, 3) := by decide +kernel
theorem dX1_layAt_4 : decode cX1_layAt 4 = .ok (.istore 4, 2) := by decide +kernel
theorem dX1_layAt_6 : decode cX1_layAt 6 = .ok (.iload_n 3, 1) := by decide +kernel
theorem dX1_layAt_7 : decode cX1_layAt 7 = .ok (.invokestatic 73, 3) := by decide +kernel
theorem dX1_layAt_10 : decode cX1_layAt 10 = .ok (.istore 5, 2) := by decide +kernel
theorem dX1_layAt_12 : decode cX1_layAt 12 = .ok (.iconst 0, 1) := by decide +kernel
theorem dX1_layAt_13 : decode cX1_layAt 13 = .ok (.istore 6, 2) := by decide +kernel
theorem dX1_layAt_15 : decode cX1_layAt 15 = .ok (.iload 6, 2) := by decide +kernel
theorem dX1_layAt_17 : decode cX1_layAt 17 = .ok (.aload_n 0, 1) := by decide +kernel
theorem dX1_layAt_18 : decode cX1_layAt 18 = .ok (.getfield 60, 3) := by decide +kernel
theorem dX1_layAt_21 : decode cX1_layAt 21 = .ok (.if_icmp .ge 78, 3) := by decide +kernel
theorem dX1_layAt_24 : decode cX1_layAt 24 = .ok (.aload_n 0, 1) := by decide +kernel
theorem dX1_layAt_25 : decode cX1_layAt 25 = .ok (.getfield 46, 3) := by decide +kernel
theorem dX1_layAt_28 : decode cX1_layAt 28 = .ok (.aload_n 0, 1) := by decide +kernel
theorem dX1_layAt_29 : decode cX1_layAt 29 = .ok (.getfield 11, 3) := by decide +kernel
theorem dX1_layAt_32 : decode cX1_layAt 32 = .ok (.iload 6, 2) := by decide +kernel
theorem dX1_layAt_34 : decode cX1_layAt 34 = .ok (.iaload, 1) := by decide +kernel
theorem dX1_layAt_35 : decode cX1_layAt 35 = .ok (.imul, 1) := by decide +kernel
theorem dX1_layAt_36 : decode cX1_layAt 36 = .ok (.bipush 100, 2) := by decide +kernel
theorem dX1_layAt_38 : decode cX1_layAt 38 = .ok (.idiv, 1) := by decide +kernel
theorem dX1_layAt_39 : decode cX1_layAt 39 = .ok (.istore 7, 2) := by decide +kernel
theorem dX1_layAt_41 : decode cX1_layAt 41 = .ok (.iconst 2, 1) := by decide +kernel
theorem dX1_layAt_42 : decode cX1_layAt 42 = .ok (.aload_n 0, 1) := by decide +kernel
theorem dX1_layAt_43 : decode cX1_layAt 43 = .ok (.getfield 15, 3) := by decide +kernel
theorem dX1_layAt_46 : decode cX1_layAt 46 = .ok (.iload 6, 2) := by decide +kernel
theorem dX1_layAt_48 : decode cX1_layAt 48 = .ok (.iaload, 1) := by decide +kernel
theorem dX1_layAt_49 : decode cX1_layAt 49 = .ok (.iload 7, 2) := by decide +kernel
theorem dX1_layAt_51 : decode cX1_layAt 51 = .ok (.iadd, 1) := by decide +kernel
theorem dX1_layAt_52 : decode cX1_layAt 52 = .ok (.imul, 1) := by decide +kernel
theorem dX1_layAt_53 : decode cX1_layAt 53 = .ok (.istore 8, 2) := by decide +kernel
theorem dX1_layAt_55 : decode cX1_layAt 55 = .ok (.iconst 2, 1) := by decide +kernel
theorem dX1_layAt_56 : decode cX1_layAt 56 = .ok (.aload_n 0, 1) := by decide +kernel
theorem dX1_layAt_57 : decode cX1_layAt 57 = .ok (.getfield 18, 3) := by decide +kernel
theorem dX1_layAt_60 : decode cX1_layAt 60 = .ok (.iload 6, 2) := by decide +kernel
theorem dX1_layAt_62 : decode cX1_layAt 62 = .ok (.iaload, 1) := by decide +kernel
theorem dX1_layAt_63 : decode cX1_layAt 63 = .ok (.iload 7, 2) := by decide +kernel
theorem dX1_layAt_65 : decode cX1_layAt 65 = .ok (.iadd, 1) := by decide +kernel
theorem dX1_layAt_66 : decode cX1_layAt 66 = .ok (.imul, 1) := by decide +kernel
theorem dX1_layAt_67 : decode cX1_layAt 67 = .ok (.istore 9, 2) := by decide +kernel
theorem dX1_layAt_69 : decode cX1_layAt 69 = .ok (.aload_n 0, 1) := by decide +kernel
theorem dX1_layAt_70 : decode cX1_layAt 70 = .ok (.getfield 23, 3) := by decide +kernel
theorem dX1_layAt_73 : decode cX1_layAt 73 = .ok (.iload 6, 2) := by decide +kernel
theorem dX1_layAt_75 : decode cX1_layAt 75 = .ok (.aaload, 1) := by decide +kernel
theorem dX1_layAt_76 : decode cX1_layAt 76 = .ok (.iconst 2, 1) := by decide +kernel
theorem dX1_layAt_77 : decode cX1_layAt 77 = .ok (.iload_n 1, 1) := by decide +kernel
theorem dX1_layAt_78 : decode cX1_layAt 78 = .ok (.imul, 1) := by decide +kernel
theorem dX1_layAt_79 : decode cX1_layAt 79 = .ok (.iconst 2, 1) := by decide +kernel
theorem dX1_layAt_80 : decode cX1_layAt 80 = .ok (.iload_n 2, 1) := by decide +kernel
theorem dX1_layAt_81 : decode cX1_layAt 81 = .ok (.imul, 1) := by decide +kernel
theorem dX1_layAt_82 : decode cX1_layAt 82 = .ok (.iload 4, 2) := by decide +kernel
theorem dX1_layAt_84 : decode cX1_layAt 84 = .ok (.iload 5, 2) := by decide +kernel
theorem dX1_layAt_86 : decode cX1_layAt 86 = .ok (.iload 8, 2) := by decide +kernel
theorem dX1_layAt_88 : decode cX1_layAt 88 = .ok (.iload 9, 2) := by decide +kernel
theorem dX1_layAt_90 : decode cX1_layAt 90 = .ok (.invokevirtual 76, 3) := by decide +kernel
theorem dX1_layAt_93 : decode cX1_layAt 93 = .ok (.iinc 6 1, 3) := by decide +kernel
theorem dX1_layAt_96 : decode cX1_layAt 96 = .ok (.goto (-81), 3) := by decide +kernel
theorem dX1_layAt_99 : decode cX1_layAt 99 = .ok (.return_, 1) := by decide +kernel
theorem dX1_standAt_0 : decode cX1_standAt 0 = .ok (.aload_n 0, 1) := by decide +kernel
theorem dX1_standAt_1 : decode cX1_standAt 1 = .ok (.iload_n 1, 1) := by decide +kernel
theorem dX1_standAt_2 : decode cX1_standAt 2 = .ok (.putfield 80, 3) := by decide +kernel
theorem dX1_standAt_5 : decode cX1_standAt 5 = .ok (.aload_n 0, 1) := by decide +kernel
theorem dX1_standAt_6 : decode cX1_standAt 6 = .ok (.iload_n 2, 1) := by decide +kernel
theorem dX1_standAt_7 : decode cX1_standAt 7 = .ok (.putfield 83, 3) := by decide +kernel
theorem dX1_standAt_10 : decode cX1_standAt 10 = .ok (.aload_n 0, 1) := by decide +kernel
theorem dX1_standAt_11 : decode cX1_standAt 11 = .ok (.iload_n 3, 1) := by decide +kernel
theorem dX1_standAt_12 : decode cX1_standAt 12 = .ok (.putfield 86, 3) := by decide +kernel
theorem dX1_standAt_15 : decode cX1_standAt 15 = .ok (.aload_n 0, 1) := by decide +kernel
theorem dX1_standAt_16 : decode cX1_standAt 16 = .ok (.iconst 1, 1) := by decide +kernel
theorem dX1_standAt_17 : decode cX1_standAt 17 = .ok (.putfield 89, 3) := by decide +kernel
theorem dX1_standAt_20 : decode cX1_standAt 20 = .ok (.return_, 1) := by decide +kernel
theorem dX1_alongOf_0 : decode cX1_alongOf 0 = .ok (.iload_n 1, 1) := by decide +kernel
theorem dX1_alongOf_1 : decode cX1_alongOf 1 = .ok (.iconst 2, 1) := by decide +kernel
theorem dX1_alongOf_2 : decode cX1_alongOf 2 = .ok (.if_icmp .ge 10, 3) := by decide +kernel
theorem dX1_alongOf_5 : decode cX1_alongOf 5 = .ok (.aload_n 0, 1) := by decide +kernel
theorem dX1_alongOf_6 : decode cX1_alongOf 6 = .ok (.getfield 36, 3) := by decide +kernel
theorem dX1_alongOf_9 : decode cX1_alongOf 9 = .ok (.goto 8, 3) := by decide +kernel
theorem dX1_alongOf_12 : decode cX1_alongOf 12 = .ok (.aload_n 0, 1) := by decide +kernel
theorem dX1_alongOf_13 : decode cX1_alongOf 13 = .ok (.getfield 36, 3) := by decide +kernel
theorem dX1_alongOf_16 : decode cX1_alongOf 16 = .ok (.ineg, 1) := by decide +kernel
theorem dX1_alongOf_17 : decode cX1_alongOf 17 = .ok (.ireturn, 1) := by decide +kernel
theorem dX1_acrossOf_0 : decode cX1_acrossOf 0 = .ok (.iload_n 1, 1) := by decide +kernel
theorem dX1_acrossOf_1 : decode cX1_acrossOf 1 = .ok (.iconst 2, 1) := by decide +kernel
theorem dX1_acrossOf_2 : decode cX1_acrossOf 2 = .ok (.irem, 1) := by decide +kernel
theorem dX1_acrossOf_3 : decode cX1_acrossOf 3 = .ok (.ifCond .ne 10, 3) := by decide +kernel
theorem dX1_acrossOf_6 : decode cX1_acrossOf 6 = .ok (.aload_n 0, 1) := by decide +kernel
theorem dX1_acrossOf_7 : decode cX1_acrossOf 7 = .ok (.getfield 40, 3) := by decide +kernel
theorem dX1_acrossOf_10 : decode cX1_acrossOf 10 = .ok (.goto 8, 3) := by decide +kernel
theorem dX1_acrossOf_13 : decode cX1_acrossOf 13 = .ok (.aload_n 0, 1) := by decide +kernel
theorem dX1_acrossOf_14 : decode cX1_acrossOf 14 = .ok (.getfield 40, 3) := by decide +kernel
theorem dX1_acrossOf_17 : decode cX1_acrossOf 17 = .ok (.ineg, 1) := by decide +kernel
theorem dX1_acrossOf_18 : decode cX1_acrossOf 18 = .ok (.ireturn, 1) := by decide +kernel
theorem dX1_wheelX_0 : decode cX1_wheelX 0 = .ok (.aload_n 0, 1) := by decide +kernel
theorem dX1_wheelX_1 : decode cX1_wheelX 1 = .ok (.iload_n 1, 1) := by decide +kernel
theorem dX1_wheelX_2 : decode cX1_wheelX 2 = .ok (.invokevirtual 93, 3) := by decide +kernel
theorem dX1_wheelX_5 : decode cX1_wheelX 5 = .ok (.iload_n 2, 1) := by decide +kernel
theorem dX1_wheelX_6 : decode cX1_wheelX 6 = .ok (.invokestatic 70, 3) := by decide +kernel
theorem dX1_wheelX_9 : decode cX1_wheelX 9 = .ok (.imul, 1) := by decide +kernel
theorem dX1_wheelX_10 : decode cX1_wheelX 10 = .ok (.aload_n 0, 1) := by decide +kernel
theorem dX1_wheelX_11 : decode cX1_wheelX 11 = .ok (.iload_n 1, 1) := by decide +kernel
theorem dX1_wheelX_12 : decode cX1_wheelX 12 = .ok (.invokevirtual 96, 3) := by decide +kernel
theorem dX1_wheelX_15 : decode cX1_wheelX 15 = .ok (.iload_n 2, 1) := by decide +kernel
theorem dX1_wheelX_16 : decode cX1_wheelX 16 = .ok (.invokestatic 73, 3) := by decide +kernel
theorem dX1_wheelX_19 : decode cX1_wheelX 19 = .ok (.imul, 1) := by decide +kernel
theorem dX1_wheelX_20 : decode cX1_wheelX 20 = .ok (.isub, 1) := by decide +kernel
theorem dX1_wheelX_21 : decode cX1_wheelX 21 = .ok (.ireturn, 1) := by decide +kernel
theorem dX1_wheelY_0 : decode cX1_wheelY 0 = .ok (.aload_n 0, 1) := by decide +kernel
theorem dX1_wheelY_1 : decode cX1_wheelY 1 = .ok (.iload_n 1, 1) := by decide +kernel
theorem dX1_wheelY_2 : decode cX1_wheelY 2 = .ok (.invokevirtual 93, 3) := by decide +kernel
theorem dX1_wheelY_5 : decode cX1_wheelY 5 = .ok (.iload_n 2, 1) := by decide +kernel
theorem dX1_wheelY_6 : decode cX1_wheelY 6 = .ok (.invokestatic 73, 3) := by decide +kernel
theorem dX1_wheelY_9 : decode cX1_wheelY 9 = .ok (.imul, 1) := by decide +kernel
theorem dX1_wheelY_10 : decode cX1_wheelY 10 = .ok (.aload_n 0, 1) := by decide +kernel
theorem dX1_wheelY_11 : decode cX1_wheelY 11 = .ok (.iload_n 1, 1) := by decide +kernel
theorem dX1_wheelY_12 : decode cX1_wheelY 12 = .ok (.invokevirtual 96, 3) := by decide +kernel
theorem dX1_wheelY_15 : decode cX1_wheelY 15 = .ok (.iload_n 2, 1) := by decide +kernel
theorem dX1_wheelY_16 : decode cX1_wheelY 16 = .ok (.invokestatic 70, 3) := by decide +kernel
theorem dX1_wheelY_19 : decode cX1_wheelY 19 = .ok (.imul, 1) := by decide +kernel
theorem dX1_wheelY_20 : decode cX1_wheelY 20 = .ok (.iadd, 1) := by decide +kernel
theorem dX1_wheelY_21 : decode cX1_wheelY 21 = .ok (.ireturn, 1) := by decide +kernel
theorem dX1_isSlack_0 : decode cX1_isSlack 0 = .ok (.iload_n 1, 1) := by decide +kernel
theorem dX1_isSlack_1 : decode cX1_isSlack 1 = .ok (.iconst 0, 1) := by decide +kernel
theorem dX1_isSlack_2 : decode cX1_isSlack 2 = .ok (.iconst 3, 1) := by decide +kernel
theorem dX1_isSlack_3 : decode cX1_isSlack 3 = .ok (.invokestatic 56, 3) := by decide +kernel
theorem dX1_isSlack_6 : decode cX1_isSlack 6 = .ok (.ifCond .eq 14, 3) := by decide +kernel
theorem dX1_isSlack_9 : decode cX1_isSlack 9 = .ok (.aload_n 0, 1) := by decide +kernel
theorem dX1_isSlack_10 : decode cX1_isSlack 10 = .ok (.getfield 27, 3) := by decide +kernel
theorem dX1_isSlack_13 : decode cX1_isSlack 13 = .ok (.iload_n 1, 1) := by decide +kernel
theorem dX1_isSlack_14 : decode cX1_isSlack 14 = .ok (.iaload, 1) := by decide +kernel
theorem dX1_isSlack_15 : decode cX1_isSlack 15 = .ok (.bipush 10, 2) := by decide +kernel
theorem dX1_isSlack_17 : decode cX1_isSlack 17 = .ok (.if_icmp .ge 7, 3) := by decide +kernel
theorem dX1_isSlack_20 : decode cX1_isSlack 20 = .ok (.iconst 1, 1) := by decide +kernel
theorem dX1_isSlack_21 : decode cX1_isSlack 21 = .ok (.goto 4, 3) := by decide +kernel
theorem dX1_isSlack_24 : decode cX1_isSlack 24 = .ok (.iconst 0, 1) := by decide +kernel
theorem dX1_isSlack_25 : decode cX1_isSlack 25 = .ok (.ireturn, 1) := by decide +kernel
theorem dX1_ropeTurn_0 : decode cX1_ropeTurn 0 = .ok (.iload_n 1, 1) := by decide +kernel
theorem dX1_ropeTurn_1 : decode cX1_ropeTurn 1 = .ok (.iconst 0, 1) := by decide +kernel
theorem dX1_ropeTurn_2 : decode cX1_ropeTurn 2 = .ok (.iconst 3, 1) := by decide +kernel
theorem dX1_ropeTurn_3 : decode cX1_ropeTurn 3 = .ok (.invokestatic 56, 3) := by decide +kernel
theorem dX1_ropeTurn_6 : decode cX1_ropeTurn 6 = .ok (.ifCond .ne 5, 3) := by decide +kernel
theorem dX1_ropeTurn_9 : decode cX1_ropeTurn 9 = .ok (.iconst 0, 1) := by decide +kernel
theorem dX1_ropeTurn_10 : decode cX1_ropeTurn 10 = .ok (.ireturn, 1) := by decide +kernel
theorem dX1_ropeTurn_11 : decode cX1_ropeTurn 11 = .ok (.iload_n 1, 1) := by decide +kernel
theorem dX1_ropeTurn_12 : decode cX1_ropeTurn 12 = .ok (.iconst 2, 1) := by decide +kernel
theorem dX1_ropeTurn_13 : decode cX1_ropeTurn 13 = .ok (.if_icmp .ge 12, 3) := by decide +kernel
theorem dX1_ropeTurn_16 : decode cX1_ropeTurn 16 = .ok (.aload_n 0, 1) := by decide +kernel
theorem dX1_ropeTurn_17 : decode cX1_ropeTurn 17 = .ok (.getfield 33, 3) := by decide +kernel
theorem dX1_ropeTurn_20 : decode cX1_ropeTurn 20 = .ok (.iload_n 1, 1) := by decide +kernel
theorem dX1_ropeTurn_21 : decode cX1_ropeTurn 21 = .ok (.iaload, 1) := by decide +kernel
theorem dX1_ropeTurn_22 : decode cX1_ropeTurn 22 = .ok (.goto 12, 3) := by decide +kernel
theorem dX1_ropeTurn_25 : decode cX1_ropeTurn 25 = .ok (.bipush 18, 2) := by decide +kernel
theorem dX1_ropeTurn_27 : decode cX1_ropeTurn 27 = .ok (.aload_n 0, 1) := by decide +kernel
theorem dX1_ropeTurn_28 : decode cX1_ropeTurn 28 = .ok (.getfield 33, 3) := by decide +kernel
theorem dX1_ropeTurn_31 : decode cX1_ropeTurn 31 = .ok (.iload_n 1, 1) := by decide +kernel
theorem dX1_ropeTurn_32 : decode cX1_ropeTurn 32 = .ok (.iaload, 1) := by decide +kernel
theorem dX1_ropeTurn_33 : decode cX1_ropeTurn 33 = .ok (.iadd, 1) := by decide +kernel
theorem dX1_ropeTurn_34 : decode cX1_ropeTurn 34 = .ok (.ireturn, 1) := by decide +kernel
theorem dX1_layRope_0 : decode cX1_layRope 0 = .ok (.iload_n 2, 1) := by decide +kernel
theorem dX1_layRope_1 : decode cX1_layRope 1 = .ok (.iconst 0, 1) := by decide +kernel
theorem dX1_layRope_2 : decode cX1_layRope 2 = .ok (.iconst 3, 1) := by decide +kernel
theorem dX1_layRope_3 : decode cX1_layRope 3 = .ok (.invokestatic 56, 3) := by decide +kernel
theorem dX1_layRope_6 : decode cX1_layRope 6 = .ok (.ifCond .ne 4, 3) := by decide +kernel
theorem dX1_layRope_9 : decode cX1_layRope 9 = .ok (.return_, 1) := by decide +kernel
theorem dX1_layRope_10 : decode cX1_layRope 10 = .ok (.aload_n 0, 1) := by decide +kernel
theorem dX1_layRope_11 : decode cX1_layRope 11 = .ok (.getfield 86, 3) := by decide +kernel
theorem dX1_layRope_14 : decode cX1_layRope 14 = .ok (.aload_n 0, 1) := by decide +kernel
theorem dX1_layRope_15 : decode cX1_layRope 15 = .ok (.iload_n 2, 1) := by decide +kernel
theorem dX1_layRope_16 : decode cX1_layRope 16 = .ok (.invokevirtual 99, 3) := by decide +kernel
theorem dX1_layRope_19 : decode cX1_layRope 19 = .ok (.iadd, 1) := by decide +kernel
theorem dX1_layRope_20 : decode cX1_layRope 20 = .ok (.istore_n 3, 1) := by decide +kernel
theorem dX1_layRope_21 : decode cX1_layRope 21 = .ok (.iload_n 3, 1) := by decide +kernel
theorem dX1_layRope_22 : decode cX1_layRope 22 = .ok (.invokestatic 70, 3) := by decide +kernel
theorem dX1_layRope_25 : decode cX1_layRope 25 = .ok (.istore 4, 2) := by decide +kernel
theorem dX1_layRope_27 : decode cX1_layRope 27 = .ok (.iload_n 3, 1) := by decide +kernel
theorem dX1_layRope_28 : decode cX1_layRope 28 = .ok (.invokestatic 73, 3) := by decide +kernel
theorem dX1_layRope_31 : decode cX1_layRope 31 = .ok (.istore 5, 2) := by decide +kernel
theorem dX1_layRope_33 : decode cX1_layRope 33 = .ok (.aload_n 0, 1) := by decide +kernel
theorem dX1_layRope_34 : decode cX1_layRope 34 = .ok (.getfield 30, 3) := by decide +kernel
theorem dX1_layRope_37 : decode cX1_layRope 37 = .ok (.iload_n 2, 1) := by decide +kernel
theorem dX1_layRope_38 : decode cX1_layRope 38 = .ok (.iaload, 1) := by decide +kernel
theorem dX1_layRope_39 : decode cX1_layRope 39 = .ok (.istore 6, 2) := by decide +kernel
theorem dX1_layRope_41 : decode cX1_layRope 41 = .ok (.iconst 2, 1) := by decide +kernel
theorem dX1_layRope_42 : decode cX1_layRope 42 = .ok (.aload_n 0, 1) := by decide +kernel
theorem dX1_layRope_43 : decode cX1_layRope 43 = .ok (.getfield 80, 3) := by decide +kernel
theorem dX1_layRope_46 : decode cX1_layRope 46 = .ok (.aload_n 0, 1) := by decide +kernel
theorem dX1_layRope_47 : decode cX1_layRope 47 = .ok (.iload_n 2, 1) := by decide +kernel
theorem dX1_layRope_48 : decode cX1_layRope 48 = .ok (.aload_n 0, 1) := by decide +kernel
theorem dX1_layRope_49 : decode cX1_layRope 49 = .ok (.getfield 86, 3) := by decide +kernel
theorem dX1_layRope_52 : decode cX1_layRope 52 = .ok (.invokevirtual 102, 3) := by decide +kernel
theorem dX1_layRope_55 : decode cX1_layRope 55 = .ok (.iadd, 1) := by decide +kernel
theorem dX1_layRope_56 : decode cX1_layRope 56 = .ok (.imul, 1) := by decide +kernel
theorem dX1_layRope_57 : decode cX1_layRope 57 = .ok (.iload 6, 2) := by decide +kernel
theorem dX1_layRope_59 : decode cX1_layRope 59 = .ok (.iload 4, 2) := by decide +kernel
theorem dX1_layRope_61 : decode cX1_layRope 61 = .ok (.imul, 1) := by decide +kernel
theorem dX1_layRope_62 : decode cX1_layRope 62 = .ok (.iadd, 1) := by decide +kernel
theorem dX1_layRope_63 : decode cX1_layRope 63 = .ok (.istore 7, 2) := by decide +kernel
theorem dX1_layRope_65 : decode cX1_layRope 65 = .ok (.iconst 2, 1) := by decide +kernel
theorem dX1_layRope_66 : decode cX1_layRope 66 = .ok (.aload_n 0, 1) := by decide +kernel
theorem dX1_layRope_67 : decode cX1_layRope 67 = .ok (.getfield 83, 3) := by decide +kernel
theorem dX1_layRope_70 : decode cX1_layRope 70 = .ok (.aload_n 0, 1) := by decide +kernel
theorem dX1_layRope_71 : decode cX1_layRope 71 = .ok (.iload_n 2, 1) := by decide +kernel
theorem dX1_layRope_72 : decode cX1_layRope 72 = .ok (.aload_n 0, 1) := by decide +kernel
theorem dX1_layRope_73 : decode cX1_layRope 73 = .ok (.getfield 86, 3) := by decide +kernel
theorem dX1_layRope_76 : decode cX1_layRope 76 = .ok (.invokevirtual 106, 3) := by decide +kernel
theorem dX1_layRope_79 : decode cX1_layRope 79 = .ok (.iadd, 1) := by decide +kernel
theorem dX1_layRope_80 : decode cX1_layRope 80 = .ok (.imul, 1) := by decide +kernel
theorem dX1_layRope_81 : decode cX1_layRope 81 = .ok (.iload 6, 2) := by decide +kernel
theorem dX1_layRope_83 : decode cX1_layRope 83 = .ok (.iload 5, 2) := by decide +kernel
theorem dX1_layRope_85 : decode cX1_layRope 85 = .ok (.imul, 1) := by decide +kernel
theorem dX1_layRope_86 : decode cX1_layRope 86 = .ok (.iadd, 1) := by decide +kernel
theorem dX1_layRope_87 : decode cX1_layRope 87 = .ok (.istore 8, 2) := by decide +kernel
theorem dX1_layRope_89 : decode cX1_layRope 89 = .ok (.aload_n 1, 1) := by decide +kernel
theorem dX1_layRope_90 : decode cX1_layRope 90 = .ok (.iload 7, 2) := by decide +kernel
theorem dX1_layRope_92 : decode cX1_layRope 92 = .ok (.iload 8, 2) := by decide +kernel
theorem dX1_layRope_94 : decode cX1_layRope 94 = .ok (.iload 4, 2) := by decide +kernel
theorem dX1_layRope_96 : decode cX1_layRope 96 = .ok (.iload 5, 2) := by decide +kernel
theorem dX1_layRope_98 : decode cX1_layRope 98 = .ok (.iload 6, 2) := by decide +kernel
theorem dX1_layRope_100 : decode cX1_layRope 100 = .ok (.iconst 0, 1) := by decide +kernel
theorem dX1_layRope_101 : decode cX1_layRope 101 = .ok (.invokevirtual 76, 3) := by decide +kernel
theorem dX1_layRope_104 : decode cX1_layRope 104 = .ok (.return_, 1) := by decide +kernel
theorem dX1_tell_0 : decode cX1_tell 0 = .ok (.iload_n 1, 1) := by decide +kernel
theorem dX1_tell_1 : decode cX1_tell 1 = .ok (.tableswitch 149 0 9 #[55, 60, 65, 70, 75, 80, 97, 114, 131, 136], 55) := by decide +kernel
theorem dX1_tell_56 : decode cX1_tell 56 = .ok (.aload_n 0, 1) := by decide +kernel
theorem dX1_tell_57 : decode cX1_tell 57 = .ok (.getfield 36, 3) := by decide +kernel
theorem dX1_tell_60 : decode cX1_tell 60 = .ok (.ireturn, 1) := by decide +kernel
theorem dX1_tell_61 : decode cX1_tell 61 = .ok (.aload_n 0, 1) := by decide +kernel
theorem dX1_tell_62 : decode cX1_tell 62 = .ok (.getfield 40, 3) := by decide +kernel
theorem dX1_tell_65 : decode cX1_tell 65 = .ok (.ireturn, 1) := by decide +kernel
theorem dX1_tell_66 : decode cX1_tell 66 = .ok (.aload_n 0, 1) := by decide +kernel
theorem dX1_tell_67 : decode cX1_tell 67 = .ok (.getfield 43, 3) := by decide +kernel
theorem dX1_tell_70 : decode cX1_tell 70 = .ok (.ireturn, 1) := by decide +kernel
theorem dX1_tell_71 : decode cX1_tell 71 = .ok (.aload_n 0, 1) := by decide +kernel
theorem dX1_tell_72 : decode cX1_tell 72 = .ok (.getfield 46, 3) := by decide +kernel
theorem dX1_tell_75 : decode cX1_tell 75 = .ok (.ireturn, 1) := by decide +kernel
theorem dX1_tell_76 : decode cX1_tell 76 = .ok (.aload_n 0, 1) := by decide +kernel
theorem dX1_tell_77 : decode cX1_tell 77 = .ok (.getfield 60, 3) := by decide +kernel
theorem dX1_tell_80 : decode cX1_tell 80 = .ok (.ireturn, 1) := by decide +kernel
theorem dX1_tell_81 : decode cX1_tell 81 = .ok (.aload_n 0, 1) := by decide +kernel
theorem dX1_tell_82 : decode cX1_tell 82 = .ok (.getfield 89, 3) := by decide +kernel
theorem dX1_tell_85 : decode cX1_tell 85 = .ok (.ifCond .eq 10, 3) := by decide +kernel
theorem dX1_tell_88 : decode cX1_tell 88 = .ok (.aload_n 0, 1) := by decide +kernel
theorem dX1_tell_89 : decode cX1_tell 89 = .ok (.getfield 80, 3) := by decide +kernel
theorem dX1_tell_92 : decode cX1_tell 92 = .ok (.goto 5, 3) := by decide +kernel
theorem dX1_tell_95 : decode cX1_tell 95 = .ok (.ldc 109, 2) := by decide +kernel
theorem dX1_tell_97 : decode cX1_tell 97 = .ok (.ireturn, 1) := by decide +kernel
theorem dX1_tell_98 : decode cX1_tell 98 = .ok (.aload_n 0, 1) := by decide +kernel
theorem dX1_tell_99 : decode cX1_tell 99 = .ok (.getfield 89, 3) := by decide +kernel
theorem dX1_tell_102 : decode cX1_tell 102 = .ok (.ifCond .eq 10, 3) := by decide +kernel
theorem dX1_tell_105 : decode cX1_tell 105 = .ok (.aload_n 0, 1) := by decide +kernel
theorem dX1_tell_106 : decode cX1_tell 106 = .ok (.getfield 83, 3) := by decide +kernel
theorem dX1_tell_109 : decode cX1_tell 109 = .ok (.goto 5, 3) := by decide +kernel
theorem dX1_tell_112 : decode cX1_tell 112 = .ok (.ldc 109, 2) := by decide +kernel
theorem dX1_tell_114 : decode cX1_tell 114 = .ok (.ireturn, 1) := by decide +kernel
theorem dX1_tell_115 : decode cX1_tell 115 = .ok (.aload_n 0, 1) := by decide +kernel
theorem dX1_tell_116 : decode cX1_tell 116 = .ok (.getfield 89, 3) := by decide +kernel
theorem dX1_tell_119 : decode cX1_tell 119 = .ok (.ifCond .eq 10, 3) := by decide +kernel
theorem dX1_tell_122 : decode cX1_tell 122 = .ok (.aload_n 0, 1) := by decide +kernel
theorem dX1_tell_123 : decode cX1_tell 123 = .ok (.getfield 86, 3) := by decide +kernel
theorem dX1_tell_126 : decode cX1_tell 126 = .ok (.goto 5, 3) := by decide +kernel
theorem dX1_tell_129 : decode cX1_tell 129 = .ok (.ldc 109, 2) := by decide +kernel
theorem dX1_tell_131 : decode cX1_tell 131 = .ok (.ireturn, 1) := by decide +kernel
theorem dX1_tell_132 : decode cX1_tell 132 = .ok (.aload_n 0, 1) := by decide +kernel
theorem dX1_tell_133 : decode cX1_tell 133 = .ok (.getfield 110, 3) := by decide +kernel
theorem dX1_tell_136 : decode cX1_tell 136 = .ok (.ireturn, 1) := by decide +kernel
theorem dX1_tell_137 : decode cX1_tell 137 = .ok (.aload_n 0, 1) := by decide +kernel
theorem dX1_tell_138 : decode cX1_tell 138 = .ok (.getfield 89, 3) := by decide +kernel
theorem dX1_tell_141 : decode cX1_tell 141 = .ok (.ifCond .eq 7, 3) := by decide +kernel
theorem dX1_tell_144 : decode cX1_tell 144 = .ok (.iconst 1, 1) := by decide +kernel
theorem dX1_tell_145 : decode cX1_tell 145 = .ok (.goto 4, 3) := by decide +kernel
theorem dX1_tell_148 : decode cX1_tell 148 = .ok (.iconst 0, 1) := by decide +kernel
theorem dX1_tell_149 : decode cX1_tell 149 = .ok (.ireturn, 1) := by decide +kernel
theorem dX1_tell_150 : decode cX1_tell 150 = .ok (.ldc 109, 2) := by decide +kernel
theorem dX1_tell_152 : decode cX1_tell 152 = .ok (.ireturn, 1) := by decide +kernel
theorem dX5_touchesBox_0 : decode cX5_touchesBox 0 = .ok (.bipush 65, 2) := by decide +kernel
theorem dX5_touchesBox_2 : decode cX5_touchesBox 2 = .ok (.aload_n 1, 1) := by decide +kernel
theorem dX5_touchesBox_3 : decode cX5_touchesBox 3 = .ok (.getfield 42, 3) := by decide +kernel
theorem dX5_touchesBox_6 : decode cX5_touchesBox 6 = .ok (.aload_n 1, 1) := by decide +kernel
theorem dX5_touchesBox_7 : decode cX5_touchesBox 7 = .ok (.getfield 47, 3) := by decide +kernel
theorem dX5_touchesBox_10 : decode cX5_touchesBox 10 = .ok (.isub, 1) := by decide +kernel
theorem dX5_touchesBox_11 : decode cX5_touchesBox 11 = .ok (.iconst 2, 1) := by decide +kernel
theorem dX5_touchesBox_12 : decode cX5_touchesBox 12 = .ok (.iload_n 2, 1) := by decide +kernel
theorem dX5_touchesBox_13 : decode cX5_touchesBox 13 = .ok (.imul, 1) := by decide +kernel
theorem dX5_touchesBox_14 : decode cX5_touchesBox 14 = .ok (.iadd, 1) := by decide +kernel
theorem dX5_touchesBox_15 : decode cX5_touchesBox 15 = .ok (.imul, 1) := by decide +kernel
theorem dX5_touchesBox_16 : decode cX5_touchesBox 16 = .ok (.istore_n 3, 1) := by decide +kernel
theorem dX5_touchesBox_17 : decode cX5_touchesBox 17 = .ok (.bipush 65, 2) := by decide +kernel
theorem dX5_touchesBox_19 : decode cX5_touchesBox 19 = .ok (.aload_n 1, 1) := by decide +kernel
theorem dX5_touchesBox_20 : decode cX5_touchesBox 20 = .ok (.getfield 50, 3) := by decide +kernel
theorem dX5_touchesBox_23 : decode cX5_touchesBox 23 = .ok (.aload_n 1, 1) := by decide +kernel
theorem dX5_touchesBox_24 : decode cX5_touchesBox 24 = .ok (.getfield 53, 3) := by decide +kernel
theorem dX5_touchesBox_27 : decode cX5_touchesBox 27 = .ok (.isub, 1) := by decide +kernel
theorem dX5_touchesBox_28 : decode cX5_touchesBox 28 = .ok (.iconst 2, 1) := by decide +kernel
theorem dX5_touchesBox_29 : decode cX5_touchesBox 29 = .ok (.iload_n 2, 1) := by decide +kernel
theorem dX5_touchesBox_30 : decode cX5_touchesBox 30 = .ok (.imul, 1) := by decide +kernel
theorem dX5_touchesBox_31 : decode cX5_touchesBox 31 = .ok (.iadd, 1) := by decide +kernel
theorem dX5_touchesBox_32 : decode cX5_touchesBox 32 = .ok (.imul, 1) := by decide +kernel
theorem dX5_touchesBox_33 : decode cX5_touchesBox 33 = .ok (.istore 4, 2) := by decide +kernel
theorem dX5_touchesBox_35 : decode cX5_touchesBox 35 = .ok (.aload_n 0, 1) := by decide +kernel
theorem dX5_touchesBox_36 : decode cX5_touchesBox 36 = .ok (.getfield 9, 3) := by decide +kernel
theorem dX5_touchesBox_39 : decode cX5_touchesBox 39 = .ok (.bipush 65, 2) := by decide +kernel
theorem dX5_touchesBox_41 : decode cX5_touchesBox 41 = .ok (.aload_n 1, 1) := by decide +kernel
theorem dX5_touchesBox_42 : decode cX5_touchesBox 42 = .ok (.getfield 47, 3) := by decide +kernel
theorem dX5_touchesBox_45 : decode cX5_touchesBox 45 = .ok (.aload_n 1, 1) := by decide +kernel
theorem dX5_touchesBox_46 : decode cX5_touchesBox 46 = .ok (.getfield 42, 3) := by decide +kernel
theorem dX5_touchesBox_49 : decode cX5_touchesBox 49 = .ok (.iadd, 1) := by decide +kernel
theorem dX5_touchesBox_50 : decode cX5_touchesBox 50 = .ok (.imul, 1) := by decide +kernel
theorem dX5_touchesBox_51 : decode cX5_touchesBox 51 = .ok (.isub, 1) := by decide +kernel
theorem dX5_touchesBox_52 : decode cX5_touchesBox 52 = .ok (.istore 5, 2) := by decide +kernel
theorem dX5_touchesBox_54 : decode cX5_touchesBox 54 = .ok (.aload_n 0, 1) := by decide +kernel
theorem dX5_touchesBox_55 : decode cX5_touchesBox 55 = .ok (.getfield 15, 3) := by decide +kernel
theorem dX5_touchesBox_58 : decode cX5_touchesBox 58 = .ok (.bipush 65, 2) := by decide +kernel
theorem dX5_touchesBox_60 : decode cX5_touchesBox 60 = .ok (.aload_n 1, 1) := by decide +kernel
theorem dX5_touchesBox_61 : decode cX5_touchesBox 61 = .ok (.getfield 53, 3) := by decide +kernel
theorem dX5_touchesBox_64 : decode cX5_touchesBox 64 = .ok (.aload_n 1, 1) := by decide +kernel
theorem dX5_touchesBox_65 : decode cX5_touchesBox 65 = .ok (.getfield 50, 3) := by decide +kernel
theorem dX5_touchesBox_68 : decode cX5_touchesBox 68 = .ok (.iadd, 1) := by decide +kernel
theorem dX5_touchesBox_69 : decode cX5_touchesBox 69 = .ok (.imul, 1) := by decide +kernel
theorem dX5_touchesBox_70 : decode cX5_touchesBox 70 = .ok (.isub, 1) := by decide +kernel
theorem dX5_touchesBox_71 : decode cX5_touchesBox 71 = .ok (.istore 6, 2) := by decide +kernel
theorem dX5_touchesBox_73 : decode cX5_touchesBox 73 = .ok (.iload 5, 2) := by decide +kernel
theorem dX5_touchesBox_75 : decode cX5_touchesBox 75 = .ok (.invokestatic 30, 3) := by decide +kernel
theorem dX5_touchesBox_78 : decode cX5_touchesBox 78 = .ok (.aload_n 0, 1) := by decide +kernel
theorem dX5_touchesBox_79 : decode cX5_touchesBox 79 = .ok (.getfield 36, 3) := by decide +kernel
theorem dX5_touchesBox_82 : decode cX5_touchesBox 82 = .ok (.iload_n 3, 1) := by decide +kernel
theorem dX5_touchesBox_83 : decode cX5_touchesBox 83 = .ok (.iadd, 1) := by decide +kernel
theorem dX5_touchesBox_84 : decode cX5_touchesBox 84 = .ok (.if_icmp .ge 18, 3) := by decide +kernel
theorem dX5_touchesBox_87 : decode cX5_touchesBox 87 = .ok (.iload 6, 2) := by decide +kernel
theorem dX5_touchesBox_89 : decode cX5_touchesBox 89 = .ok (.invokestatic 30, 3) := by decide +kernel
theorem dX5_touchesBox_92 : decode cX5_touchesBox 92 = .ok (.aload_n 0, 1) := by decide +kernel
theorem dX5_touchesBox_93 : decode cX5_touchesBox 93 = .ok (.getfield 39, 3) := by decide +kernel
theorem dX5_touchesBox_96 : decode cX5_touchesBox 96 = .ok (.iload 4, 2) := by decide +kernel
theorem dX5_touchesBox_98 : decode cX5_touchesBox 98 = .ok (.iadd, 1) := by decide +kernel
theorem dX5_touchesBox_99 : decode cX5_touchesBox 99 = .ok (.if_icmp .lt 5, 3) := by decide +kernel
theorem dX5_touchesBox_102 : decode cX5_touchesBox 102 = .ok (.iconst 0, 1) := by decide +kernel
theorem dX5_touchesBox_103 : decode cX5_touchesBox 103 = .ok (.ireturn, 1) := by decide +kernel
theorem dX5_touchesBox_104 : decode cX5_touchesBox 104 = .ok (.aload_n 0, 1) := by decide +kernel
theorem dX5_touchesBox_105 : decode cX5_touchesBox 105 = .ok (.getfield 18, 3) := by decide +kernel
theorem dX5_touchesBox_108 : decode cX5_touchesBox 108 = .ok (.invokestatic 30, 3) := by decide +kernel
theorem dX5_touchesBox_111 : decode cX5_touchesBox 111 = .ok (.istore 7, 2) := by decide +kernel
theorem dX5_touchesBox_113 : decode cX5_touchesBox 113 = .ok (.aload_n 0, 1) := by decide +kernel
theorem dX5_touchesBox_114 : decode cX5_touchesBox 114 = .ok (.getfield 21, 3) := by decide +kernel
theorem dX5_touchesBox_117 : decode cX5_touchesBox 117 = .ok (.invokestatic 30, 3) := by decide +kernel
theorem dX5_touchesBox_120 : decode cX5_touchesBox 120 = .ok (.istore 8, 2) := by decide +kernel
theorem dX5_touchesBox_122 : decode cX5_touchesBox 122 = .ok (.iload 5, 2) := by decide +kernel
theorem dX5_touchesBox_124 : decode cX5_touchesBox 124 = .ok (.aload_n 0, 1) := by decide +kernel
theorem dX5_touchesBox_125 : decode cX5_touchesBox 125 = .ok (.getfield 18, 3) := by decide +kernel
theorem dX5_touchesBox_128 : decode cX5_touchesBox 128 = .ok (.imul, 1) := by decide +kernel
theorem dX5_touchesBox_129 : decode cX5_touchesBox 129 = .ok (.iload 6, 2) := by decide +kernel
theorem dX5_touchesBox_131 : decode cX5_touchesBox 131 = .ok (.aload_n 0, 1) := by decide +kernel
theorem dX5_touchesBox_132 : decode cX5_touchesBox 132 = .ok (.getfield 21, 3) := by decide +kernel
theorem dX5_touchesBox_135 : decode cX5_touchesBox 135 = .ok (.imul, 1) := by decide +kernel
theorem dX5_touchesBox_136 : decode cX5_touchesBox 136 = .ok (.iadd, 1) := by decide +kernel
theorem dX5_touchesBox_137 : decode cX5_touchesBox 137 = .ok (.invokestatic 30, 3) := by decide +kernel
theorem dX5_touchesBox_140 : decode cX5_touchesBox 140 = .ok (.aload_n 0, 1) := by decide +kernel
theorem dX5_touchesBox_141 : decode cX5_touchesBox 141 = .ok (.getfield 24, 3) := by decide +kernel
theorem dX5_touchesBox_144 : decode cX5_touchesBox 144 = .ok (.sipush 4225, 3) := by decide +kernel
theorem dX5_touchesBox_147 : decode cX5_touchesBox 147 = .ok (.imul, 1) := by decide +kernel
theorem dX5_touchesBox_148 : decode cX5_touchesBox 148 = .ok (.iload_n 3, 1) := by decide +kernel
theorem dX5_touchesBox_149 : decode cX5_touchesBox 149 = .ok (.iload 7, 2) := by decide +kernel
theorem dX5_touchesBox_151 : decode cX5_touchesBox 151 = .ok (.imul, 1) := by decide +kernel
theorem dX5_touchesBox_152 : decode cX5_touchesBox 152 = .ok (.iadd, 1) := by decide +kernel
theorem dX5_touchesBox_153 : decode cX5_touchesBox 153 = .ok (.iload 4, 2) := by decide +kernel
theorem dX5_touchesBox_155 : decode cX5_touchesBox 155 = .ok (.iload 8, 2) := by decide +kernel
theorem dX5_touchesBox_157 : decode cX5_touchesBox 157 = .ok (.imul, 1) := by decide +kernel
theorem dX5_touchesBox_158 : decode cX5_touchesBox 158 = .ok (.iadd, 1) := by decide +kernel
theorem dX5_touchesBox_159 : decode cX5_touchesBox 159 = .ok (.if_icmp .ge 47, 3) := by decide +kernel
theorem dX5_touchesBox_162 : decode cX5_touchesBox 162 = .ok (.iload 6, 2) := by decide +kernel
theorem dX5_touchesBox_164 : decode cX5_touchesBox 164 = .ok (.aload_n 0, 1) := by decide +kernel
theorem dX5_touchesBox_165 : decode cX5_touchesBox 165 = .ok (.getfield 18, 3) := by decide +kernel
theorem dX5_touchesBox_168 : decode cX5_touchesBox 168 = .ok (.imul, 1) := by decide +kernel
theorem dX5_touchesBox_169 : decode cX5_touchesBox 169 = .ok (.iload 5, 2) := by decide +kernel
theorem dX5_touchesBox_171 : decode cX5_touchesBox 171 = .ok (.aload_n 0, 1) := by decide +kernel
theorem dX5_touchesBox_172 : decode cX5_touchesBox 172 = .ok (.getfield 21, 3) := by decide +kernel
theorem dX5_touchesBox_175 : decode cX5_touchesBox 175 = .ok (.imul, 1) := by decide +kernel
theorem dX5_touchesBox_176 : decode cX5_touchesBox 176 = .ok (.isub, 1) := by decide +kernel
theorem dX5_touchesBox_177 : decode cX5_touchesBox 177 = .ok (.invokestatic 30, 3) := by decide +kernel
theorem dX5_touchesBox_180 : decode cX5_touchesBox 180 = .ok (.aload_n 0, 1) := by decide +kernel
theorem dX5_touchesBox_181 : decode cX5_touchesBox 181 = .ok (.getfield 27, 3) := by decide +kernel
theorem dX5_touchesBox_184 : decode cX5_touchesBox 184 = .ok (.sipush 4225, 3) := by decide +kernel
theorem dX5_touchesBox_187 : decode cX5_touchesBox 187 = .ok (.imul, 1) := by decide +kernel
theorem dX5_touchesBox_188 : decode cX5_touchesBox 188 = .ok (.iload_n 3, 1) := by decide +kernel
theorem dX5_touchesBox_189 : decode cX5_touchesBox 189 = .ok (.iload 8, 2) := by decide +kernel
theorem dX5_touchesBox_191 : decode cX5_touchesBox 191 = .ok (.imul, 1) := by decide +kernel
theorem dX5_touchesBox_192 : decode cX5_touchesBox 192 = .ok (.iadd, 1) := by decide +kernel
theorem dX5_touchesBox_193 : decode cX5_touchesBox 193 = .ok (.iload 4, 2) := by decide +kernel
theorem dX5_touchesBox_195 : decode cX5_touchesBox 195 = .ok (.iload 7, 2) := by decide +kernel
theorem dX5_touchesBox_197 : decode cX5_touchesBox 197 = .ok (.imul, 1) := by decide +kernel
theorem dX5_touchesBox_198 : decode cX5_touchesBox 198 = .ok (.iadd, 1) := by decide +kernel
theorem dX5_touchesBox_199 : decode cX5_touchesBox 199 = .ok (.if_icmp .ge 7, 3) := by decide +kernel
theorem dX5_touchesBox_202 : decode cX5_touchesBox 202 = .ok (.iconst 1, 1) := by decide +kernel
theorem dX5_touchesBox_203 : decode cX5_touchesBox 203 = .ok (.goto 4, 3) := by decide +kernel
theorem dX5_touchesBox_206 : decode cX5_touchesBox 206 = .ok (.iconst 0, 1) := by decide +kernel
theorem dX5_touchesBox_207 : decode cX5_touchesBox 207 = .ok (.ireturn, 1) := by decide +kernel
theorem dX5_liesApartFrom_0 : decode cX5_liesApartFrom 0 = .ok (.aload_n 1, 1) := by decide +kernel
theorem dX5_liesApartFrom_1 : decode cX5_liesApartFrom 1 = .ok (.getfield 9, 3) := by decide +kernel
theorem dX5_liesApartFrom_4 : decode cX5_liesApartFrom 4 = .ok (.aload_n 0, 1) := by decide +kernel
theorem dX5_liesApartFrom_5 : decode cX5_liesApartFrom 5 = .ok (.getfield 9, 3) := by decide +kernel
theorem dX5_liesApartFrom_8 : decode cX5_liesApartFrom 8 = .ok (.isub, 1) := by decide +kernel
theorem dX5_liesApartFrom_9 : decode cX5_liesApartFrom 9 = .ok (.istore_n 2, 1) := by decide +kernel
theorem dX5_liesApartFrom_10 : decode cX5_liesApartFrom 10 = .ok (.aload_n 1, 1) := by decide +kernel
theorem dX5_liesApartFrom_11 : decode cX5_liesApartFrom 11 = .ok (.getfield 15, 3) := by decide +kernel
theorem dX5_liesApartFrom_14 : decode cX5_liesApartFrom 14 = .ok (.aload_n 0, 1) := by decide +kernel
theorem dX5_liesApartFrom_15 : decode cX5_liesApartFrom 15 = .ok (.getfield 15, 3) := by decide +kernel
theorem dX5_liesApartFrom_18 : decode cX5_liesApartFrom 18 = .ok (.isub, 1) := by decide +kernel
theorem dX5_liesApartFrom_19 : decode cX5_liesApartFrom 19 = .ok (.istore_n 3, 1) := by decide +kernel
theorem dX5_liesApartFrom_20 : decode cX5_liesApartFrom 20 = .ok (.aload_n 0, 1) := by decide +kernel
theorem dX5_liesApartFrom_21 : decode cX5_liesApartFrom 21 = .ok (.getfield 18, 3) := by decide +kernel
theorem dX5_liesApartFrom_24 : decode cX5_liesApartFrom 24 = .ok (.aload_n 1, 1) := by decide +kernel
theorem dX5_liesApartFrom_25 : decode cX5_liesApartFrom 25 = .ok (.getfield 18, 3) := by decide +kernel
theorem dX5_liesApartFrom_28 : decode cX5_liesApartFrom 28 = .ok (.imul, 1) := by decide +kernel
theorem dX5_liesApartFrom_29 : decode cX5_liesApartFrom 29 = .ok (.aload_n 0, 1) := by decide +kernel
theorem dX5_liesApartFrom_30 : decode cX5_liesApartFrom 30 = .ok (.getfield 21, 3) := by decide +kernel
theorem dX5_liesApartFrom_33 : decode cX5_liesApartFrom 33 = .ok (.aload_n 1, 1) := by decide +kernel
theorem dX5_liesApartFrom_34 : decode cX5_liesApartFrom 34 = .ok (.getfield 21, 3) := by decide +kernel
theorem dX5_liesApartFrom_37 : decode cX5_liesApartFrom 37 = .ok (.imul, 1) := by decide +kernel
theorem dX5_liesApartFrom_38 : decode cX5_liesApartFrom 38 = .ok (.iadd, 1) := by decide +kernel
theorem dX5_liesApartFrom_39 : decode cX5_liesApartFrom 39 = .ok (.invokestatic 30, 3) := by decide +kernel
theorem dX5_liesApartFrom_42 : decode cX5_liesApartFrom 42 = .ok (.istore 4, 2) := by decide +kernel
theorem dX5_liesApartFrom_44 : decode cX5_liesApartFrom 44 = .ok (.aload_n 0, 1) := by decide +kernel
theorem dX5_liesApartFrom_45 : decode cX5_liesApartFrom 45 = .ok (.getfield 18, 3) := by decide +kernel
theorem dX5_liesApartFrom_48 : decode cX5_liesApartFrom 48 = .ok (.aload_n 1, 1) := by decide +kernel
theorem dX5_liesApartFrom_49 : decode cX5_liesApartFrom 49 = .ok (.getfield 21, 3) := by decide +kernel
theorem dX5_liesApartFrom_52 : decode cX5_liesApartFrom 52 = .ok (.imul, 1) := by decide +kernel
theorem dX5_liesApartFrom_53 : decode cX5_liesApartFrom 53 = .ok (.aload_n 0, 1) := by decide +kernel
theorem dX5_liesApartFrom_54 : decode cX5_liesApartFrom 54 = .ok (.getfield 21, 3) := by decide +kernel
theorem dX5_liesApartFrom_57 : decode cX5_liesApartFrom 57 = .ok (.aload_n 1, 1) := by decide +kernel
theorem dX5_liesApartFrom_58 : decode cX5_liesApartFrom 58 = .ok (.getfield 18, 3) := by decide +kernel
theorem dX5_liesApartFrom_61 : decode cX5_liesApartFrom 61 = .ok (.imul, 1) := by decide +kernel
theorem dX5_liesApartFrom_62 : decode cX5_liesApartFrom 62 = .ok (.isub, 1) := by decide +kernel
theorem dX5_liesApartFrom_63 : decode cX5_liesApartFrom 63 = .ok (.invokestatic 30, 3) := by decide +kernel
theorem dX5_liesApartFrom_66 : decode cX5_liesApartFrom 66 = .ok (.istore 5, 2) := by decide +kernel
theorem dX5_liesApartFrom_68 : decode cX5_liesApartFrom 68 = .ok (.iload_n 2, 1) := by decide +kernel
theorem dX5_liesApartFrom_69 : decode cX5_liesApartFrom 69 = .ok (.aload_n 0, 1) := by decide +kernel
theorem dX5_liesApartFrom_70 : decode cX5_liesApartFrom 70 = .ok (.getfield 18, 3) := by decide +kernel
theorem dX5_liesApartFrom_73 : decode cX5_liesApartFrom 73 = .ok (.imul, 1) := by decide +kernel
theorem dX5_liesApartFrom_74 : decode cX5_liesApartFrom 74 = .ok (.iload_n 3, 1) := by decide +kernel
theorem dX5_liesApartFrom_75 : decode cX5_liesApartFrom 75 = .ok (.aload_n 0, 1) := by decide +kernel
theorem dX5_liesApartFrom_76 : decode cX5_liesApartFrom 76 = .ok (.getfield 21, 3) := by decide +kernel
theorem dX5_liesApartFrom_79 : decode cX5_liesApartFrom 79 = .ok (.imul, 1) := by decide +kernel
theorem dX5_liesApartFrom_80 : decode cX5_liesApartFrom 80 = .ok (.iadd, 1) := by decide +kernel
theorem dX5_liesApartFrom_81 : decode cX5_liesApartFrom 81 = .ok (.invokestatic 30, 3) := by decide +kernel
theorem dX5_liesApartFrom_84 : decode cX5_liesApartFrom 84 = .ok (.aload_n 0, 1) := by decide +kernel
theorem dX5_liesApartFrom_85 : decode cX5_liesApartFrom 85 = .ok (.getfield 24, 3) := by decide +kernel
theorem dX5_liesApartFrom_88 : decode cX5_liesApartFrom 88 = .ok (.sipush 4225, 3) := by decide +kernel
theorem dX5_liesApartFrom_91 : decode cX5_liesApartFrom 91 = .ok (.imul, 1) := by decide +kernel
theorem dX5_liesApartFrom_92 : decode cX5_liesApartFrom 92 = .ok (.aload_n 1, 1) := by decide +kernel
theorem dX5_liesApartFrom_93 : decode cX5_liesApartFrom 93 = .ok (.getfield 24, 3) := by decide +kernel
theorem dX5_liesApartFrom_96 : decode cX5_liesApartFrom 96 = .ok (.iload 4, 2) := by decide +kernel
theorem dX5_liesApartFrom_98 : decode cX5_liesApartFrom 98 = .ok (.imul, 1) := by decide +kernel
theorem dX5_liesApartFrom_99 : decode cX5_liesApartFrom 99 = .ok (.iadd, 1) := by decide +kernel
theorem dX5_liesApartFrom_100 : decode cX5_liesApartFrom 100 = .ok (.aload_n 1, 1) := by decide +kernel
theorem dX5_liesApartFrom_101 : decode cX5_liesApartFrom 101 = .ok (.getfield 27, 3) := by decide +kernel
theorem dX5_liesApartFrom_104 : decode cX5_liesApartFrom 104 = .ok (.iload 5, 2) := by decide +kernel
theorem dX5_liesApartFrom_106 : decode cX5_liesApartFrom 106 = .ok (.imul, 1) := by decide +kernel
theorem dX5_liesApartFrom_107 : decode cX5_liesApartFrom 107 = .ok (.iadd, 1) := by decide +kernel
theorem dX5_liesApartFrom_108 : decode cX5_liesApartFrom 108 = .ok (.if_icmp .ge 46, 3) := by decide +kernel
theorem dX5_liesApartFrom_111 : decode cX5_liesApartFrom 111 = .ok (.iload_n 3, 1) := by decide +kernel
theorem dX5_liesApartFrom_112 : decode cX5_liesApartFrom 112 = .ok (.aload_n 0, 1) := by decide +kernel
theorem dX5_liesApartFrom_113 : decode cX5_liesApartFrom 113 = .ok (.getfield 18, 3) := by decide +kernel
theorem dX5_liesApartFrom_116 : decode cX5_liesApartFrom 116 = .ok (.imul, 1) := by decide +kernel
theorem dX5_liesApartFrom_117 : decode cX5_liesApartFrom 117 = .ok (.iload_n 2, 1) := by decide +kernel
theorem dX5_liesApartFrom_118 : decode cX5_liesApartFrom 118 = .ok (.aload_n 0, 1) := by decide +kernel
theorem dX5_liesApartFrom_119 : decode cX5_liesApartFrom 119 = .ok (.getfield 21, 3) := by decide +kernel
theorem dX5_liesApartFrom_122 : decode cX5_liesApartFrom 122 = .ok (.imul, 1) := by decide +kernel
theorem dX5_liesApartFrom_123 : decode cX5_liesApartFrom 123 = .ok (.isub, 1) := by decide +kernel
theorem dX5_liesApartFrom_124 : decode cX5_liesApartFrom 124 = .ok (.invokestatic 30, 3) := by decide +kernel
theorem dX5_liesApartFrom_127 : decode cX5_liesApartFrom 127 = .ok (.aload_n 0, 1) := by decide +kernel
theorem dX5_liesApartFrom_128 : decode cX5_liesApartFrom 128 = .ok (.getfield 27, 3) := by decide +kernel
theorem dX5_liesApartFrom_131 : decode cX5_liesApartFrom 131 = .ok (.sipush 4225, 3) := by decide +kernel
theorem dX5_liesApartFrom_134 : decode cX5_liesApartFrom 134 = .ok (.imul, 1) := by decide +kernel
theorem dX5_liesApartFrom_135 : decode cX5_liesApartFrom 135 = .ok (.aload_n 1, 1) := by decide +kernel
theorem dX5_liesApartFrom_136 : decode cX5_liesApartFrom 136 = .ok (.getfield 24, 3) := by decide +kernel
theorem dX5_liesApartFrom_139 : decode cX5_liesApartFrom 139 = .ok (.iload 5, 2) := by decide +kernel
theorem dX5_liesApartFrom_141 : decode cX5_liesApartFrom 141 = .ok (.imul, 1) := by decide +kernel
theorem dX5_liesApartFrom_142 : decode cX5_liesApartFrom 142 = .ok (.iadd, 1) := by decide +kernel
theorem dX5_liesApartFrom_143 : decode cX5_liesApartFrom 143 = .ok (.aload_n 1, 1) := by decide +kernel
theorem dX5_liesApartFrom_144 : decode cX5_liesApartFrom 144 = .ok (.getfield 27, 3) := by decide +kernel
theorem dX5_liesApartFrom_147 : decode cX5_liesApartFrom 147 = .ok (.iload 4, 2) := by decide +kernel
theorem dX5_liesApartFrom_149 : decode cX5_liesApartFrom 149 = .ok (.imul, 1) := by decide +kernel
theorem dX5_liesApartFrom_150 : decode cX5_liesApartFrom 150 = .ok (.iadd, 1) := by decide +kernel
theorem dX5_liesApartFrom_151 : decode cX5_liesApartFrom 151 = .ok (.if_icmp .lt 7, 3) := by decide +kernel
theorem dX5_liesApartFrom_154 : decode cX5_liesApartFrom 154 = .ok (.iconst 1, 1) := by decide +kernel
theorem dX5_liesApartFrom_155 : decode cX5_liesApartFrom 155 = .ok (.goto 4, 3) := by decide +kernel
theorem dX5_liesApartFrom_158 : decode cX5_liesApartFrom 158 = .ok (.iconst 0, 1) := by decide +kernel
theorem dX5_liesApartFrom_159 : decode cX5_liesApartFrom 159 = .ok (.ireturn, 1) := by decide +kernel
def f_X0_init (w : Wd) (k0 : Nat) (a1 : Int32) (a2 : Int32) (a3 : Int32) (a4 : Int32) : Option Wd :=
q_pt w k0 0 a1 (fun w_6 =>
q_pt w_6 k0 1 a2 (fun w_11 =>
q_pt w_11 k0 2 a3 (fun w_16 =>
q_pt w_16 k0 3 a4 (fun w_22 =>
some w_22))))
set_option maxRecDepth 100000 in
set_option maxHeartbeats 4000000 in
theorem c_X0_init (l : Launch) (D : va_G) (cT : Nat → ClassId) (lo nb : Nat) (w : Wd) (ad : Nat → Nat) (k0 : Nat) (hk0 : kt k0 = (10, 0)) (ha0 : wA w k0 = 2) (a1 : Int32) (a2 : Int32) (a3 : Int32) (a4 : Int32) (w9 : Wd) (h : f_X0_init w k0 a1 a2 a3 a4 = some w9) : Met l yX0_init (.code yX0_init cX0_init 5 none :: TW) { frames := 1, cells := 0, slots := 0, locals := 20 } (mPc D cT lo nb w ad [.ref (ad k0), .int a1, .int a2, .int a3, .int a4]) (mQ D cT lo nb w w9 ad none) 0 0 (fun q => lo ≤ q) := by
  unfold f_X0_init at h
  refine x_met (lv := [(0, .ref (ad k0)), (1, .int a1), (2, .int a2), (3, .int a3), (4, .int a4)]) (by decide +kernel) (Nat.le_of_ble_eq_true rfl) rfl ?_
  intro p e s m args below meth c ls F hr hlk hP hin hl
  have hx := F.1
  have hb := F.2.1
  have hS : va_S (fun q => lo ≤ q) s.heap s.heap [] := va_S.rf
  have hM_w : mono w w := mono.refl
  refine lv_aload_n hx hb dX0_init_0 rfl (lv_at hl 0 rfl) ?_
  refine y_obj F lk_X0_3 vi_obj cd_obj hl.1 dX0_init_1 ⟨Nat.le_of_ble_eq_true rfl, Nat.le_of_ble_eq_true rfl⟩ ?_
  refine lv_aload_n hx hb dX0_init_4 rfl (lv_at hl 0 rfl) ?_
  refine lv_iload_n hx hb dX0_init_5 rfl (lv_at hl 1 rfl) ?_
  refine y_putFi h F hP hS hk0 (n2 ha0) fl_X0_9 hin rfl rfl dX0_init_6 (fun w_6 H locs hm h hP hS => ?_)
  have hM_w := hm
  have ha0 := hm.2 _ ha0
  refine lv_aload_n hx hb dX0_init_9 rfl (lv_at hl 0 rfl) ?_
  refine lv_iload_n hx hb dX0_init_10 rfl (lv_at hl 2 rfl) ?_
  refine y_putFi h F hP hS hk0 (n2 ha0) fl_X0_15 hin rfl rfl dX0_init_11 (fun w_11 H locs hm h hP hS => ?_)
  have hM_w := hM_w.trans hm
  have ha0 := hm.2 _ ha0
  refine lv_aload_n hx hb dX0_init_14 rfl (lv_at hl 0 rfl) ?_
  refine lv_iload_n hx hb dX0_init_15 rfl (lv_at hl 3 rfl) ?_
  refine y_putFi h F hP hS hk0 (n2 ha0) fl_X0_18 hin rfl rfl dX0_init_16 (fun w_16 H locs hm h hP hS => ?_)
  have hM_w := hM_w.trans hm
  have ha0 := hm.2 _ ha0
  refine lv_aload_n hx hb dX0_init_19 rfl (lv_at hl 0 rfl) ?_
  refine lv_iload hx hb dX0_init_20 (lv_at hl 4 rfl) ?_
  refine y_putFi h F hP hS hk0 (n2 ha0) fl_X0_21 hin rfl rfl dX0_init_22 (fun w_22 H locs hm h hP hS => ?_)
  have hM_w := hM_w.trans hm
  have ha0 := hm.2 _ ha0
  exact y_vret h F hr hP hS hM_w hlk dX0_init_25
def f_X0_holds (w : Wd) (k0 : Nat) (a1 : Int32) (a2 : Int32) : Int32 :=
if (f_X11_within a1 ((65 : Int32) * (wS w k0 0)) ((65 : Int32) * (wS w k0 2))) = 0 then
(0 : Int32)
else
if (f_X11_within a2 ((65 : Int32) * (wS w k0 1)) ((65 : Int32) * (wS w k0 3))) = 0 then
(0 : Int32)
else
(1 : Int32)
set_option maxRecDepth 100000 in
set_option maxHeartbeats 4000000 in
theorem c_X0_holds (l : Launch) (D : va_G) (cT : Nat → ClassId) (lo nb : Nat) (w : Wd) (ad : Nat → Nat) (k0 : Nat) (hk0 : kt k0 = (10, 0)) (ha0 : wA w k0 = 2) (a1 : Int32) (a2 : Int32) : Met l yX0_holds (.code yX0_holds cX0_holds 3 (some .boolean) :: TW) { frames := 1, cells := 0, slots := 0, locals := 22 } (mPc D cT lo nb w ad [.ref (ad k0), .int a1, .int a2]) (mQz D cT lo nb w w ad (f_X0_holds w k0 a1 a2)) 0 0 (fun q => lo ≤ q) := by
  obtain ⟨r, h⟩ : ∃ r, f_X0_holds w k0 a1 a2 = r := ⟨_, rfl⟩
  rw [h]
  unfold f_X0_holds at h
  refine x_met (lv := [(0, .ref (ad k0)), (1, .int a1), (2, .int a2)]) (by decide +kernel) (Nat.le_of_ble_eq_true rfl) rfl ?_
  intro p e s m args below meth c ls F hr hlk hP hin hl
  have hx := F.1
  have hb := F.2.1
  have hS : va_S (fun q => lo ≤ q) s.heap s.heap [] := va_S.rf
  refine lv_iload_n hx hb dX0_holds_0 rfl (lv_at hl 1 rfl) ?_
  refine lv_bipush (v := 65) hx hb dX0_holds_1 ib_65 ?_
  refine lv_aload_n hx hb dX0_holds_3 rfl (lv_at hl 0 rfl) ?_
  refine x_geti F hP hk0 (n2 ha0) fl_X0_9 rfl dX0_holds_4 ?_
  refine lv_imul hx hb dX0_holds_7 ?_
  refine lv_bipush (v := 65) hx hb dX0_holds_8 ib_65 ?_
  refine lv_aload_n hx hb dX0_holds_10 rfl (lv_at hl 0 rfl) ?_
  refine x_geti F hP hk0 (n2 ha0) fl_X0_18 rfl dX0_holds_11 ?_
  refine lv_imul hx hb dX0_holds_14 ?_
  refine x_goesZ (x_runSN (As := [.int a1, .int ((65 : Int32) * (wS w k0 0)), .int ((65 : Int32) * (wS w k0 2))]) (rest := []) F hP hS (c_X11_within l D cT lo nb w ad a1 ((65 : Int32) * (wS w k0 0)) ((65 : Int32) * (wS w k0 2))) cw_X11_within nl_X0_24 st_X11_within ⟨rfl, rfl, Nat.le_of_ble_eq_true rfl, Nat.le_of_ble_eq_true rfl⟩ hl.1 rfl (Nat.le_of_ble_eq_true rfl) dX0_holds_15 ⟨Nat.zero_le _, Nat.zero_le _⟩) hS (fun H locs hz_15 hP hS _ => ?_)
  refine lv_if_eq (tgt := 46) hx hb dX0_holds_18 (by decide) (fun hc => ?_) (fun hc => ?_)
  · have h := if_t _ hc h
    refine lv_iconst (v := 0) hx hb dX0_holds_46 ic_0 ?_
    exact y_zretP h F hr hP hS hlk rfl dX0_holds_47
  · have h := if_f _ hc h
    refine lv_iload_n hx hb dX0_holds_21 rfl (lv_at hl 2 rfl) ?_
    refine lv_bipush (v := 65) hx hb dX0_holds_22 ib_65 ?_
    refine lv_aload_n hx hb dX0_holds_24 rfl (lv_at hl 0 rfl) ?_
    refine x_geti F hP hk0 (n2 ha0) fl_X0_15 rfl dX0_holds_25 ?_
    refine lv_imul hx hb dX0_holds_28 ?_
    refine lv_bipush (v := 65) hx hb dX0_holds_29 ib_65 ?_
    refine lv_aload_n hx hb dX0_holds_31 rfl (lv_at hl 0 rfl) ?_
    refine x_geti F hP hk0 (n2 ha0) fl_X0_21 rfl dX0_holds_32 ?_
    refine lv_imul hx hb dX0_holds_35 ?_
    refine x_goesZ (x_runSN (As := [.int a2, .int ((65 : Int32) * (wS w k0 1)), .int ((65 : Int32) * (wS w k0 3))]) (rest := []) F hP hS (c_X11_within l D cT lo nb w ad a2 ((65 : Int32) * (wS w k0 1)) ((65 : Int32) * (wS w k0 3))) cw_X11_within nl_X0_24 st_X11_within ⟨rfl, rfl, Nat.le_of_ble_eq_true rfl, Nat.le_of_ble_eq_true rfl⟩ hl.1 rfl (Nat.le_of_ble_eq_true rfl) dX0_holds_36 ⟨Nat.zero_le _, Nat.zero_le _⟩) hS (fun H locs hz_36 hP hS _ => ?_)
    refine lv_if_eq (tgt := 46) hx hb dX0_holds_39 (by decide) (fun hc => ?_) (fun hc => ?_)
    · have h := if_t _ hc h
      refine lv_iconst (v := 0) hx hb dX0_holds_46 ic_0 ?_
      exact y_zretP h F hr hP hS hlk rfl dX0_holds_47
    · have h := if_f _ hc h
      refine lv_iconst (v := 1) hx hb dX0_holds_42 ic_1 ?_
      refine lv_goto (tgt := 47) hx hb dX0_holds_43 (by decide) ?_
      exact y_zretP h F hr hP hS hlk rfl dX0_holds_47
def f_X0_holdsInside (w : Wd) (k0 : Nat) (a1 : Int32) (a2 : Int32) : Int32 :=
if a1 ≤ ((65 : Int32) * (wS w k0 0)) then
(0 : Int32)
else
if ((65 : Int32) * (wS w k0 2)) ≤ a1 then
(0 : Int32)
else
if a2 ≤ ((65 : Int32) * (wS w k0 1)) then
(0 : Int32)
else
if ((65 : Int32) * (wS w k0 3)) ≤ a2 then
(0 : Int32)
else
(1 : Int32)
set_option maxRecDepth 100000 in
set_option maxHeartbeats 4000000 in
theorem c_X0_holdsInside (l : Launch) (D : va_G) (cT : Nat → ClassId) (lo nb : Nat) (w : Wd) (ad : Nat → Nat) (k0 : Nat) (hk0 : kt k0 = (10, 0)) (ha0 : wA w k0 = 2) (a1 : Int32) (a2 : Int32) : Met l yX0_holdsInside (.code yX0_holdsInside cX0_holdsInside 3 (some .boolean) :: TW) { frames := 0, cells := 0, slots := 0, locals := 0 } (mPc D cT lo nb w ad [.ref (ad k0), .int a1, .int a2]) (mQz D cT lo nb w w ad (f_X0_holdsInside w k0 a1 a2)) 0 0 (fun q => lo ≤ q) := by
  obtain ⟨r, h⟩ : ∃ r, f_X0_holdsInside w k0 a1 a2 = r := ⟨_, rfl⟩
  rw [h]
  unfold f_X0_holdsInside at h
  refine x_met (lv := [(0, .ref (ad k0)), (1, .int a1), (2, .int a2)]) (by decide +kernel) (Nat.le_of_ble_eq_true rfl) rfl ?_
  intro p e s m args below meth c ls F hr hlk hP hin hl
  have hx := F.1
  have hb := F.2.1
  have hS : va_S (fun q => lo ≤ q) s.heap s.heap [] := va_S.rf
  refine lv_iload_n hx hb dX0_holdsInside_0 rfl (lv_at hl 1 rfl) ?_
  refine lv_bipush (v := 65) hx hb dX0_holdsInside_1 ib_65 ?_
  refine lv_aload_n hx hb dX0_holdsInside_3 rfl (lv_at hl 0 rfl) ?_
  refine x_geti F hP hk0 (n2 ha0) fl_X0_9 rfl dX0_holdsInside_4 ?_
  refine lv_imul hx hb dX0_holdsInside_7 ?_
  refine lv_icmp_le (tgt := 48) hx hb dX0_holdsInside_8 (by decide) (fun hc => ?_) (fun hc => ?_)
  · have h := if_t _ hc h
    refine lv_iconst (v := 0) hx hb dX0_holdsInside_48 ic_0 ?_
    exact y_zretP h F hr hP hS hlk rfl dX0_holdsInside_49
  · have h := if_f _ hc h
    refine lv_iload_n hx hb dX0_holdsInside_11 rfl (lv_at hl 1 rfl) ?_
    refine lv_bipush (v := 65) hx hb dX0_holdsInside_12 ib_65 ?_
    refine lv_aload_n hx hb dX0_holdsInside_14 rfl (lv_at hl 0 rfl) ?_
    refine x_geti F hP hk0 (n2 ha0) fl_X0_18 rfl dX0_holdsInside_15 ?_
    refine lv_imul hx hb dX0_holdsInside_18 ?_
    refine lv_icmp_ge (tgt := 48) hx hb dX0_holdsInside_19 (by decide) (fun hc => ?_) (fun hc => ?_)
    · have h := if_t _ hc h
      refine lv_iconst (v := 0) hx hb dX0_holdsInside_48 ic_0 ?_
      exact y_zretP h F hr hP hS hlk rfl dX0_holdsInside_49
    · have h := if_f _ hc h
      refine lv_iload_n hx hb dX0_holdsInside_22 rfl (lv_at hl 2 rfl) ?_
      refine lv_bipush (v := 65) hx hb dX0_holdsInside_23 ib_65 ?_
      refine lv_aload_n hx hb dX0_holdsInside_25 rfl (lv_at hl 0 rfl) ?_
      refine x_geti F hP hk0 (n2 ha0) fl_X0_15 rfl dX0_holdsInside_26 ?_
      refine lv_imul hx hb dX0_holdsInside_29 ?_
      refine lv_icmp_le (tgt := 48) hx hb dX0_holdsInside_30 (by decide) (fun hc => ?_) (fun hc => ?_)
      · have h := if_t _ hc h
        refine lv_iconst (v := 0) hx hb dX0_holdsInside_48 ic_0 ?_
        exact y_zretP h F hr hP hS hlk rfl dX0_holdsInside_49
      · have h := if_f _ hc h
        refine lv_iload_n hx hb dX0_holdsInside_33 rfl (lv_at hl 2 rfl) ?_
        refine lv_bipush (v := 65) hx hb dX0_holdsInside_34 ib_65 ?_
        refine lv_aload_n hx hb dX0_holdsInside_36 rfl (lv_at hl 0 rfl) ?_
        refine x_geti F hP hk0 (n2 ha0) fl_X0_21 rfl dX0_holdsInside_37 ?_
        refine lv_imul hx hb dX0_holdsInside_40 ?_
        refine lv_icmp_ge (tgt := 48) hx hb dX0_holdsInside_41 (by decide) (fun hc => ?_) (fun hc => ?_)
        · have h := if_t _ hc h
          refine lv_iconst (v := 0) hx hb dX0_holdsInside_48 ic_0 ?_
          exact y_zretP h F hr hP hS hlk rfl dX0_holdsInside_49
        · have h := if_f _ hc h
          refine lv_iconst (v := 1) hx hb dX0_holdsInside_44 ic_1 ?_
          refine lv_goto (tgt := 49) hx hb dX0_holdsInside_45 (by decide) ?_
          exact y_zretP h F hr hP hS hlk rfl dX0_holdsInside_49
def f_X5_init (w : Wd) (k0 : Nat) : Option Wd :=
some w
set_option maxRecDepth 100000 in
set_option maxHeartbeats 4000000 in
theorem c_X5_init (l : Launch) (D : va_G) (cT : Nat → ClassId) (lo nb : Nat) (w : Wd) (ad : Nat → Nat) (k0 : Nat) (hk0 : kt k0 = (15, 0)) (ha0 : wA w k0 = 2) (w9 : Wd) (h : f_X5_init w k0 = some w9) : Met l yX5_init (.code yX5_init cX5_init 1 none :: TW) { frames := 1, cells := 0, slots := 0, locals := 20 } (mPc D cT lo nb w ad [.ref (ad k0)]) (mQ D cT lo nb w w9 ad none) 0 0 (fun q => lo ≤ q) := by
  unfold f_X5_init at h
  refine x_met (lv := [(0, .ref (ad k0))]) (by decide +kernel) (Nat.le_of_ble_eq_true rfl) rfl ?_
  intro p e s m args below meth c ls F hr hlk hP hin hl
  have hx := F.1
  have hb := F.2.1
  have hS : va_S (fun q => lo ≤ q) s.heap s.heap [] := va_S.rf
  refine lv_aload_n hx hb dX5_init_0 rfl (lv_at hl 0 rfl) ?_
  refine y_obj F lk_X5_3 vi_obj cd_obj hl.1 dX5_init_1 ⟨Nat.le_of_ble_eq_true rfl, Nat.le_of_ble_eq_true rfl⟩ ?_
  exact y_vret h F hr hP hS mono.refl hlk dX5_init_4
def f_X1_heightOf (w : Wd) (k0 : Nat) (a1 : Int32) : Option Int32 :=
if a1 < 0 then
some (0 : Int32)
else
q_gt w k0 7 (fun v_6 =>
if v_6 ≤ a1 then
some (0 : Int32)
else
q_ld w (k0 + 1) 5 a1 (fun v_17 =>
some v_17))
set_option maxRecDepth 100000 in
set_option maxHeartbeats 4000000 in
theorem c_X1_heightOf (l : Launch) (D : va_G) (cT : Nat → ClassId) (lo nb : Nat) (w : Wd) (ad : Nat → Nat) (k0 : Nat) (hk0 : kt k0 = (11, 0)) (ha0 : wA w k0 = 2) (a1 : Int32) (r : Int32) (h : f_X1_heightOf w k0 a1 = some r) : Met l yX1_heightOf (.code yX1_heightOf cX1_heightOf 2 (some .int) :: TW) { frames := 0, cells := 0, slots := 0, locals := 0 } (mPc D cT lo nb w ad [.ref (ad k0), .int a1]) (mQ D cT lo nb w w ad (some (.int r))) 0 0 (fun q => lo ≤ q) := by
  unfold f_X1_heightOf at h
  refine x_met (lv := [(0, .ref (ad k0)), (1, .int a1)]) (by decide +kernel) (Nat.le_of_ble_eq_true rfl) rfl ?_
  intro p e s m args below meth c ls F hr hlk hP hin hl
  have hx := F.1
  have hb := F.2.1
  have hS : va_S (fun q => lo ≤ q) s.heap s.heap [] := va_S.rf
  refine lv_iload_n hx hb dX1_heightOf_0 rfl (lv_at hl 1 rfl) ?_
  refine lv_if_lt (tgt := 21) hx hb dX1_heightOf_1 (by decide) (fun hc => ?_) (fun hc => ?_)
  · have h := if_t _ hc h
    refine lv_iconst (v := 0) hx hb dX1_heightOf_21 ic_0 ?_
    exact y_iretO h F hr hP hS hlk dX1_heightOf_22
  · have h := if_f _ hc h
    refine lv_iload_n hx hb dX1_heightOf_4 rfl (lv_at hl 1 rfl) ?_
    refine lv_aload_n hx hb dX1_heightOf_5 rfl (lv_at hl 0 rfl) ?_
    refine y_geti h F hP hk0 (n2 ha0) fl_X1_60 rfl dX1_heightOf_6 (fun v_6 h => ?_)
    refine lv_icmp_ge (tgt := 21) hx hb dX1_heightOf_9 (by decide) (fun hc => ?_) (fun hc => ?_)
    · have h := if_t _ hc h
      refine lv_iconst (v := 0) hx hb dX1_heightOf_21 ic_0 ?_
      exact y_iretO h F hr hP hS hlk dX1_heightOf_22
    · have h := if_f _ hc h
      refine lv_aload_n hx hb dX1_heightOf_12 rfl (lv_at hl 0 rfl) ?_
      refine x_getr F hP hk0 ha0 fl_X1_11 rfl (carR_4 hk0) dX1_heightOf_13 ?_
      have ha_k0_1 := x_al hP hk0 ha0 (show ft 1 4 = 1 from rfl) (carR_4 hk0)
      refine lv_iload_n hx hb dX1_heightOf_16 rfl (lv_at hl 1 rfl) ?_
      refine y_iald h F hP (carK_4 hk0) (n2 ha_k0_1) dX1_heightOf_17 (fun v_17 h => ?_)
      refine lv_goto (tgt := 22) hx hb dX1_heightOf_18 (by decide) ?_
      exact y_iretO h F hr hP hS hlk dX1_heightOf_22
def f_X1_footOf (w : Wd) (k0 : Nat) (a1 : Int32) : Option Int32 :=
q_bo (f_X1_heightOf w k0 (a1 - (1 : Int32))) (fun v_4 =>
some v_4)
set_option maxRecDepth 100000 in
set_option maxHeartbeats 4000000 in
theorem c_X1_footOf (l : Launch) (D : va_G) (cT : Nat → ClassId) (lo nb : Nat) (w : Wd) (ad : Nat → Nat) (k0 : Nat) (hk0 : kt k0 = (11, 0)) (ha0 : wA w k0 = 2) (a1 : Int32) (r : Int32) (h : f_X1_footOf w k0 a1 = some r) : Met l yX1_footOf (.code yX1_footOf cX1_footOf 2 (some .int) :: TW) { frames := 1, cells := 0, slots := 0, locals := 21 } (mPc D cT lo nb w ad [.ref (ad k0), .int a1]) (mQ D cT lo nb w w ad (some (.int r))) 0 0 (fun q => lo ≤ q) := by
  unfold f_X1_footOf at h
  refine x_met (lv := [(0, .ref (ad k0)), (1, .int a1)]) (by decide +kernel) (Nat.le_of_ble_eq_true rfl) rfl ?_
  intro p e s m args below meth c ls F hr hlk hP hin hl
  have hx := F.1
  have hb := F.2.1
  have hS : va_S (fun q => lo ≤ q) s.heap s.heap [] := va_S.rf
  refine lv_aload_n hx hb dX1_footOf_0 rfl (lv_at hl 0 rfl) ?_
  refine lv_iload_n hx hb dX1_footOf_1 rfl (lv_at hl 1 rfl) ?_
  refine lv_iconst (v := 1) hx hb dX1_footOf_2 ic_1 ?_
  refine lv_isub hx hb dX1_footOf_3 ?_
  obtain ⟨v_4, hc_4, h⟩ := bo_s h
  refine x_goes (x_runV (As := [.int (a1 - (1 : Int32))]) (rest := []) F hP hS (c_X1_heightOf l D cT lo nb w ad k0 hk0 ha0 (a1 - (1 : Int32)) v_4 hc_4) cw_X1_heightOf lk_X1_67 vi_X1_heightOf hk0 (n2 ha0) rfl ⟨rfl, rfl, Nat.le_of_ble_eq_true rfl, Nat.le_of_ble_eq_true rfl⟩ hl.1 rfl (Nat.le_of_ble_eq_true rfl) dX1_footOf_4 ⟨Nat.zero_le _, Nat.zero_le _⟩) hS (fun H locs hP hS _ => ?_)
  exact y_iretO h F hr hP hS hlk dX1_footOf_7
def f_X1_addStorey (w : Wd) (k0 : Nat) (a1 : Int32) (a2 : Int32) (a3 : Int32) : Option (Int32 × Wd) :=
if (f_X11_within a1 (1 : Int32) (99 : Int32)) = 0 then
some ((-2 : Int32), w)
else
q_gt w k0 7 (fun v_13 =>
q_bo (f_X1_footOf w k0 v_13) (fun v_16 =>
if v_16 < a1 then
if (f_X11_within a2 (1 : Int32) (30 : Int32)) = 0 then
some ((-2 : Int32), w)
else
if (f_X11_within a3 (1 : Int32) (30 : Int32)) = 0 then
some ((-2 : Int32), w)
else
q_gt w k0 7 (fun v_49 =>
if v_49 < (5 : Int32) then
q_gt w k0 7 (fun v_64 =>
q_st w (k0 + 1) 5 v_64 a1 (fun w_68 =>
q_gt w_68 k0 7 (fun v_74 =>
q_st w_68 (k0 + 2) 5 v_74 a2 (fun w_78 =>
q_gt w_78 k0 7 (fun v_84 =>
q_st w_78 (k0 + 3) 5 v_84 a3 (fun w_88 =>
q_gt w_88 k0 7 (fun v_91 =>
q_pt w_88 k0 7 (v_91 + (1 : Int32)) (fun w_96 =>
q_gt w_96 k0 7 (fun v_100 =>
some (v_100, w_96))))))))))
else
some ((-4 : Int32), w))
else
some ((-2 : Int32), w)))
set_option maxRecDepth 100000 in
set_option maxHeartbeats 4000000 in
theorem c_X1_addStorey (l : Launch) (D : va_G) (cT : Nat → ClassId) (lo nb : Nat) (w : Wd) (ad : Nat → Nat) (k0 : Nat) (hk0 : kt k0 = (11, 0)) (ha0 : wA w k0 = 2) (a1 : Int32) (a2 : Int32) (a3 : Int32) (r : Int32) (w9 : Wd) (h : f_X1_addStorey w k0 a1 a2 a3 = some (r, w9)) : Met l yX1_addStorey (.code yX1_addStorey cX1_addStorey 4 (some .int) :: TW) { frames := 2, cells := 0, slots := 0, locals := 42 } (mPc D cT lo nb w ad [.ref (ad k0), .int a1, .int a2, .int a3]) (mQ D cT lo nb w w9 ad (some (.int r))) 0 0 (fun q => lo ≤ q) := by
  unfold f_X1_addStorey at h
  refine x_met (lv := [(0, .ref (ad k0)), (1, .int a1), (2, .int a2), (3, .int a3)]) (by decide +kernel) (Nat.le_of_ble_eq_true rfl) rfl ?_
  intro p e s m args below meth c ls F hr hlk hP hin hl
  have hx := F.1
  have hb := F.2.1
  have hS : va_S (fun q => lo ≤ q) s.heap s.heap [] := va_S.rf
  have hM_w : mono w w := mono.refl
  refine lv_iload_n hx hb dX1_addStorey_0 rfl (lv_at hl 1 rfl) ?_
  refine lv_iconst (v := 1) hx hb dX1_addStorey_1 ic_1 ?_
  refine lv_bipush (v := 99) hx hb dX1_addStorey_2 ib_99 ?_
  refine x_goesZ (x_runSN (As := [.int a1, .int (1 : Int32), .int (99 : Int32)]) (rest := []) F hP hS (c_X11_within l D cT lo nb w ad a1 (1 : Int32) (99 : Int32)) cw_X11_within nl_X1_56 st_X11_within ⟨rfl, rfl, Nat.le_of_ble_eq_true rfl, Nat.le_of_ble_eq_true rfl⟩ hl.1 rfl (Nat.le_of_ble_eq_true rfl) dX1_addStorey_4 ⟨Nat.zero_le _, Nat.zero_le _⟩) hS (fun H locs hz_4 hP hS _ => ?_)
  refine lv_if_eq (tgt := 22) hx hb dX1_addStorey_7 (by decide) (fun hc => ?_) (fun hc => ?_)
  · have h := if_t _ hc h
    refine lv_bipush (v := -2) hx hb dX1_addStorey_22 ib_m2 ?_
    exact y_iretM h F hr hP hS mono.refl hlk dX1_addStorey_24
  · have h := if_f _ hc h
    refine lv_iload_n hx hb dX1_addStorey_10 rfl (lv_at hl 1 rfl) ?_
    refine lv_aload_n hx hb dX1_addStorey_11 rfl (lv_at hl 0 rfl) ?_
    refine lv_aload_n hx hb dX1_addStorey_12 rfl (lv_at hl 0 rfl) ?_
    refine y_geti h F hP hk0 (n2 ha0) fl_X1_60 rfl dX1_addStorey_13 (fun v_13 h => ?_)
    obtain ⟨v_16, hc_16, h⟩ := bo_s h
    refine x_goes (x_runV (As := [.int v_13]) (rest := [.int a1]) F hP hS (c_X1_footOf l D cT lo nb w ad k0 hk0 ha0 v_13 v_16 hc_16) cw_X1_footOf lk_X1_63 vi_X1_footOf hk0 (n2 ha0) rfl ⟨rfl, rfl, Nat.le_of_ble_eq_true rfl, Nat.le_of_ble_eq_true rfl⟩ hl.1 rfl (Nat.le_of_ble_eq_true rfl) dX1_addStorey_16 ⟨Nat.zero_le _, Nat.zero_le _⟩) hS (fun H locs hP hS _ => ?_)
    refine lv_icmp_gt (tgt := 25) hx hb dX1_addStorey_19 (by decide) (fun hc => ?_) (fun hc => ?_)
    · have h := if_t _ hc h
      refine lv_iload_n hx hb dX1_addStorey_25 rfl (lv_at hl 2 rfl) ?_
      refine lv_iconst (v := 1) hx hb dX1_addStorey_26 ic_1 ?_
      refine lv_bipush (v := 30) hx hb dX1_addStorey_27 ib_30 ?_
      refine x_goesZ (x_runSN (As := [.int a2, .int (1 : Int32), .int (30 : Int32)]) (rest := []) F hP hS (c_X11_within l D cT lo nb w ad a2 (1 : Int32) (30 : Int32)) cw_X11_within nl_X1_56 st_X11_within ⟨rfl, rfl, Nat.le_of_ble_eq_true rfl, Nat.le_of_ble_eq_true rfl⟩ hl.1 rfl (Nat.le_of_ble_eq_true rfl) dX1_addStorey_29 ⟨Nat.zero_le _, Nat.zero_le _⟩) hS (fun H locs hz_29 hP hS _ => ?_)
      refine lv_if_eq (tgt := 45) hx hb dX1_addStorey_32 (by decide) (fun hc => ?_) (fun hc => ?_)
      · have h := if_t _ hc h
        refine lv_bipush (v := -2) hx hb dX1_addStorey_45 ib_m2 ?_
        exact y_iretM h F hr hP hS mono.refl hlk dX1_addStorey_47
      · have h := if_f _ hc h
        refine lv_iload_n hx hb dX1_addStorey_35 rfl (lv_at hl 3 rfl) ?_
        refine lv_iconst (v := 1) hx hb dX1_addStorey_36 ic_1 ?_
        refine lv_bipush (v := 30) hx hb dX1_addStorey_37 ib_30 ?_
        refine x_goesZ (x_runSN (As := [.int a3, .int (1 : Int32), .int (30 : Int32)]) (rest := []) F hP hS (c_X11_within l D cT lo nb w ad a3 (1 : Int32) (30 : Int32)) cw_X11_within nl_X1_56 st_X11_within ⟨rfl, rfl, Nat.le_of_ble_eq_true rfl, Nat.le_of_ble_eq_true rfl⟩ hl.1 rfl (Nat.le_of_ble_eq_true rfl) dX1_addStorey_39 ⟨Nat.zero_le _, Nat.zero_le _⟩) hS (fun H locs hz_39 hP hS _ => ?_)
        refine lv_if_ne (tgt := 48) hx hb dX1_addStorey_42 (by decide) (fun hc => ?_) (fun hc => ?_)
        · have h := if_f _ hc h
          refine lv_aload_n hx hb dX1_addStorey_48 rfl (lv_at hl 0 rfl) ?_
          refine y_geti h F hP hk0 (n2 ha0) fl_X1_60 rfl dX1_addStorey_49 (fun v_49 h => ?_)
          refine lv_iconst (v := 5) hx hb dX1_addStorey_52 ic_5 ?_
          refine lv_icmp_lt (tgt := 59) hx hb dX1_addStorey_53 (by decide) (fun hc => ?_) (fun hc => ?_)
          · have h := if_t _ hc h
            refine lv_aload_n hx hb dX1_addStorey_59 rfl (lv_at hl 0 rfl) ?_
            refine x_getr F hP hk0 ha0 fl_X1_11 rfl (carR_4 hk0) dX1_addStorey_60 ?_
            have ha_k0_1 := x_al hP hk0 ha0 (show ft 1 4 = 1 from rfl) (carR_4 hk0)
            refine lv_aload_n hx hb dX1_addStorey_63 rfl (lv_at hl 0 rfl) ?_
            refine y_geti h F hP hk0 (n2 ha0) fl_X1_60 rfl dX1_addStorey_64 (fun v_64 h => ?_)
            refine lv_iload_n hx hb dX1_addStorey_67 rfl (lv_at hl 1 rfl) ?_
            refine y_iast h F hP hS (carK_4 hk0) (n2 ha_k0_1) dX1_addStorey_68 (fun w_68 H locs hm h hP hS => ?_)
            have hM_w := hm
            have ha0 := hm.2 _ ha0
            have ha_k0_1 := hm.2 _ ha_k0_1
            refine lv_aload_n hx hb dX1_addStorey_69 rfl (lv_at hl 0 rfl) ?_
            refine x_getr F hP hk0 ha0 fl_X1_15 rfl (carR_5 hk0) dX1_addStorey_70 ?_
            have ha_k0_2 := x_al hP hk0 ha0 (show ft 1 5 = 1 from rfl) (carR_5 hk0)
            refine lv_aload_n hx hb dX1_addStorey_73 rfl (lv_at hl 0 rfl) ?_
            refine y_geti h F hP hk0 (n2 ha0) fl_X1_60 rfl dX1_addStorey_74 (fun v_74 h => ?_)
            refine lv_iload_n hx hb dX1_addStorey_77 rfl (lv_at hl 2 rfl) ?_
            refine y_iast h F hP hS (carK_5 hk0) (n2 ha_k0_2) dX1_addStorey_78 (fun w_78 H locs hm h hP hS => ?_)
            have hM_w := hM_w.trans hm
            have ha0 := hm.2 _ ha0
            have ha_k0_1 := hm.2 _ ha_k0_1
            have ha_k0_2 := hm.2 _ ha_k0_2
            refine lv_aload_n hx hb dX1_addStorey_79 rfl (lv_at hl 0 rfl) ?_
            refine x_getr F hP hk0 ha0 fl_X1_18 rfl (carR_6 hk0) dX1_addStorey_80 ?_
            have ha_k0_3 := x_al hP hk0 ha0 (show ft 1 6 = 1 from rfl) (carR_6 hk0)
            refine lv_aload_n hx hb dX1_addStorey_83 rfl (lv_at hl 0 rfl) ?_
            refine y_geti h F hP hk0 (n2 ha0) fl_X1_60 rfl dX1_addStorey_84 (fun v_84 h => ?_)
            refine lv_iload_n hx hb dX1_addStorey_87 rfl (lv_at hl 3 rfl) ?_
            refine y_iast h F hP hS (carK_6 hk0) (n2 ha_k0_3) dX1_addStorey_88 (fun w_88 H locs hm h hP hS => ?_)
            have hM_w := hM_w.trans hm
            have ha0 := hm.2 _ ha0
            have ha_k0_1 := hm.2 _ ha_k0_1
            have ha_k0_2 := hm.2 _ ha_k0_2
            have ha_k0_3 := hm.2 _ ha_k0_3
            refine lv_aload_n hx hb dX1_addStorey_89 rfl (lv_at hl 0 rfl) ?_
            refine lv_dup hx hb dX1_addStorey_90 rfl ?_
            refine y_geti h F hP hk0 (n2 ha0) fl_X1_60 rfl dX1_addStorey_91 (fun v_91 h => ?_)
            refine lv_iconst (v := 1) hx hb dX1_addStorey_94 ic_1 ?_
            refine lv_iadd hx hb dX1_addStorey_95 ?_
            refine y_puti h F hP hS hk0 (n2 ha0) fl_X1_60 rfl dX1_addStorey_96 (fun w_96 H locs hm h hP hS => ?_)
            have hM_w := hM_w.trans hm
            have ha0 := hm.2 _ ha0
            have ha_k0_1 := hm.2 _ ha_k0_1
            have ha_k0_2 := hm.2 _ ha_k0_2
            have ha_k0_3 := hm.2 _ ha_k0_3
            refine lv_aload_n hx hb dX1_addStorey_99 rfl (lv_at hl 0 rfl) ?_
            refine y_geti h F hP hk0 (n2 ha0) fl_X1_60 rfl dX1_addStorey_100 (fun v_100 h => ?_)
            exact y_iretM h F hr hP hS hM_w hlk dX1_addStorey_103
          · have h := if_f _ hc h
            refine lv_bipush (v := -4) hx hb dX1_addStorey_56 ib_m4 ?_
            exact y_iretM h F hr hP hS mono.refl hlk dX1_addStorey_58
        · have h := if_t _ hc h
          refine lv_bipush (v := -2) hx hb dX1_addStorey_45 ib_m2 ?_
          exact y_iretM h F hr hP hS mono.refl hlk dX1_addStorey_47
    · have h := if_f _ hc h
      refine lv_bipush (v := -2) hx hb dX1_addStorey_22 ib_m2 ?_
      exact y_iretM h F hr hP hS mono.refl hlk dX1_addStorey_24
def f_X5_lay (w : Wd) (k0 : Nat) (a1 : Int32) (a2 : Int32) (a3 : Int32) (a4 : Int32) (a5 : Int32) (a6 : Int32) : Option Wd :=
q_pt w k0 0 a1 (fun w_2 =>
q_pt w_2 k0 1 a2 (fun w_7 =>
q_pt w_7 k0 2 a3 (fun w_12 =>
q_pt w_12 k0 3 a4 (fun w_18 =>
q_pt w_18 k0 4 a5 (fun w_24 =>
q_pt w_24 k0 5 a6 (fun w_30 =>
q_pt w_30 k0 6 ((a5 * (f_J9_abs_0f7a4 a3)) + (a6 * (f_J9_abs_0f7a4 a4))) (fun w_50 =>
q_pt w_50 k0 7 ((a5 * (f_J9_abs_0f7a4 a4)) + (a6 * (f_J9_abs_0f7a4 a3))) (fun w_70 =>
some w_70))))))))
set_option maxRecDepth 100000 in
set_option maxHeartbeats 4000000 in
theorem c_X5_lay (l : Launch) (D : va_G) (cT : Nat → ClassId) (lo nb : Nat) (w : Wd) (ad : Nat → Nat) (k0 : Nat) (hk0 : kt k0 = (15, 0)) (ha0 : wA w k0 = 2) (a1 : Int32) (a2 : Int32) (a3 : Int32) (a4 : Int32) (a5 : Int32) (a6 : Int32) (w9 : Wd) (h : f_X5_lay w k0 a1 a2 a3 a4 a5 a6 = some w9) : Met l yX5_lay (.code yX5_lay cX5_lay 7 none :: TW) { frames := 1, cells := 0, slots := 0, locals := 20 } (mPc D cT lo nb w ad [.ref (ad k0), .int a1, .int a2, .int a3, .int a4, .int a5, .int a6]) (mQ D cT lo nb w w9 ad none) 0 0 (fun q => lo ≤ q) := by
  unfold f_X5_lay at h
  refine x_met (lv := [(0, .ref (ad k0)), (1, .int a1), (2, .int a2), (3, .int a3), (4, .int a4), (5, .int a5), (6, .int a6)]) (by decide +kernel) (Nat.le_of_ble_eq_true rfl) rfl ?_
  intro p e s m args below meth c ls F hr hlk hP hin hl
  have hx := F.1
  have hb := F.2.1
  have hS : va_S (fun q => lo ≤ q) s.heap s.heap [] := va_S.rf
  have hM_w : mono w w := mono.refl
  refine lv_aload_n hx hb dX5_lay_0 rfl (lv_at hl 0 rfl) ?_
  refine lv_iload_n hx hb dX5_lay_1 rfl (lv_at hl 1 rfl) ?_
  refine y_puti h F hP hS hk0 (n2 ha0) fl_X5_9 rfl dX5_lay_2 (fun w_2 H locs hm h hP hS => ?_)
  have hM_w := hm
  have ha0 := hm.2 _ ha0
  refine lv_aload_n hx hb dX5_lay_5 rfl (lv_at hl 0 rfl) ?_
  refine lv_iload_n hx hb dX5_lay_6 rfl (lv_at hl 2 rfl) ?_
  refine y_puti h F hP hS hk0 (n2 ha0) fl_X5_15 rfl dX5_lay_7 (fun w_7 H locs hm h hP hS => ?_)
  have hM_w := hM_w.trans hm
  have ha0 := hm.2 _ ha0
  refine lv_aload_n hx hb dX5_lay_10 rfl (lv_at hl 0 rfl) ?_
  refine lv_iload_n hx hb dX5_lay_11 rfl (lv_at hl 3 rfl) ?_
  refine y_puti h F hP hS hk0 (n2 ha0) fl_X5_18 rfl dX5_lay_12 (fun w_12 H locs hm h hP hS => ?_)
  have hM_w := hM_w.trans hm
  have ha0 := hm.2 _ ha0
  refine lv_aload_n hx hb dX5_lay_15 rfl (lv_at hl 0 rfl) ?_
  refine lv_iload hx hb dX5_lay_16 (lv_at hl 4 rfl) ?_
  refine y_puti h F hP hS hk0 (n2 ha0) fl_X5_21 rfl dX5_lay_18 (fun w_18 H locs hm h hP hS => ?_)
  have hM_w := hM_w.trans hm
  have ha0 := hm.2 _ ha0
  refine lv_aload_n hx hb dX5_lay_21 rfl (lv_at hl 0 rfl) ?_
  refine lv_iload hx hb dX5_lay_22 (lv_at hl 5 rfl) ?_
  refine y_puti h F hP hS hk0 (n2 ha0) fl_X5_24 rfl dX5_lay_24 (fun w_24 H locs hm h hP hS => ?_)
  have hM_w := hM_w.trans hm
  have ha0 := hm.2 _ ha0
  refine lv_aload_n hx hb dX5_lay_27 rfl (lv_at hl 0 rfl) ?_
  refine lv_iload hx hb dX5_lay_28 (lv_at hl 6 rfl) ?_
  refine y_puti h F hP hS hk0 (n2 ha0) fl_X5_27 rfl dX5_lay_30 (fun w_30 H locs hm h hP hS => ?_)
  have hM_w := hM_w.trans hm
  have ha0 := hm.2 _ ha0
  refine lv_aload_n hx hb dX5_lay_33 rfl (lv_at hl 0 rfl) ?_
  refine lv_iload hx hb dX5_lay_34 (lv_at hl 5 rfl) ?_
  refine lv_iload_n hx hb dX5_lay_36 rfl (lv_at hl 3 rfl) ?_
  refine x_goes (x_runS (As := [.int a3]) (rest := [.int a5, .ref (ad k0)]) F hP hS (c_J9_abs_0f7a4 l D cT lo nb w_30 ad a3) cw_J9_abs_0f7a4 lk_X5_30 st_J9_abs_0f7a4 ⟨rfl, rfl, Nat.le_of_ble_eq_true rfl, Nat.le_of_ble_eq_true rfl⟩ hl.1 rfl (Nat.le_of_ble_eq_true rfl) dX5_lay_37 ⟨Nat.zero_le _, Nat.zero_le _⟩) hS (fun H locs hP hS _ => ?_)
  refine lv_imul hx hb dX5_lay_40 ?_
  refine lv_iload hx hb dX5_lay_41 (lv_at hl 6 rfl) ?_
  refine lv_iload hx hb dX5_lay_43 (lv_at hl 4 rfl) ?_
  refine x_goes (x_runS (As := [.int a4]) (rest := [.int a6, .int (a5 * (f_J9_abs_0f7a4 a3)), .ref (ad k0)]) F hP hS (c_J9_abs_0f7a4 l D cT lo nb w_30 ad a4) cw_J9_abs_0f7a4 lk_X5_30 st_J9_abs_0f7a4 ⟨rfl, rfl, Nat.le_of_ble_eq_true rfl, Nat.le_of_ble_eq_true rfl⟩ hl.1 rfl (Nat.le_of_ble_eq_true rfl) dX5_lay_45 ⟨Nat.zero_le _, Nat.zero_le _⟩) hS (fun H locs hP hS _ => ?_)
  refine lv_imul hx hb dX5_lay_48 ?_
  refine lv_iadd hx hb dX5_lay_49 ?_
  refine y_puti h F hP hS hk0 (n2 ha0) fl_X5_36 rfl dX5_lay_50 (fun w_50 H locs hm h hP hS => ?_)
  have hM_w := hM_w.trans hm
  have ha0 := hm.2 _ ha0
  refine lv_aload_n hx hb dX5_lay_53 rfl (lv_at hl 0 rfl) ?_
  refine lv_iload hx hb dX5_lay_54 (lv_at hl 5 rfl) ?_
  refine lv_iload hx hb dX5_lay_56 (lv_at hl 4 rfl) ?_
  refine x_goes (x_runS (As := [.int a4]) (rest := [.int a5, .ref (ad k0)]) F hP hS (c_J9_abs_0f7a4 l D cT lo nb w_50 ad a4) cw_J9_abs_0f7a4 lk_X5_30 st_J9_abs_0f7a4 ⟨rfl, rfl, Nat.le_of_ble_eq_true rfl, Nat.le_of_ble_eq_true rfl⟩ hl.1 rfl (Nat.le_of_ble_eq_true rfl) dX5_lay_58 ⟨Nat.zero_le _, Nat.zero_le _⟩) hS (fun H locs hP hS _ => ?_)
  refine lv_imul hx hb dX5_lay_61 ?_
  refine lv_iload hx hb dX5_lay_62 (lv_at hl 6 rfl) ?_
  refine lv_iload_n hx hb dX5_lay_64 rfl (lv_at hl 3 rfl) ?_
  refine x_goes (x_runS (As := [.int a3]) (rest := [.int a6, .int (a5 * (f_J9_abs_0f7a4 a4)), .ref (ad k0)]) F hP hS (c_J9_abs_0f7a4 l D cT lo nb w_50 ad a3) cw_J9_abs_0f7a4 lk_X5_30 st_J9_abs_0f7a4 ⟨rfl, rfl, Nat.le_of_ble_eq_true rfl, Nat.le_of_ble_eq_true rfl⟩ hl.1 rfl (Nat.le_of_ble_eq_true rfl) dX5_lay_65 ⟨Nat.zero_le _, Nat.zero_le _⟩) hS (fun H locs hP hS _ => ?_)
  refine lv_imul hx hb dX5_lay_68 ?_
  refine lv_iadd hx hb dX5_lay_69 ?_
  refine y_puti h F hP hS hk0 (n2 ha0) fl_X5_39 rfl dX5_lay_70 (fun w_70 H locs hm h hP hS => ?_)
  have hM_w := hM_w.trans hm
  have ha0 := hm.2 _ ha0
  exact y_vret h F hr hP hS hM_w hlk dX5_lay_73
def l_X1_layAt_15 (a1 : Int32) (a2 : Int32) (k0 : Nat) (v_4 : Int32) (v_10 : Int32) : Nat → Wd → Int32 → Option Wd
  | 0, _, _ => none
  | n_15 + 1, w_15l, x6_15l =>
    q_gt w_15l k0 7 (fun v_18 =>
    if v_18 ≤ x6_15l then
    some w_15l
    else
    q_gt w_15l k0 3 (fun v_25 =>
    q_ld w_15l (k0 + 1) 5 x6_15l (fun v_34 =>
    q_lt ((v_25 * v_34) / (100 : Int32)) (fun v_39 =>
    q_ld w_15l (k0 + 2) 5 x6_15l (fun v_48 =>
    q_lt ((2 : Int32) * (v_48 + v_39)) (fun v_53 =>
    q_ld w_15l (k0 + 3) 5 x6_15l (fun v_62 =>
    q_lt ((2 : Int32) * (v_62 + v_39)) (fun v_67 =>
    q_ldq w_15l (k0 + 4) 5 x6_15l (fun q_75 =>
    q_bo (f_X5_lay w_15l q_75 ((2 : Int32) * a1) ((2 : Int32) * a2) v_4 v_10 v_53 v_67) (fun w_90 =>
    q_lt (x6_15l + (1 : Int32)) (fun v_93 =>
    l_X1_layAt_15 a1 a2 k0 v_4 v_10 n_15 w_90 v_93)))))))))))
def f_X1_layAt (w : Wd) (k0 : Nat) (a1 : Int32) (a2 : Int32) (a3 : Int32) : Option Wd :=
q_lt (f_X11_cosine a3) (fun v_4 =>
q_lt (f_X11_sine a3) (fun v_10 =>
l_X1_layAt_15 a1 a2 k0 v_4 v_10 FU w (0 : Int32)))
set_option maxRecDepth 100000 in
set_option maxHeartbeats 4000000 in
theorem c_X1_layAt (l : Launch) (D : va_G) (cT : Nat → ClassId) (lo nb : Nat) (w : Wd) (ad : Nat → Nat) (k0 : Nat) (hk0 : kt k0 = (11, 0)) (ha0 : wA w k0 = 2) (a1 : Int32) (a2 : Int32) (a3 : Int32) (w9 : Wd) (h : f_X1_layAt w k0 a1 a2 a3 = some w9) : Met l yX1_layAt (.code yX1_layAt cX1_layAt 10 none :: TW) { frames := 2, cells := 0, slots := 0, locals := 46 } (mPc D cT lo nb w ad [.ref (ad k0), .int a1, .int a2, .int a3]) (mQ D cT lo nb w w9 ad none) 0 0 (fun q => lo ≤ q) := by
  unfold f_X1_layAt at h
  refine x_met (lv := [(0, .ref (ad k0)), (1, .int a1), (2, .int a2), (3, .int a3)]) (by decide +kernel) (Nat.le_of_ble_eq_true rfl) rfl ?_
  intro p e s m args below meth c ls F hr hlk hP hin hl
  have hx := F.1
  have hb := F.2.1
  have hS : va_S (fun q => lo ≤ q) s.heap s.heap [] := va_S.rf
  have hM_w : mono w w := mono.refl
  refine lv_iload_n hx hb dX1_layAt_0 rfl (lv_at hl 3 rfl) ?_
  refine x_goes (x_runSN (As := [.int a3]) (rest := []) F hP hS (c_X11_cosine l D cT lo nb w ad a3) cw_X11_cosine nl_X1_70 st_X11_cosine ⟨rfl, rfl, Nat.le_of_ble_eq_true rfl, Nat.le_of_ble_eq_true rfl⟩ hl.1 rfl (Nat.le_of_ble_eq_true rfl) dX1_layAt_1 ⟨Nat.zero_le _, Nat.zero_le _⟩) hS (fun H locs hP hS _ => ?_)
  refine y_let h (fun v_4 h => ?_)
  refine lv_istore (lv' := [(4, .int v_4), (0, .ref (ad k0)), (1, .int a1), (2, .int a2), (3, .int a3)]) hx hb dX1_layAt_4 hl (Nat.le_of_ble_eq_true rfl) rfl (fun ls hl => ?_)
  refine lv_iload_n hx hb dX1_layAt_6 rfl (lv_at hl 4 rfl) ?_
  refine x_goes (x_runSN (As := [.int a3]) (rest := []) F hP hS (c_X11_sine l D cT lo nb w ad a3) cw_X11_sine nl_X1_73 st_X11_sine ⟨rfl, rfl, Nat.le_of_ble_eq_true rfl, Nat.le_of_ble_eq_true rfl⟩ hl.1 rfl (Nat.le_of_ble_eq_true rfl) dX1_layAt_7 ⟨Nat.zero_le _, Nat.zero_le _⟩) hS (fun H locs hP hS _ => ?_)
  refine y_let h (fun v_10 h => ?_)
  refine lv_istore (lv' := [(5, .int v_10), (4, .int v_4), (0, .ref (ad k0)), (1, .int a1), (2, .int a2), (3, .int a3)]) hx hb dX1_layAt_10 hl (Nat.le_of_ble_eq_true rfl) rfl (fun ls hl => ?_)
  refine lv_iconst (v := 0) hx hb dX1_layAt_12 ic_0 ?_
  refine lv_istore (lv' := [(6, .int (0 : Int32)), (5, .int v_10), (4, .int v_4), (0, .ref (ad k0)), (1, .int a1), (2, .int a2), (3, .int a3)]) hx hb dX1_layAt_13 hl (Nat.le_of_ble_eq_true rfl) rfl (fun ls hl => ?_)
  have L_15 : ∀ (n_15 : Nat) (w_15l : Wd) (x6_15l : Int32), mono w w_15l → l_X1_layAt_15 a1 a2 k0 v_4 v_10 n_15 w_15l x6_15l = some w9 → GG p l e { frames := 2, cells := 0, slots := 0, locals := 46 } s m args below meth c 0 0 (MQ below (mQ D cT lo nb w w9 ad none) args s 0 0 (fun q => lo ≤ q)) D cT lo nb 10 ad w_15l 15 [(6, .int x6_15l), (5, .int v_10), (4, .int v_4), (0, .ref (ad k0)), (1, .int a1), (2, .int a2)] [] := by
    intro n_15
    induction n_15 with
    | zero =>
      intro w_15l x6_15l _ h
      exact absurd h (by unfold l_X1_layAt_15; exact fun z => by cases z)
    | succ n_15 ih_15 =>
      intro w_15l x6_15l hm h H locs ls hP hS hl
      unfold l_X1_layAt_15 at h
      have hM_w := hm
      have ha0 := hm.2 _ ha0
      refine lv_iload hx hb dX1_layAt_15 (lv_at hl 0 rfl) ?_
      refine lv_aload_n hx hb dX1_layAt_17 rfl (lv_at hl 3 rfl) ?_
      refine y_geti h F hP hk0 (n2 ha0) fl_X1_60 rfl dX1_layAt_18 (fun v_18 h => ?_)
      refine lv_icmp_ge (tgt := 99) hx hb dX1_layAt_21 (by decide) (fun hc => ?_) (fun hc => ?_)
      · have h := if_t _ hc h
        exact y_vret h F hr hP hS hM_w hlk dX1_layAt_99
      · have h := if_f _ hc h
        refine lv_aload_n hx hb dX1_layAt_24 rfl (lv_at hl 3 rfl) ?_
        refine y_geti h F hP hk0 (n2 ha0) fl_X1_46 rfl dX1_layAt_25 (fun v_25 h => ?_)
        refine lv_aload_n hx hb dX1_layAt_28 rfl (lv_at hl 3 rfl) ?_
        refine x_getr F hP hk0 ha0 fl_X1_11 rfl (carR_4 hk0) dX1_layAt_29 ?_
        have ha_k0_1 := x_al hP hk0 ha0 (show ft 1 4 = 1 from rfl) (carR_4 hk0)
        refine lv_iload hx hb dX1_layAt_32 (lv_at hl 0 rfl) ?_
        refine y_iald h F hP (carK_4 hk0) (n2 ha_k0_1) dX1_layAt_34 (fun v_34 h => ?_)
        refine lv_imul hx hb dX1_layAt_35 ?_
        refine lv_bipush (v := 100) hx hb dX1_layAt_36 ib_100 ?_
        refine lv_idiv hx hb dX1_layAt_38 (by decide) ?_
        refine y_let h (fun v_39 h => ?_)
        refine lv_istore (lv' := [(7, .int v_39), (6, .int x6_15l), (5, .int v_10), (4, .int v_4), (0, .ref (ad k0)), (1, .int a1), (2, .int a2)]) hx hb dX1_layAt_39 hl (Nat.le_of_ble_eq_true rfl) rfl (fun ls hl => ?_)
        refine lv_iconst (v := 2) hx hb dX1_layAt_41 ic_2 ?_
        refine lv_aload_n hx hb dX1_layAt_42 rfl (lv_at hl 4 rfl) ?_
        refine x_getr F hP hk0 ha0 fl_X1_15 rfl (carR_5 hk0) dX1_layAt_43 ?_
        have ha_k0_2 := x_al hP hk0 ha0 (show ft 1 5 = 1 from rfl) (carR_5 hk0)
        refine lv_iload hx hb dX1_layAt_46 (lv_at hl 1 rfl) ?_
        refine y_iald h F hP (carK_5 hk0) (n2 ha_k0_2) dX1_layAt_48 (fun v_48 h => ?_)
        refine lv_iload hx hb dX1_layAt_49 (lv_at hl 0 rfl) ?_
        refine lv_iadd hx hb dX1_layAt_51 ?_
        refine lv_imul hx hb dX1_layAt_52 ?_
        refine y_let h (fun v_53 h => ?_)
        refine lv_istore (lv' := [(8, .int v_53), (7, .int v_39), (6, .int x6_15l), (5, .int v_10), (4, .int v_4), (0, .ref (ad k0)), (1, .int a1), (2, .int a2)]) hx hb dX1_layAt_53 hl (Nat.le_of_ble_eq_true rfl) rfl (fun ls hl => ?_)
        refine lv_iconst (v := 2) hx hb dX1_layAt_55 ic_2 ?_
        refine lv_aload_n hx hb dX1_layAt_56 rfl (lv_at hl 5 rfl) ?_
        refine x_getr F hP hk0 ha0 fl_X1_18 rfl (carR_6 hk0) dX1_layAt_57 ?_
        have ha_k0_3 := x_al hP hk0 ha0 (show ft 1 6 = 1 from rfl) (carR_6 hk0)
        refine lv_iload hx hb dX1_layAt_60 (lv_at hl 2 rfl) ?_
        refine y_iald h F hP (carK_6 hk0) (n2 ha_k0_3) dX1_layAt_62 (fun v_62 h => ?_)
        refine lv_iload hx hb dX1_layAt_63 (lv_at hl 1 rfl) ?_
        refine lv_iadd hx hb dX1_layAt_65 ?_
        refine lv_imul hx hb dX1_layAt_66 ?_
        refine y_let h (fun v_67 h => ?_)
        refine lv_istore (lv' := [(9, .int v_67), (8, .int v_53), (7, .int v_39), (6, .int x6_15l), (5, .int v_10), (4, .int v_4), (0, .ref (ad k0)), (1, .int a1), (2, .int a2)]) hx hb dX1_layAt_67 hl (Nat.le_of_ble_eq_true rfl) rfl (fun ls hl => ?_)
        refine lv_aload_n hx hb dX1_layAt_69 rfl (lv_at hl 6 rfl) ?_
        refine x_getr F hP hk0 ha0 fl_X1_23 rfl (carR_8 hk0) dX1_layAt_70 ?_
        have ha_k0_4 := x_al hP hk0 ha0 (show ft 1 8 = 1 from rfl) (carR_8 hk0)
        refine lv_iload hx hb dX1_layAt_73 (lv_at hl 3 rfl) ?_
        refine y_aald h F hP (carK_8 hk0) (by decide) (by decide) (n2 ha_k0_4) (ek_rects (carK_8 hk0)) dX1_layAt_75 (fun q_75 hk_q_75 ha_q_75 h => ?_)
        refine lv_iconst (v := 2) hx hb dX1_layAt_76 ic_2 ?_
        refine lv_iload_n hx hb dX1_layAt_77 rfl (lv_at hl 7 rfl) ?_
        refine lv_imul hx hb dX1_layAt_78 ?_
        refine lv_iconst (v := 2) hx hb dX1_layAt_79 ic_2 ?_
        refine lv_iload_n hx hb dX1_layAt_80 rfl (lv_at hl 8 rfl) ?_
        refine lv_imul hx hb dX1_layAt_81 ?_
        refine lv_iload hx hb dX1_layAt_82 (lv_at hl 5 rfl) ?_
        refine lv_iload hx hb dX1_layAt_84 (lv_at hl 4 rfl) ?_
        refine lv_iload hx hb dX1_layAt_86 (lv_at hl 1 rfl) ?_
        refine lv_iload hx hb dX1_layAt_88 (lv_at hl 0 rfl) ?_
        obtain ⟨w_90, hc_90, h⟩ := bo_s h
        refine x_goes (x_runV (As := [.int ((2 : Int32) * a1), .int ((2 : Int32) * a2), .int v_4, .int v_10, .int v_53, .int v_67]) (rest := []) F hP hS (c_X5_lay l D cT lo nb w_15l ad q_75 hk_q_75 ha_q_75 ((2 : Int32) * a1) ((2 : Int32) * a2) v_4 v_10 v_53 v_67 w_90 hc_90) cw_X5_lay lk_X1_76 vi_X5_lay hk_q_75 (n2 ha_q_75) rfl ⟨rfl, rfl, Nat.le_of_ble_eq_true rfl, Nat.le_of_ble_eq_true rfl⟩ hl.1 rfl (Nat.le_of_ble_eq_true rfl) dX1_layAt_90 ⟨Nat.zero_le _, Nat.zero_le _⟩) hS (fun H locs hP hS hm => ?_)
        have hM_w := hM_w.trans hm
        have ha0 := hm.2 _ ha0
        have ha_k0_1 := hm.2 _ ha_k0_1
        have ha_k0_2 := hm.2 _ ha_k0_2
        have ha_k0_3 := hm.2 _ ha_k0_3
        have ha_k0_4 := hm.2 _ ha_k0_4
        have ha_q_75 := hm.2 _ ha_q_75
        refine y_iinc (lv' := fun (v_93 : Int32) => [(6, .int v_93), (9, .int v_67), (8, .int v_53), (7, .int v_39), (5, .int v_10), (4, .int v_4), (0, .ref (ad k0)), (1, .int a1), (2, .int a2)]) h F ic_1 dX1_layAt_93 hl (kq := 3) rfl (Nat.le_of_ble_eq_true rfl) (fun _ => rfl) (fun v_93 ls hl h => ?_)
        refine lv_goto (tgt := 15) hx hb dX1_layAt_96 (by decide) ?_
        exact ih_15 w_90 v_93 hM_w h _ _ _ hP hS (lv_sub hl [0, 4, 5, 6, 7, 8] rfl)
  exact L_15 FU w (0 : Int32) mono.refl h _ _ _ hP hS (lv_sub hl [0, 1, 2, 3, 4, 5] rfl)
def f_X1_standAt (w : Wd) (k0 : Nat) (a1 : Int32) (a2 : Int32) (a3 : Int32) : Option Wd :=
q_pt w k0 9 a1 (fun w_2 =>
q_pt w_2 k0 10 a2 (fun w_7 =>
q_pt w_7 k0 11 a3 (fun w_12 =>
q_pt w_12 k0 12 (1 : Int32) (fun w_17 =>
some w_17))))
set_option maxRecDepth 100000 in
set_option maxHeartbeats 4000000 in
theorem c_X1_standAt (l : Launch) (D : va_G) (cT : Nat → ClassId) (lo nb : Nat) (w : Wd) (ad : Nat → Nat) (k0 : Nat) (hk0 : kt k0 = (11, 0)) (ha0 : wA w k0 = 2) (a1 : Int32) (a2 : Int32) (a3 : Int32) (w9 : Wd) (h : f_X1_standAt w k0 a1 a2 a3 = some w9) : Met l yX1_standAt (.code yX1_standAt cX1_standAt 4 none :: TW) { frames := 0, cells := 0, slots := 0, locals := 0 } (mPc D cT lo nb w ad [.ref (ad k0), .int a1, .int a2, .int a3]) (mQ D cT lo nb w w9 ad none) 0 0 (fun q => lo ≤ q) := by
  unfold f_X1_standAt at h
  refine x_met (lv := [(0, .ref (ad k0)), (1, .int a1), (2, .int a2), (3, .int a3)]) (by decide +kernel) (Nat.le_of_ble_eq_true rfl) rfl ?_
  intro p e s m args below meth c ls F hr hlk hP hin hl
  have hx := F.1
  have hb := F.2.1
  have hS : va_S (fun q => lo ≤ q) s.heap s.heap [] := va_S.rf
  have hM_w : mono w w := mono.refl
  refine lv_aload_n hx hb dX1_standAt_0 rfl (lv_at hl 0 rfl) ?_
  refine lv_iload_n hx hb dX1_standAt_1 rfl (lv_at hl 1 rfl) ?_
  refine y_puti h F hP hS hk0 (n2 ha0) fl_X1_80 rfl dX1_standAt_2 (fun w_2 H locs hm h hP hS => ?_)
  have hM_w := hm
  have ha0 := hm.2 _ ha0
  refine lv_aload_n hx hb dX1_standAt_5 rfl (lv_at hl 0 rfl) ?_
  refine lv_iload_n hx hb dX1_standAt_6 rfl (lv_at hl 2 rfl) ?_
  refine y_puti h F hP hS hk0 (n2 ha0) fl_X1_83 rfl dX1_standAt_7 (fun w_7 H locs hm h hP hS => ?_)
  have hM_w := hM_w.trans hm
  have ha0 := hm.2 _ ha0
  refine lv_aload_n hx hb dX1_standAt_10 rfl (lv_at hl 0 rfl) ?_
  refine lv_iload_n hx hb dX1_standAt_11 rfl (lv_at hl 3 rfl) ?_
  refine y_puti h F hP hS hk0 (n2 ha0) fl_X1_86 rfl dX1_standAt_12 (fun w_12 H locs hm h hP hS => ?_)
  have hM_w := hM_w.trans hm
  have ha0 := hm.2 _ ha0
  refine lv_aload_n hx hb dX1_standAt_15 rfl (lv_at hl 0 rfl) ?_
  refine lv_iconst (v := 1) hx hb dX1_standAt_16 ic_1 ?_
  refine y_putz h (Or.inr rfl) F hP hS hk0 (n2 ha0) fl_X1_89 rfl dX1_standAt_17 (fun w_17 H locs hm h hP hS => ?_)
  have hM_w := hM_w.trans hm
  have ha0 := hm.2 _ ha0
  exact y_vret h F hr hP hS hM_w hlk dX1_standAt_20
def f_X1_alongOf (w : Wd) (k0 : Nat) (a1 : Int32) : Int32 :=
if (2 : Int32) ≤ a1 then
-(wS w k0 0)
else
wS w k0 0
set_option maxRecDepth 100000 in
set_option maxHeartbeats 4000000 in
theorem c_X1_alongOf (l : Launch) (D : va_G) (cT : Nat → ClassId) (lo nb : Nat) (w : Wd) (ad : Nat → Nat) (k0 : Nat) (hk0 : kt k0 = (11, 0)) (ha0 : wA w k0 = 2) (a1 : Int32) : Met l yX1_alongOf (.code yX1_alongOf cX1_alongOf 2 (some .int) :: TW) { frames := 0, cells := 0, slots := 0, locals := 0 } (mPc D cT lo nb w ad [.ref (ad k0), .int a1]) (mQ D cT lo nb w w ad (some (.int (f_X1_alongOf w k0 a1)))) 0 0 (fun q => lo ≤ q) := by
  obtain ⟨r, h⟩ : ∃ r, f_X1_alongOf w k0 a1 = r := ⟨_, rfl⟩
  rw [h]
  unfold f_X1_alongOf at h
  refine x_met (lv := [(0, .ref (ad k0)), (1, .int a1)]) (by decide +kernel) (Nat.le_of_ble_eq_true rfl) rfl ?_
  intro p e s m args below meth c ls F hr hlk hP hin hl
  have hx := F.1
  have hb := F.2.1
  have hS : va_S (fun q => lo ≤ q) s.heap s.heap [] := va_S.rf
  refine lv_iload_n hx hb dX1_alongOf_0 rfl (lv_at hl 1 rfl) ?_
  refine lv_iconst (v := 2) hx hb dX1_alongOf_1 ic_2 ?_
  refine lv_icmp_ge (tgt := 12) hx hb dX1_alongOf_2 (by decide) (fun hc => ?_) (fun hc => ?_)
  · have h := if_t _ hc h
    refine lv_aload_n hx hb dX1_alongOf_12 rfl (lv_at hl 0 rfl) ?_
    refine x_geti F hP hk0 (n2 ha0) fl_X1_36 rfl dX1_alongOf_13 ?_
    refine lv_ineg hx hb dX1_alongOf_16 ?_
    exact y_iretP h F hr hP hS hlk dX1_alongOf_17
  · have h := if_f _ hc h
    refine lv_aload_n hx hb dX1_alongOf_5 rfl (lv_at hl 0 rfl) ?_
    refine x_geti F hP hk0 (n2 ha0) fl_X1_36 rfl dX1_alongOf_6 ?_
    refine lv_goto (tgt := 17) hx hb dX1_alongOf_9 (by decide) ?_
    exact y_iretP h F hr hP hS hlk dX1_alongOf_17
def f_X1_acrossOf (w : Wd) (k0 : Nat) (a1 : Int32) : Int32 :=
if (a1 - a1 / (2 : Int32) * (2 : Int32)) = 0 then
wS w k0 1
else
-(wS w k0 1)
set_option maxRecDepth 100000 in
set_option maxHeartbeats 4000000 in
theorem c_X1_acrossOf (l : Launch) (D : va_G) (cT : Nat → ClassId) (lo nb : Nat) (w : Wd) (ad : Nat → Nat) (k0 : Nat) (hk0 : kt k0 = (11, 0)) (ha0 : wA w k0 = 2) (a1 : Int32) : Met l yX1_acrossOf (.code yX1_acrossOf cX1_acrossOf 2 (some .int) :: TW) { frames := 0, cells := 0, slots := 0, locals := 0 } (mPc D cT lo nb w ad [.ref (ad k0), .int a1]) (mQ D cT lo nb w w ad (some (.int (f_X1_acrossOf w k0 a1)))) 0 0 (fun q => lo ≤ q) := by
  obtain ⟨r, h⟩ : ∃ r, f_X1_acrossOf w k0 a1 = r := ⟨_, rfl⟩
  rw [h]
  unfold f_X1_acrossOf at h
  refine x_met (lv := [(0, .ref (ad k0)), (1, .int a1)]) (by decide +kernel) (Nat.le_of_ble_eq_true rfl) rfl ?_
  intro p e s m args below meth c ls F hr hlk hP hin hl
  have hx := F.1
  have hb := F.2.1
  have hS : va_S (fun q => lo ≤ q) s.heap s.heap [] := va_S.rf
  refine lv_iload_n hx hb dX1_acrossOf_0 rfl (lv_at hl 1 rfl) ?_
  refine lv_iconst (v := 2) hx hb dX1_acrossOf_1 ic_2 ?_
  refine lv_irem hx hb dX1_acrossOf_2 (by decide) ?_
  refine lv_if_ne (tgt := 13) hx hb dX1_acrossOf_3 (by decide) (fun hc => ?_) (fun hc => ?_)
  · have h := if_f _ hc h
    refine lv_aload_n hx hb dX1_acrossOf_13 rfl (lv_at hl 0 rfl) ?_
    refine x_geti F hP hk0 (n2 ha0) fl_X1_40 rfl dX1_acrossOf_14 ?_
    refine lv_ineg hx hb dX1_acrossOf_17 ?_
    exact y_iretP h F hr hP hS hlk dX1_acrossOf_18
  · have h := if_t _ hc h
    refine lv_aload_n hx hb dX1_acrossOf_6 rfl (lv_at hl 0 rfl) ?_
    refine x_geti F hP hk0 (n2 ha0) fl_X1_40 rfl dX1_acrossOf_7 ?_
    refine lv_goto (tgt := 18) hx hb dX1_acrossOf_10 (by decide) ?_
    exact y_iretP h F hr hP hS hlk dX1_acrossOf_18
def f_X1_wheelX (w : Wd) (k0 : Nat) (a1 : Int32) (a2 : Int32) : Int32 :=
((f_X1_alongOf w k0 a1) * (f_X11_cosine a2)) - ((f_X1_acrossOf w k0 a1) * (f_X11_sine a2))
set_option maxRecDepth 100000 in
set_option maxHeartbeats 4000000 in
theorem c_X1_wheelX (l : Launch) (D : va_G) (cT : Nat → ClassId) (lo nb : Nat) (w : Wd) (ad : Nat → Nat) (k0 : Nat) (hk0 : kt k0 = (11, 0)) (ha0 : wA w k0 = 2) (a1 : Int32) (a2 : Int32) : Met l yX1_wheelX (.code yX1_wheelX cX1_wheelX 3 (some .int) :: TW) { frames := 2, cells := 0, slots := 0, locals := 42 } (mPc D cT lo nb w ad [.ref (ad k0), .int a1, .int a2]) (mQ D cT lo nb w w ad (some (.int (f_X1_wheelX w k0 a1 a2)))) 0 0 (fun q => lo ≤ q) := by
  obtain ⟨r, h⟩ : ∃ r, f_X1_wheelX w k0 a1 a2 = r := ⟨_, rfl⟩
  rw [h]
  unfold f_X1_wheelX at h
  refine x_met (lv := [(0, .ref (ad k0)), (1, .int a1), (2, .int a2)]) (by decide +kernel) (Nat.le_of_ble_eq_true rfl) rfl ?_
  intro p e s m args below meth c ls F hr hlk hP hin hl
  have hx := F.1
  have hb := F.2.1
  have hS : va_S (fun q => lo ≤ q) s.heap s.heap [] := va_S.rf
  refine lv_aload_n hx hb dX1_wheelX_0 rfl (lv_at hl 0 rfl) ?_
  refine lv_iload_n hx hb dX1_wheelX_1 rfl (lv_at hl 1 rfl) ?_
  refine x_goes (x_runV (As := [.int a1]) (rest := []) F hP hS (c_X1_alongOf l D cT lo nb w ad k0 hk0 ha0 a1) cw_X1_alongOf lk_X1_93 vi_X1_alongOf hk0 (n2 ha0) rfl ⟨rfl, rfl, Nat.le_of_ble_eq_true rfl, Nat.le_of_ble_eq_true rfl⟩ hl.1 rfl (Nat.le_of_ble_eq_true rfl) dX1_wheelX_2 ⟨Nat.zero_le _, Nat.zero_le _⟩) hS (fun H locs hP hS _ => ?_)
  refine lv_iload_n hx hb dX1_wheelX_5 rfl (lv_at hl 2 rfl) ?_
  refine x_goes (x_runSN (As := [.int a2]) (rest := [.int (f_X1_alongOf w k0 a1)]) F hP hS (c_X11_cosine l D cT lo nb w ad a2) cw_X11_cosine nl_X1_70 st_X11_cosine ⟨rfl, rfl, Nat.le_of_ble_eq_true rfl, Nat.le_of_ble_eq_true rfl⟩ hl.1 rfl (Nat.le_of_ble_eq_true rfl) dX1_wheelX_6 ⟨Nat.zero_le _, Nat.zero_le _⟩) hS (fun H locs hP hS _ => ?_)
  refine lv_imul hx hb dX1_wheelX_9 ?_
  refine lv_aload_n hx hb dX1_wheelX_10 rfl (lv_at hl 0 rfl) ?_
  refine lv_iload_n hx hb dX1_wheelX_11 rfl (lv_at hl 1 rfl) ?_
  refine x_goes (x_runV (As := [.int a1]) (rest := [.int ((f_X1_alongOf w k0 a1) * (f_X11_cosine a2))]) F hP hS (c_X1_acrossOf l D cT lo nb w ad k0 hk0 ha0 a1) cw_X1_acrossOf lk_X1_96 vi_X1_acrossOf hk0 (n2 ha0) rfl ⟨rfl, rfl, Nat.le_of_ble_eq_true rfl, Nat.le_of_ble_eq_true rfl⟩ hl.1 rfl (Nat.le_of_ble_eq_true rfl) dX1_wheelX_12 ⟨Nat.zero_le _, Nat.zero_le _⟩) hS (fun H locs hP hS _ => ?_)
  refine lv_iload_n hx hb dX1_wheelX_15 rfl (lv_at hl 2 rfl) ?_
  refine x_goes (x_runSN (As := [.int a2]) (rest := [.int (f_X1_acrossOf w k0 a1), .int ((f_X1_alongOf w k0 a1) * (f_X11_cosine a2))]) F hP hS (c_X11_sine l D cT lo nb w ad a2) cw_X11_sine nl_X1_73 st_X11_sine ⟨rfl, rfl, Nat.le_of_ble_eq_true rfl, Nat.le_of_ble_eq_true rfl⟩ hl.1 rfl (Nat.le_of_ble_eq_true rfl) dX1_wheelX_16 ⟨Nat.zero_le _, Nat.zero_le _⟩) hS (fun H locs hP hS _ => ?_)
  refine lv_imul hx hb dX1_wheelX_19 ?_
  refine lv_isub hx hb dX1_wheelX_20 ?_
  exact y_iretP h F hr hP hS hlk dX1_wheelX_21
def f_X1_wheelY (w : Wd) (k0 : Nat) (a1 : Int32) (a2 : Int32) : Int32 :=
((f_X1_alongOf w k0 a1) * (f_X11_sine a2)) + ((f_X1_acrossOf w k0 a1) * (f_X11_cosine a2))
set_option maxRecDepth 100000 in
set_option maxHeartbeats 4000000 in
theorem c_X1_wheelY (l : Launch) (D : va_G) (cT : Nat → ClassId) (lo nb : Nat) (w : Wd) (ad : Nat → Nat) (k0 : Nat) (hk0 : kt k0 = (11, 0)) (ha0 : wA w k0 = 2) (a1 : Int32) (a2 : Int32) : Met l yX1_wheelY (.code yX1_wheelY cX1_wheelY 3 (some .int) :: TW) { frames := 2, cells := 0, slots := 0, locals := 42 } (mPc D cT lo nb w ad [.ref (ad k0), .int a1, .int a2]) (mQ D cT lo nb w w ad (some (.int (f_X1_wheelY w k0 a1 a2)))) 0 0 (fun q => lo ≤ q) := by
  obtain ⟨r, h⟩ : ∃ r, f_X1_wheelY w k0 a1 a2 = r := ⟨_, rfl⟩
  rw [h]
  unfold f_X1_wheelY at h
  refine x_met (lv := [(0, .ref (ad k0)), (1, .int a1), (2, .int a2)]) (by decide +kernel) (Nat.le_of_ble_eq_true rfl) rfl ?_
  intro p e s m args below meth c ls F hr hlk hP hin hl
  have hx := F.1
  have hb := F.2.1
  have hS : va_S (fun q => lo ≤ q) s.heap s.heap [] := va_S.rf
  refine lv_aload_n hx hb dX1_wheelY_0 rfl (lv_at hl 0 rfl) ?_
  refine lv_iload_n hx hb dX1_wheelY_1 rfl (lv_at hl 1 rfl) ?_
  refine x_goes (x_runV (As := [.int a1]) (rest := []) F hP hS (c_X1_alongOf l D cT lo nb w ad k0 hk0 ha0 a1) cw_X1_alongOf lk_X1_93 vi_X1_alongOf hk0 (n2 ha0) rfl ⟨rfl, rfl, Nat.le_of_ble_eq_true rfl, Nat.le_of_ble_eq_true rfl⟩ hl.1 rfl (Nat.le_of_ble_eq_true rfl) dX1_wheelY_2 ⟨Nat.zero_le _, Nat.zero_le _⟩) hS (fun H locs hP hS _ => ?_)
  refine lv_iload_n hx hb dX1_wheelY_5 rfl (lv_at hl 2 rfl) ?_
  refine x_goes (x_runSN (As := [.int a2]) (rest := [.int (f_X1_alongOf w k0 a1)]) F hP hS (c_X11_sine l D cT lo nb w ad a2) cw_X11_sine nl_X1_73 st_X11_sine ⟨rfl, rfl, Nat.le_of_ble_eq_true rfl, Nat.le_of_ble_eq_true rfl⟩ hl.1 rfl (Nat.le_of_ble_eq_true rfl) dX1_wheelY_6 ⟨Nat.zero_le _, Nat.zero_le _⟩) hS (fun H locs hP hS _ => ?_)
  refine lv_imul hx hb dX1_wheelY_9 ?_
  refine lv_aload_n hx hb dX1_wheelY_10 rfl (lv_at hl 0 rfl) ?_
  refine lv_iload_n hx hb dX1_wheelY_11 rfl (lv_at hl 1 rfl) ?_
  refine x_goes (x_runV (As := [.int a1]) (rest := [.int ((f_X1_alongOf w k0 a1) * (f_X11_sine a2))]) F hP hS (c_X1_acrossOf l D cT lo nb w ad k0 hk0 ha0 a1) cw_X1_acrossOf lk_X1_96 vi_X1_acrossOf hk0 (n2 ha0) rfl ⟨rfl, rfl, Nat.le_of_ble_eq_true rfl, Nat.le_of_ble_eq_true rfl⟩ hl.1 rfl (Nat.le_of_ble_eq_true rfl) dX1_wheelY_12 ⟨Nat.zero_le _, Nat.zero_le _⟩) hS (fun H locs hP hS _ => ?_)
  refine lv_iload_n hx hb dX1_wheelY_15 rfl (lv_at hl 2 rfl) ?_
  refine x_goes (x_runSN (As := [.int a2]) (rest := [.int (f_X1_acrossOf w k0 a1), .int ((f_X1_alongOf w k0 a1) * (f_X11_sine a2))]) F hP hS (c_X11_cosine l D cT lo nb w ad a2) cw_X11_cosine nl_X1_70 st_X11_cosine ⟨rfl, rfl, Nat.le_of_ble_eq_true rfl, Nat.le_of_ble_eq_true rfl⟩ hl.1 rfl (Nat.le_of_ble_eq_true rfl) dX1_wheelY_16 ⟨Nat.zero_le _, Nat.zero_le _⟩) hS (fun H locs hP hS _ => ?_)
  refine lv_imul hx hb dX1_wheelY_19 ?_
  refine lv_iadd hx hb dX1_wheelY_20 ?_
  exact y_iretP h F hr hP hS hlk dX1_wheelY_21
def f_X1_isSlack (w : Wd) (k0 : Nat) (a1 : Int32) : Option Int32 :=
if (f_X11_within a1 (0 : Int32) (3 : Int32)) = 0 then
some (1 : Int32)
else
q_ld w (k0 + 10) 4 a1 (fun v_14 =>
if (10 : Int32) ≤ v_14 then
some (0 : Int32)
else
some (1 : Int32))
set_option maxRecDepth 100000 in
set_option maxHeartbeats 4000000 in
theorem c_X1_isSlack (l : Launch) (D : va_G) (cT : Nat → ClassId) (lo nb : Nat) (w : Wd) (ad : Nat → Nat) (k0 : Nat) (hk0 : kt k0 = (11, 0)) (ha0 : wA w k0 = 2) (a1 : Int32) (r : Int32) (h : f_X1_isSlack w k0 a1 = some r) : Met l yX1_isSlack (.code yX1_isSlack cX1_isSlack 2 (some .boolean) :: TW) { frames := 1, cells := 0, slots := 0, locals := 22 } (mPc D cT lo nb w ad [.ref (ad k0), .int a1]) (mQz D cT lo nb w w ad r) 0 0 (fun q => lo ≤ q) := by
  unfold f_X1_isSlack at h
  refine x_met (lv := [(0, .ref (ad k0)), (1, .int a1)]) (by decide +kernel) (Nat.le_of_ble_eq_true rfl) rfl ?_
  intro p e s m args below meth c ls F hr hlk hP hin hl
  have hx := F.1
  have hb := F.2.1
  have hS : va_S (fun q => lo ≤ q) s.heap s.heap [] := va_S.rf
  refine lv_iload_n hx hb dX1_isSlack_0 rfl (lv_at hl 1 rfl) ?_
  refine lv_iconst (v := 0) hx hb dX1_isSlack_1 ic_0 ?_
  refine lv_iconst (v := 3) hx hb dX1_isSlack_2 ic_3 ?_
  refine x_goesZ (x_runSN (As := [.int a1, .int (0 : Int32), .int (3 : Int32)]) (rest := []) F hP hS (c_X11_within l D cT lo nb w ad a1 (0 : Int32) (3 : Int32)) cw_X11_within nl_X1_56 st_X11_within ⟨rfl, rfl, Nat.le_of_ble_eq_true rfl, Nat.le_of_ble_eq_true rfl⟩ hl.1 rfl (Nat.le_of_ble_eq_true rfl) dX1_isSlack_3 ⟨Nat.zero_le _, Nat.zero_le _⟩) hS (fun H locs hz_3 hP hS _ => ?_)
  refine lv_if_eq (tgt := 20) hx hb dX1_isSlack_6 (by decide) (fun hc => ?_) (fun hc => ?_)
  · have h := if_t _ hc h
    refine lv_iconst (v := 1) hx hb dX1_isSlack_20 ic_1 ?_
    refine lv_goto (tgt := 25) hx hb dX1_isSlack_21 (by decide) ?_
    exact y_zretO h F hr hP hS hlk rfl dX1_isSlack_25
  · have h := if_f _ hc h
    refine lv_aload_n hx hb dX1_isSlack_9 rfl (lv_at hl 0 rfl) ?_
    refine x_getr F hP hk0 ha0 fl_X1_27 rfl (carR_14 hk0) dX1_isSlack_10 ?_
    have ha_k0_10 := x_al hP hk0 ha0 (show ft 1 14 = 1 from rfl) (carR_14 hk0)
    refine lv_iload_n hx hb dX1_isSlack_13 rfl (lv_at hl 1 rfl) ?_
    refine y_iald h F hP (carK_14 hk0) (n2 ha_k0_10) dX1_isSlack_14 (fun v_14 h => ?_)
    refine lv_bipush (v := 10) hx hb dX1_isSlack_15 ib_10 ?_
    refine lv_icmp_ge (tgt := 24) hx hb dX1_isSlack_17 (by decide) (fun hc => ?_) (fun hc => ?_)
    · have h := if_t _ hc h
      refine lv_iconst (v := 0) hx hb dX1_isSlack_24 ic_0 ?_
      exact y_zretO h F hr hP hS hlk rfl dX1_isSlack_25
    · have h := if_f _ hc h
      refine lv_iconst (v := 1) hx hb dX1_isSlack_20 ic_1 ?_
      refine lv_goto (tgt := 25) hx hb dX1_isSlack_21 (by decide) ?_
      exact y_zretO h F hr hP hS hlk rfl dX1_isSlack_25
def f_X1_ropeTurn (w : Wd) (k0 : Nat) (a1 : Int32) : Option Int32 :=
if (f_X11_within a1 (0 : Int32) (3 : Int32)) = 0 then
some (0 : Int32)
else
if (2 : Int32) ≤ a1 then
q_ld w (k0 + 12) 4 a1 (fun v_32 =>
some ((18 : Int32) + v_32))
else
q_ld w (k0 + 12) 4 a1 (fun v_21 =>
some v_21)
set_option maxRecDepth 100000 in
set_option maxHeartbeats 4000000 in
theorem c_X1_ropeTurn (l : Launch) (D : va_G) (cT : Nat → ClassId) (lo nb : Nat) (w : Wd) (ad : Nat → Nat) (k0 : Nat) (hk0 : kt k0 = (11, 0)) (ha0 : wA w k0 = 2) (a1 : Int32) (r : Int32) (h : f_X1_ropeTurn w k0 a1 = some r) : Met l yX1_ropeTurn (.code yX1_ropeTurn cX1_ropeTurn 2 (some .int) :: TW) { frames := 1, cells := 0, slots := 0, locals := 22 } (mPc D cT lo nb w ad [.ref (ad k0), .int a1]) (mQ D cT lo nb w w ad (some (.int r))) 0 0 (fun q => lo ≤ q) := by
  unfold f_X1_ropeTurn at h
  refine x_met (lv := [(0, .ref (ad k0)), (1, .int a1)]) (by decide +kernel) (Nat.le_of_ble_eq_true rfl) rfl ?_
  intro p e s m args below meth c ls F hr hlk hP hin hl
  have hx := F.1
  have hb := F.2.1
  have hS : va_S (fun q => lo ≤ q) s.heap s.heap [] := va_S.rf
  refine lv_iload_n hx hb dX1_ropeTurn_0 rfl (lv_at hl 1 rfl) ?_
  refine lv_iconst (v := 0) hx hb dX1_ropeTurn_1 ic_0 ?_
  refine lv_iconst (v := 3) hx hb dX1_ropeTurn_2 ic_3 ?_
  refine x_goesZ (x_runSN (As := [.int a1, .int (0 : Int32), .int (3 : Int32)]) (rest := []) F hP hS (c_X11_within l D cT lo nb w ad a1 (0 : Int32) (3 : Int32)) cw_X11_within nl_X1_56 st_X11_within ⟨rfl, rfl, Nat.le_of_ble_eq_true rfl, Nat.le_of_ble_eq_true rfl⟩ hl.1 rfl (Nat.le_of_ble_eq_true rfl) dX1_ropeTurn_3 ⟨Nat.zero_le _, Nat.zero_le _⟩) hS (fun H locs hz_3 hP hS _ => ?_)
  refine lv_if_ne (tgt := 11) hx hb dX1_ropeTurn_6 (by decide) (fun hc => ?_) (fun hc => ?_)
  · have h := if_f _ hc h
    refine lv_iload_n hx hb dX1_ropeTurn_11 rfl (lv_at hl 1 rfl) ?_
    refine lv_iconst (v := 2) hx hb dX1_ropeTurn_12 ic_2 ?_
    refine lv_icmp_ge (tgt := 25) hx hb dX1_ropeTurn_13 (by decide) (fun hc => ?_) (fun hc => ?_)
    · have h := if_t _ hc h
      refine lv_bipush (v := 18) hx hb dX1_ropeTurn_25 ib_18 ?_
      refine lv_aload_n hx hb dX1_ropeTurn_27 rfl (lv_at hl 0 rfl) ?_
      refine x_getr F hP hk0 ha0 fl_X1_33 rfl (carR_16 hk0) dX1_ropeTurn_28 ?_
      have ha_k0_12 := x_al hP hk0 ha0 (show ft 1 16 = 1 from rfl) (carR_16 hk0)
      refine lv_iload_n hx hb dX1_ropeTurn_31 rfl (lv_at hl 1 rfl) ?_
      refine y_iald h F hP (carK_16 hk0) (n2 ha_k0_12) dX1_ropeTurn_32 (fun v_32 h => ?_)
      refine lv_iadd hx hb dX1_ropeTurn_33 ?_
      exact y_iretO h F hr hP hS hlk dX1_ropeTurn_34
    · have h := if_f _ hc h
      refine lv_aload_n hx hb dX1_ropeTurn_16 rfl (lv_at hl 0 rfl) ?_
      refine x_getr F hP hk0 ha0 fl_X1_33 rfl (carR_16 hk0) dX1_ropeTurn_17 ?_
      have ha_k0_12 := x_al hP hk0 ha0 (show ft 1 16 = 1 from rfl) (carR_16 hk0)
      refine lv_iload_n hx hb dX1_ropeTurn_20 rfl (lv_at hl 1 rfl) ?_
      refine y_iald h F hP (carK_16 hk0) (n2 ha_k0_12) dX1_ropeTurn_21 (fun v_21 h => ?_)
      refine lv_goto (tgt := 34) hx hb dX1_ropeTurn_22 (by decide) ?_
      exact y_iretO h F hr hP hS hlk dX1_ropeTurn_34
  · have h := if_t _ hc h
    refine lv_iconst (v := 0) hx hb dX1_ropeTurn_9 ic_0 ?_
    exact y_iretO h F hr hP hS hlk dX1_ropeTurn_10
def f_X1_layRope (w : Wd) (k0 : Nat) (a1 : Nat) (a2 : Int32) : Option Wd :=
if (f_X11_within a2 (0 : Int32) (3 : Int32)) = 0 then
some w
else
q_gt w k0 11 (fun v_11 =>
q_bo (f_X1_ropeTurn w k0 a2) (fun v_16 =>
q_lt (v_11 + v_16) (fun v_20 =>
q_lt (f_X11_cosine v_20) (fun v_25 =>
q_lt (f_X11_sine v_20) (fun v_31 =>
q_ld w (k0 + 11) 4 a2 (fun v_38 =>
q_gt w k0 9 (fun v_43 =>
q_gt w k0 11 (fun v_49 =>
q_lt (((2 : Int32) * (v_43 + (f_X1_wheelX w k0 a2 v_49))) + (v_38 * v_25)) (fun v_63 =>
q_gt w k0 10 (fun v_67 =>
q_gt w k0 11 (fun v_73 =>
q_lt (((2 : Int32) * (v_67 + (f_X1_wheelY w k0 a2 v_73))) + (v_38 * v_31)) (fun v_87 =>
q_bo (f_X5_lay w a1 v_63 v_87 v_25 v_31 v_38 (0 : Int32)) (fun w_101 =>
some w_101)))))))))))))
set_option maxRecDepth 100000 in
set_option maxHeartbeats 4000000 in
theorem c_X1_layRope (l : Launch) (D : va_G) (cT : Nat → ClassId) (lo nb : Nat) (w : Wd) (ad : Nat → Nat) (k0 : Nat) (hk0 : kt k0 = (11, 0)) (ha0 : wA w k0 = 2) (a1 : Nat) (hk1 : kt a1 = (15, 0)) (ha1 : wA w a1 = 2) (a2 : Int32) (w9 : Wd) (h : f_X1_layRope w k0 a1 a2 = some w9) : Met l yX1_layRope (.code yX1_layRope cX1_layRope 9 none :: TW) { frames := 3, cells := 0, slots := 0, locals := 64 } (mPc D cT lo nb w ad [.ref (ad k0), .ref (ad a1), .int a2]) (mQ D cT lo nb w w9 ad none) 0 0 (fun q => lo ≤ q) := by
  unfold f_X1_layRope at h
  refine x_met (lv := [(0, .ref (ad k0)), (1, .ref (ad a1)), (2, .int a2)]) (by decide +kernel) (Nat.le_of_ble_eq_true rfl) rfl ?_
  intro p e s m args below meth c ls F hr hlk hP hin hl
  have hx := F.1
  have hb := F.2.1
  have hS : va_S (fun q => lo ≤ q) s.heap s.heap [] := va_S.rf
  have hM_w : mono w w := mono.refl
  refine lv_iload_n hx hb dX1_layRope_0 rfl (lv_at hl 2 rfl) ?_
  refine lv_iconst (v := 0) hx hb dX1_layRope_1 ic_0 ?_
  refine lv_iconst (v := 3) hx hb dX1_layRope_2 ic_3 ?_
  refine x_goesZ (x_runSN (As := [.int a2, .int (0 : Int32), .int (3 : Int32)]) (rest := []) F hP hS (c_X11_within l D cT lo nb w ad a2 (0 : Int32) (3 : Int32)) cw_X11_within nl_X1_56 st_X11_within ⟨rfl, rfl, Nat.le_of_ble_eq_true rfl, Nat.le_of_ble_eq_true rfl⟩ hl.1 rfl (Nat.le_of_ble_eq_true rfl) dX1_layRope_3 ⟨Nat.zero_le _, Nat.zero_le _⟩) hS (fun H locs hz_3 hP hS _ => ?_)
  refine lv_if_ne (tgt := 10) hx hb dX1_layRope_6 (by decide) (fun hc => ?_) (fun hc => ?_)
  · have h := if_f _ hc h
    refine lv_aload_n hx hb dX1_layRope_10 rfl (lv_at hl 0 rfl) ?_
    refine y_geti h F hP hk0 (n2 ha0) fl_X1_86 rfl dX1_layRope_11 (fun v_11 h => ?_)
    refine lv_aload_n hx hb dX1_layRope_14 rfl (lv_at hl 0 rfl) ?_
    refine lv_iload_n hx hb dX1_layRope_15 rfl (lv_at hl 2 rfl) ?_
    obtain ⟨v_16, hc_16, h⟩ := bo_s h
    refine x_goes (x_runV (As := [.int a2]) (rest := [.int v_11]) F hP hS (c_X1_ropeTurn l D cT lo nb w ad k0 hk0 ha0 a2 v_16 hc_16) cw_X1_ropeTurn lk_X1_99 vi_X1_ropeTurn hk0 (n2 ha0) rfl ⟨rfl, rfl, Nat.le_of_ble_eq_true rfl, Nat.le_of_ble_eq_true rfl⟩ hl.1 rfl (Nat.le_of_ble_eq_true rfl) dX1_layRope_16 ⟨Nat.zero_le _, Nat.zero_le _⟩) hS (fun H locs hP hS _ => ?_)
    refine lv_iadd hx hb dX1_layRope_19 ?_
    refine y_let h (fun v_20 h => ?_)
    refine lv_istore_n (lv' := [(3, .int v_20), (0, .ref (ad k0)), (1, .ref (ad a1)), (2, .int a2)]) hx hb dX1_layRope_20 rfl hl (Nat.le_of_ble_eq_true rfl) rfl (fun ls hl => ?_)
    refine lv_iload_n hx hb dX1_layRope_21 rfl (lv_at hl 0 rfl) ?_
    refine x_goes (x_runSN (As := [.int v_20]) (rest := []) F hP hS (c_X11_cosine l D cT lo nb w ad v_20) cw_X11_cosine nl_X1_70 st_X11_cosine ⟨rfl, rfl, Nat.le_of_ble_eq_true rfl, Nat.le_of_ble_eq_true rfl⟩ hl.1 rfl (Nat.le_of_ble_eq_true rfl) dX1_layRope_22 ⟨Nat.zero_le _, Nat.zero_le _⟩) hS (fun H locs hP hS _ => ?_)
    refine y_let h (fun v_25 h => ?_)
    refine lv_istore (lv' := [(4, .int v_25), (3, .int v_20), (0, .ref (ad k0)), (1, .ref (ad a1)), (2, .int a2)]) hx hb dX1_layRope_25 hl (Nat.le_of_ble_eq_true rfl) rfl (fun ls hl => ?_)
    refine lv_iload_n hx hb dX1_layRope_27 rfl (lv_at hl 1 rfl) ?_
    refine x_goes (x_runSN (As := [.int v_20]) (rest := []) F hP hS (c_X11_sine l D cT lo nb w ad v_20) cw_X11_sine nl_X1_73 st_X11_sine ⟨rfl, rfl, Nat.le_of_ble_eq_true rfl, Nat.le_of_ble_eq_true rfl⟩ hl.1 rfl (Nat.le_of_ble_eq_true rfl) dX1_layRope_28 ⟨Nat.zero_le _, Nat.zero_le _⟩) hS (fun H locs hP hS _ => ?_)
    refine y_let h (fun v_31 h => ?_)
    refine lv_istore (lv' := [(5, .int v_31), (4, .int v_25), (3, .int v_20), (0, .ref (ad k0)), (1, .ref (ad a1)), (2, .int a2)]) hx hb dX1_layRope_31 hl (Nat.le_of_ble_eq_true rfl) rfl (fun ls hl => ?_)
    refine lv_aload_n hx hb dX1_layRope_33 rfl (lv_at hl 3 rfl) ?_
    refine x_getr F hP hk0 ha0 fl_X1_30 rfl (carR_15 hk0) dX1_layRope_34 ?_
    have ha_k0_11 := x_al hP hk0 ha0 (show ft 1 15 = 1 from rfl) (carR_15 hk0)
    refine lv_iload_n hx hb dX1_layRope_37 rfl (lv_at hl 5 rfl) ?_
    refine y_iald h F hP (carK_15 hk0) (n2 ha_k0_11) dX1_layRope_38 (fun v_38 h => ?_)
    refine lv_istore (lv' := [(6, .int v_38), (5, .int v_31), (4, .int v_25), (3, .int v_20), (0, .ref (ad k0)), (1, .ref (ad a1)), (2, .int a2)]) hx hb dX1_layRope_39 hl (Nat.le_of_ble_eq_true rfl) rfl (fun ls hl => ?_)
    refine lv_iconst (v := 2) hx hb dX1_layRope_41 ic_2 ?_
    refine lv_aload_n hx hb dX1_layRope_42 rfl (lv_at hl 4 rfl) ?_
    refine y_geti h F hP hk0 (n2 ha0) fl_X1_80 rfl dX1_layRope_43 (fun v_43 h => ?_)
    refine lv_aload_n hx hb dX1_layRope_46 rfl (lv_at hl 4 rfl) ?_
    refine lv_iload_n hx hb dX1_layRope_47 rfl (lv_at hl 6 rfl) ?_
    refine lv_aload_n hx hb dX1_layRope_48 rfl (lv_at hl 4 rfl) ?_
    refine y_geti h F hP hk0 (n2 ha0) fl_X1_86 rfl dX1_layRope_49 (fun v_49 h => ?_)
    refine x_goes (x_runV (As := [.int a2, .int v_49]) (rest := [.int v_43, .int (2 : Int32)]) F hP hS (c_X1_wheelX l D cT lo nb w ad k0 hk0 ha0 a2 v_49) cw_X1_wheelX lk_X1_102 vi_X1_wheelX hk0 (n2 ha0) rfl ⟨rfl, rfl, Nat.le_of_ble_eq_true rfl, Nat.le_of_ble_eq_true rfl⟩ hl.1 rfl (Nat.le_of_ble_eq_true rfl) dX1_layRope_52 ⟨Nat.zero_le _, Nat.zero_le _⟩) hS (fun H locs hP hS _ => ?_)
    refine lv_iadd hx hb dX1_layRope_55 ?_
    refine lv_imul hx hb dX1_layRope_56 ?_
    refine lv_iload hx hb dX1_layRope_57 (lv_at hl 0 rfl) ?_
    refine lv_iload hx hb dX1_layRope_59 (lv_at hl 2 rfl) ?_
    refine lv_imul hx hb dX1_layRope_61 ?_
    refine lv_iadd hx hb dX1_layRope_62 ?_
    refine y_let h (fun v_63 h => ?_)
    refine lv_istore (lv' := [(7, .int v_63), (6, .int v_38), (5, .int v_31), (4, .int v_25), (3, .int v_20), (0, .ref (ad k0)), (1, .ref (ad a1)), (2, .int a2)]) hx hb dX1_layRope_63 hl (Nat.le_of_ble_eq_true rfl) rfl (fun ls hl => ?_)
    refine lv_iconst (v := 2) hx hb dX1_layRope_65 ic_2 ?_
    refine lv_aload_n hx hb dX1_layRope_66 rfl (lv_at hl 5 rfl) ?_
    refine y_geti h F hP hk0 (n2 ha0) fl_X1_83 rfl dX1_layRope_67 (fun v_67 h => ?_)
    refine lv_aload_n hx hb dX1_layRope_70 rfl (lv_at hl 5 rfl) ?_
    refine lv_iload_n hx hb dX1_layRope_71 rfl (lv_at hl 7 rfl) ?_
    refine lv_aload_n hx hb dX1_layRope_72 rfl (lv_at hl 5 rfl) ?_
    refine y_geti h F hP hk0 (n2 ha0) fl_X1_86 rfl dX1_layRope_73 (fun v_73 h => ?_)
    refine x_goes (x_runV (As := [.int a2, .int v_73]) (rest := [.int v_67, .int (2 : Int32)]) F hP hS (c_X1_wheelY l D cT lo nb w ad k0 hk0 ha0 a2 v_73) cw_X1_wheelY lk_X1_106 vi_X1_wheelY hk0 (n2 ha0) rfl ⟨rfl, rfl, Nat.le_of_ble_eq_true rfl, Nat.le_of_ble_eq_true rfl⟩ hl.1 rfl (Nat.le_of_ble_eq_true rfl) dX1_layRope_76 ⟨Nat.zero_le _, Nat.zero_le _⟩) hS (fun H locs hP hS _ => ?_)
    refine lv_iadd hx hb dX1_layRope_79 ?_
    refine lv_imul hx hb dX1_layRope_80 ?_
    refine lv_iload hx hb dX1_layRope_81 (lv_at hl 1 rfl) ?_
    refine lv_iload hx hb dX1_layRope_83 (lv_at hl 2 rfl) ?_
    refine lv_imul hx hb dX1_layRope_85 ?_
    refine lv_iadd hx hb dX1_layRope_86 ?_
    refine y_let h (fun v_87 h => ?_)
    refine lv_istore (lv' := [(8, .int v_87), (7, .int v_63), (6, .int v_38), (5, .int v_31), (4, .int v_25), (3, .int v_20), (0, .ref (ad k0)), (1, .ref (ad a1)), (2, .int a2)]) hx hb dX1_layRope_87 hl (Nat.le_of_ble_eq_true rfl) rfl (fun ls hl => ?_)
    refine lv_aload_n hx hb dX1_layRope_89 rfl (lv_at hl 7 rfl) ?_
    refine lv_iload hx hb dX1_layRope_90 (lv_at hl 1 rfl) ?_
    refine lv_iload hx hb dX1_layRope_92 (lv_at hl 0 rfl) ?_
    refine lv_iload hx hb dX1_layRope_94 (lv_at hl 4 rfl) ?_
    refine lv_iload hx hb dX1_layRope_96 (lv_at hl 3 rfl) ?_
    refine lv_iload hx hb dX1_layRope_98 (lv_at hl 2 rfl) ?_
    refine lv_iconst (v := 0) hx hb dX1_layRope_100 ic_0 ?_
    obtain ⟨w_101, hc_101, h⟩ := bo_s h
    refine x_goes (x_runV (As := [.int v_63, .int v_87, .int v_25, .int v_31, .int v_38, .int (0 : Int32)]) (rest := []) F hP hS (c_X5_lay l D cT lo nb w ad a1 hk1 ha1 v_63 v_87 v_25 v_31 v_38 (0 : Int32) w_101 hc_101) cw_X5_lay lk_X1_76 vi_X5_lay hk1 (n2 ha1) rfl ⟨rfl, rfl, Nat.le_of_ble_eq_true rfl, Nat.le_of_ble_eq_true rfl⟩ hl.1 rfl (Nat.le_of_ble_eq_true rfl) dX1_layRope_101 ⟨Nat.zero_le _, Nat.zero_le _⟩) hS (fun H locs hP hS hm => ?_)
    have hM_w := hm
    have ha0 := hm.2 _ ha0
    have ha1 := hm.2 _ ha1
    have ha_k0_11 := hm.2 _ ha_k0_11
    exact y_vret h F hr hP hS hM_w hlk dX1_layRope_104
  · have h := if_t _ hc h
    exact y_vret h F hr hP hS mono.refl hlk dX1_layRope_9
def f_X1_tell (w : Wd) (k0 : Nat) (a1 : Int32) : Int32 :=
if a1 = 0 then
wS w k0 0
else if a1 = 1 then
wS w k0 1
else if a1 = 2 then
wS w k0 2
else if a1 = 3 then
wS w k0 3
else if a1 = 4 then
wS w k0 7
else if a1 = 5 then
if (wS w k0 12) = 0 then
(-2147483648 : Int32)
else
wS w k0 9
else if a1 = 6 then
if (wS w k0 12) = 0 then
(-2147483648 : Int32)
else
wS w k0 10
else if a1 = 7 then
if (wS w k0 12) = 0 then
(-2147483648 : Int32)
else
wS w k0 11
else if a1 = 8 then
wS w k0 13
else if a1 = 9 then
if (wS w k0 12) = 0 then
(0 : Int32)
else
(1 : Int32)
else 
(-2147483648 : Int32)
set_option maxRecDepth 100000 in
set_option maxHeartbeats 4000000 in
theorem c_X1_tell (l : Launch) (D : va_G) (cT : Nat → ClassId) (lo nb : Nat) (w : Wd) (ad : Nat → Nat) (k0 : Nat) (hk0 : kt k0 = (11, 0)) (ha0 : wA w k0 = 2) (a1 : Int32) : Met l yX1_tell (.code yX1_tell cX1_tell 2 (some .int) :: TW) { frames := 0, cells := 0, slots := 0, locals := 0 } (mPc D cT lo nb w ad [.ref (ad k0), .int a1]) (mQ D cT lo nb w w ad (some (.int (f_X1_tell w k0 a1)))) 0 0 (fun q => lo ≤ q) := by
  obtain ⟨r, h⟩ : ∃ r, f_X1_tell w k0 a1 = r := ⟨_, rfl⟩
  rw [h]
  unfold f_X1_tell at h
  refine x_met (lv := [(0, .ref (ad k0)), (1, .int a1)]) (by decide +kernel) (Nat.le_of_ble_eq_true rfl) rfl ?_
  intro p e s m args below meth c ls F hr hlk hP hin hl
  have hx := F.1
  have hb := F.2.1
  have hS : va_S (fun q => lo ≤ q) s.heap s.heap [] := va_S.rf
  refine lv_iload_n hx hb dX1_tell_0 rfl (lv_at hl 1 rfl) ?_
  by_cases hc0 : a1 = 0
  · have h := if_t _ hc0 h
    refine lv_tableIn (off := 55) (tgt := 56) hx hb dX1_tell_1 (by rw [hc0]; decide) (by rw [hc0]; decide) (by rw [hc0]; rfl) (by decide) ?_
    refine lv_aload_n hx hb dX1_tell_56 rfl (lv_at hl 0 rfl) ?_
    refine x_geti F hP hk0 (n2 ha0) fl_X1_36 rfl dX1_tell_57 ?_
    exact y_iretP h F hr hP hS hlk dX1_tell_60
  have h := if_f _ hc0 h
  by_cases hc1 : a1 = 1
  · have h := if_t _ hc1 h
    refine lv_tableIn (off := 60) (tgt := 61) hx hb dX1_tell_1 (by rw [hc1]; decide) (by rw [hc1]; decide) (by rw [hc1]; rfl) (by decide) ?_
    refine lv_aload_n hx hb dX1_tell_61 rfl (lv_at hl 0 rfl) ?_
    refine x_geti F hP hk0 (n2 ha0) fl_X1_40 rfl dX1_tell_62 ?_
    exact y_iretP h F hr hP hS hlk dX1_tell_65
  have h := if_f _ hc1 h
  by_cases hc2 : a1 = 2
  · have h := if_t _ hc2 h
    refine lv_tableIn (off := 65) (tgt := 66) hx hb dX1_tell_1 (by rw [hc2]; decide) (by rw [hc2]; decide) (by rw [hc2]; rfl) (by decide) ?_
    refine lv_aload_n hx hb dX1_tell_66 rfl (lv_at hl 0 rfl) ?_
    refine x_geti F hP hk0 (n2 ha0) fl_X1_43 rfl dX1_tell_67 ?_
    exact y_iretP h F hr hP hS hlk dX1_tell_70
  have h := if_f _ hc2 h
  by_cases hc3 : a1 = 3
  · have h := if_t _ hc3 h
    refine lv_tableIn (off := 70) (tgt := 71) hx hb dX1_tell_1 (by rw [hc3]; decide) (by rw [hc3]; decide) (by rw [hc3]; rfl) (by decide) ?_
    refine lv_aload_n hx hb dX1_tell_71 rfl (lv_at hl 0 rfl) ?_
    refine x_geti F hP hk0 (n2 ha0) fl_X1_46 rfl dX1_tell_72 ?_
    exact y_iretP h F hr hP hS hlk dX1_tell_75
  have h := if_f _ hc3 h
  by_cases hc4 : a1 = 4
  · have h := if_t _ hc4 h
    refine lv_tableIn (off := 75) (tgt := 76) hx hb dX1_tell_1 (by rw [hc4]; decide) (by rw [hc4]; decide) (by rw [hc4]; rfl) (by decide) ?_
    refine lv_aload_n hx hb dX1_tell_76 rfl (lv_at hl 0 rfl) ?_
    refine x_geti F hP hk0 (n2 ha0) fl_X1_60 rfl dX1_tell_77 ?_
    exact y_iretP h F hr hP hS hlk dX1_tell_80
  have h := if_f _ hc4 h
  by_cases hc5 : a1 = 5
  · have h := if_t _ hc5 h
    refine lv_tableIn (off := 80) (tgt := 81) hx hb dX1_tell_1 (by rw [hc5]; decide) (by rw [hc5]; decide) (by rw [hc5]; rfl) (by decide) ?_
    refine lv_aload_n hx hb dX1_tell_81 rfl (lv_at hl 0 rfl) ?_
    refine x_geti F hP hk0 (n2 ha0) fl_X1_89 rfl dX1_tell_82 ?_
    refine lv_if_eq (tgt := 95) hx hb dX1_tell_85 (by decide) (fun hc => ?_) (fun hc => ?_)
    · have h := if_t _ hc h
      refine lv_ldc F.1 F.2.1 F.2.2.1 (F.2.2.2.1 _ ct_X1_109) dX1_tell_95 ?_
      exact y_iretP h F hr hP hS hlk dX1_tell_97
    · have h := if_f _ hc h
      refine lv_aload_n hx hb dX1_tell_88 rfl (lv_at hl 0 rfl) ?_
      refine x_geti F hP hk0 (n2 ha0) fl_X1_80 rfl dX1_tell_89 ?_
      refine lv_goto (tgt := 97) hx hb dX1_tell_92 (by decide) ?_
      exact y_iretP h F hr hP hS hlk dX1_tell_97
  have h := if_f _ hc5 h
  by_cases hc6 : a1 = 6
  · have h := if_t _ hc6 h
    refine lv_tableIn (off := 97) (tgt := 98) hx hb dX1_tell_1 (by rw [hc6]; decide) (by rw [hc6]; decide) (by rw [hc6]; rfl) (by decide) ?_
    refine lv_aload_n hx hb dX1_tell_98 rfl (lv_at hl 0 rfl) ?_
    refine x_geti F hP hk0 (n2 ha0) fl_X1_89 rfl dX1_tell_99 ?_
    refine lv_if_eq (tgt := 112) hx hb dX1_tell_102 (by decide) (fun hc => ?_) (fun hc => ?_)
    · have h := if_t _ hc h
      refine lv_ldc F.1 F.2.1 F.2.2.1 (F.2.2.2.1 _ ct_X1_109) dX1_tell_112 ?_
      exact y_iretP h F hr hP hS hlk dX1_tell_114
    · have h := if_f _ hc h
      refine lv_aload_n hx hb dX1_tell_105 rfl (lv_at hl 0 rfl) ?_
      refine x_geti F hP hk0 (n2 ha0) fl_X1_83 rfl dX1_tell_106 ?_
      refine lv_goto (tgt := 114) hx hb dX1_tell_109 (by decide) ?_
      exact y_iretP h F hr hP hS hlk dX1_tell_114
  have h := if_f _ hc6 h
  by_cases hc7 : a1 = 7
  · have h := if_t _ hc7 h
    refine lv_tableIn (off := 114) (tgt := 115) hx hb dX1_tell_1 (by rw [hc7]; decide) (by rw [hc7]; decide) (by rw [hc7]; rfl) (by decide) ?_
    refine lv_aload_n hx hb dX1_tell_115 rfl (lv_at hl 0 rfl) ?_
    refine x_geti F hP hk0 (n2 ha0) fl_X1_89 rfl dX1_tell_116 ?_
    refine lv_if_eq (tgt := 129) hx hb dX1_tell_119 (by decide) (fun hc => ?_) (fun hc => ?_)
    · have h := if_t _ hc h
      refine lv_ldc F.1 F.2.1 F.2.2.1 (F.2.2.2.1 _ ct_X1_109) dX1_tell_129 ?_
      exact y_iretP h F hr hP hS hlk dX1_tell_131
    · have h := if_f _ hc h
      refine lv_aload_n hx hb dX1_tell_122 rfl (lv_at hl 0 rfl) ?_
      refine x_geti F hP hk0 (n2 ha0) fl_X1_86 rfl dX1_tell_123 ?_
      refine lv_goto (tgt := 131) hx hb dX1_tell_126 (by decide) ?_
      exact y_iretP h F hr hP hS hlk dX1_tell_131
  have h := if_f _ hc7 h
  by_cases hc8 : a1 = 8
  · have h := if_t _ hc8 h
    refine lv_tableIn (off := 131) (tgt := 132) hx hb dX1_tell_1 (by rw [hc8]; decide) (by rw [hc8]; decide) (by rw [hc8]; rfl) (by decide) ?_
    refine lv_aload_n hx hb dX1_tell_132 rfl (lv_at hl 0 rfl) ?_
    refine x_geti F hP hk0 (n2 ha0) fl_X1_110 rfl dX1_tell_133 ?_
    exact y_iretP h F hr hP hS hlk dX1_tell_136
  have h := if_f _ hc8 h
  by_cases hc9 : a1 = 9
  · have h := if_t _ hc9 h
    refine lv_tableIn (off := 136) (tgt := 137) hx hb dX1_tell_1 (by rw [hc9]; decide) (by rw [hc9]; decide) (by rw [hc9]; rfl) (by decide) ?_
    refine lv_aload_n hx hb dX1_tell_137 rfl (lv_at hl 0 rfl) ?_
    refine x_geti F hP hk0 (n2 ha0) fl_X1_89 rfl dX1_tell_138 ?_
    refine lv_if_eq (tgt := 148) hx hb dX1_tell_141 (by decide) (fun hc => ?_) (fun hc => ?_)
    · have h := if_t _ hc h
      refine lv_iconst (v := 0) hx hb dX1_tell_148 ic_0 ?_
      exact y_iretP h F hr hP hS hlk dX1_tell_149
    · have h := if_f _ hc h
      refine lv_iconst (v := 1) hx hb dX1_tell_144 ic_1 ?_
      refine lv_goto (tgt := 149) hx hb dX1_tell_145 (by decide) ?_
      exact y_iretP h F hr hP hS hlk dX1_tell_149
  have h := if_f _ hc9 h
  refine lv_tableOut (tgt := 150) hx hb dX1_tell_1 (tab_out [(0 : Int32), (1 : Int32), (2 : Int32), (3 : Int32), (4 : Int32), (5 : Int32), (6 : Int32), (7 : Int32), (8 : Int32), (9 : Int32)] (by decide) (by simp [hc0, hc1, hc2, hc3, hc4, hc5, hc6, hc7, hc8, hc9])) (by decide) ?_
  refine lv_ldc F.1 F.2.1 F.2.2.1 (F.2.2.2.1 _ ct_X1_109) dX1_tell_150 ?_
  exact y_iretP h F hr hP hS hlk dX1_tell_152
def f_X5_touchesBox (w : Wd) (k0 : Nat) (a1 : Nat) (a2 : Int32) : Int32 :=
q_lt ((65 : Int32) * (((wS w a1 2) - (wS w a1 0)) + ((2 : Int32) * a2))) (fun v_16 =>
q_lt ((65 : Int32) * (((wS w a1 3) - (wS w a1 1)) + ((2 : Int32) * a2))) (fun v_33 =>
q_lt ((wS w k0 0) - ((65 : Int32) * ((wS w a1 0) + (wS w a1 2)))) (fun v_52 =>
q_lt ((wS w k0 1) - ((65 : Int32) * ((wS w a1 1) + (wS w a1 3)))) (fun v_71 =>
if ((wS w k0 6) + v_16) ≤ (f_J9_abs_0f7a4 v_52) then
(0 : Int32)
else
if (f_J9_abs_0f7a4 v_71) < ((wS w k0 7) + v_33) then
if ((((wS w k0 4) * (4225 : Int32)) + (v_16 * (f_J9_abs_0f7a4 (wS w k0 2)))) + (v_33 * (f_J9_abs_0f7a4 (wS w k0 3)))) ≤ (f_J9_abs_0f7a4 ((v_52 * (wS w k0 2)) + (v_71 * (wS w k0 3)))) then
(0 : Int32)
else
if ((((wS w k0 5) * (4225 : Int32)) + (v_16 * (f_J9_abs_0f7a4 (wS w k0 3)))) + (v_33 * (f_J9_abs_0f7a4 (wS w k0 2)))) ≤ (f_J9_abs_0f7a4 ((v_71 * (wS w k0 2)) - (v_52 * (wS w k0 3)))) then
(0 : Int32)
else
(1 : Int32)
else
(0 : Int32)))))
set_option maxRecDepth 100000 in
set_option maxHeartbeats 4000000 in
theorem c_X5_touchesBox (l : Launch) (D : va_G) (cT : Nat → ClassId) (lo nb : Nat) (w : Wd) (ad : Nat → Nat) (k0 : Nat) (hk0 : kt k0 = (15, 0)) (ha0 : wA w k0 = 2) (a1 : Nat) (hk1 : kt a1 = (10, 0)) (ha1 : wA w a1 = 2) (a2 : Int32) : Met l yX5_touchesBox (.code yX5_touchesBox cX5_touchesBox 9 (some .boolean) :: TW) { frames := 1, cells := 0, slots := 0, locals := 20 } (mPc D cT lo nb w ad [.ref (ad k0), .ref (ad a1), .int a2]) (mQz D cT lo nb w w ad (f_X5_touchesBox w k0 a1 a2)) 0 0 (fun q => lo ≤ q) := by
  obtain ⟨r, h⟩ : ∃ r, f_X5_touchesBox w k0 a1 a2 = r := ⟨_, rfl⟩
  rw [h]
  unfold f_X5_touchesBox at h
  refine x_met (lv := [(0, .ref (ad k0)), (1, .ref (ad a1)), (2, .int a2)]) (by decide +kernel) (Nat.le_of_ble_eq_true rfl) rfl ?_
  intro p e s m args below meth c ls F hr hlk hP hin hl
  have hx := F.1
  have hb := F.2.1
  have hS : va_S (fun q => lo ≤ q) s.heap s.heap [] := va_S.rf
  refine lv_bipush (v := 65) hx hb dX5_touchesBox_0 ib_65 ?_
  refine lv_aload_n hx hb dX5_touchesBox_2 rfl (lv_at hl 1 rfl) ?_
  refine x_geti F hP hk1 (n2 ha1) fl_X5_42 rfl dX5_touchesBox_3 ?_
  refine lv_aload_n hx hb dX5_touchesBox_6 rfl (lv_at hl 1 rfl) ?_
  refine x_geti F hP hk1 (n2 ha1) fl_X5_47 rfl dX5_touchesBox_7 ?_
  refine lv_isub hx hb dX5_touchesBox_10 ?_
  refine lv_iconst (v := 2) hx hb dX5_touchesBox_11 ic_2 ?_
  refine lv_iload_n hx hb dX5_touchesBox_12 rfl (lv_at hl 2 rfl) ?_
  refine lv_imul hx hb dX5_touchesBox_13 ?_
  refine lv_iadd hx hb dX5_touchesBox_14 ?_
  refine lv_imul hx hb dX5_touchesBox_15 ?_
  refine y_let h (fun v_16 h => ?_)
  refine lv_istore_n (lv' := [(3, .int v_16), (0, .ref (ad k0)), (1, .ref (ad a1)), (2, .int a2)]) hx hb dX5_touchesBox_16 rfl hl (Nat.le_of_ble_eq_true rfl) rfl (fun ls hl => ?_)
  refine lv_bipush (v := 65) hx hb dX5_touchesBox_17 ib_65 ?_
  refine lv_aload_n hx hb dX5_touchesBox_19 rfl (lv_at hl 2 rfl) ?_
  refine x_geti F hP hk1 (n2 ha1) fl_X5_50 rfl dX5_touchesBox_20 ?_
  refine lv_aload_n hx hb dX5_touchesBox_23 rfl (lv_at hl 2 rfl) ?_
  refine x_geti F hP hk1 (n2 ha1) fl_X5_53 rfl dX5_touchesBox_24 ?_
  refine lv_isub hx hb dX5_touchesBox_27 ?_
  refine lv_iconst (v := 2) hx hb dX5_touchesBox_28 ic_2 ?_
  refine lv_iload_n hx hb dX5_touchesBox_29 rfl (lv_at hl 3 rfl) ?_
  refine lv_imul hx hb dX5_touchesBox_30 ?_
  refine lv_iadd hx hb dX5_touchesBox_31 ?_
  refine lv_imul hx hb dX5_touchesBox_32 ?_
  refine y_let h (fun v_33 h => ?_)
  refine lv_istore (lv' := [(4, .int v_33), (3, .int v_16), (0, .ref (ad k0)), (1, .ref (ad a1)), (2, .int a2)]) hx hb dX5_touchesBox_33 hl (Nat.le_of_ble_eq_true rfl) rfl (fun ls hl => ?_)
  refine lv_aload_n hx hb dX5_touchesBox_35 rfl (lv_at hl 2 rfl) ?_
  refine x_geti F hP hk0 (n2 ha0) fl_X5_9 rfl dX5_touchesBox_36 ?_
  refine lv_bipush (v := 65) hx hb dX5_touchesBox_39 ib_65 ?_
  refine lv_aload_n hx hb dX5_touchesBox_41 rfl (lv_at hl 3 rfl) ?_
  refine x_geti F hP hk1 (n2 ha1) fl_X5_47 rfl dX5_touchesBox_42 ?_
  refine lv_aload_n hx hb dX5_touchesBox_45 rfl (lv_at hl 3 rfl) ?_
  refine x_geti F hP hk1 (n2 ha1) fl_X5_42 rfl dX5_touchesBox_46 ?_
  refine lv_iadd hx hb dX5_touchesBox_49 ?_
  refine lv_imul hx hb dX5_touchesBox_50 ?_
  refine lv_isub hx hb dX5_touchesBox_51 ?_
  refine y_let h (fun v_52 h => ?_)
  refine lv_istore (lv' := [(5, .int v_52), (4, .int v_33), (3, .int v_16), (0, .ref (ad k0)), (1, .ref (ad a1)), (2, .int a2)]) hx hb dX5_touchesBox_52 hl (Nat.le_of_ble_eq_true rfl) rfl (fun ls hl => ?_)
  refine lv_aload_n hx hb dX5_touchesBox_54 rfl (lv_at hl 3 rfl) ?_
  refine x_geti F hP hk0 (n2 ha0) fl_X5_15 rfl dX5_touchesBox_55 ?_
  refine lv_bipush (v := 65) hx hb dX5_touchesBox_58 ib_65 ?_
  refine lv_aload_n hx hb dX5_touchesBox_60 rfl (lv_at hl 4 rfl) ?_
  refine x_geti F hP hk1 (n2 ha1) fl_X5_53 rfl dX5_touchesBox_61 ?_
  refine lv_aload_n hx hb dX5_touchesBox_64 rfl (lv_at hl 4 rfl) ?_
  refine x_geti F hP hk1 (n2 ha1) fl_X5_50 rfl dX5_touchesBox_65 ?_
  refine lv_iadd hx hb dX5_touchesBox_68 ?_
  refine lv_imul hx hb dX5_touchesBox_69 ?_
  refine lv_isub hx hb dX5_touchesBox_70 ?_
  refine y_let h (fun v_71 h => ?_)
  refine lv_istore (lv' := [(6, .int v_71), (5, .int v_52), (4, .int v_33), (3, .int v_16), (0, .ref (ad k0)), (1, .ref (ad a1)), (2, .int a2)]) hx hb dX5_touchesBox_71 hl (Nat.le_of_ble_eq_true rfl) rfl (fun ls hl => ?_)
  refine lv_iload hx hb dX5_touchesBox_73 (lv_at hl 1 rfl) ?_
  refine x_goes (x_runS (As := [.int v_52]) (rest := []) F hP hS (c_J9_abs_0f7a4 l D cT lo nb w ad v_52) cw_J9_abs_0f7a4 lk_X5_30 st_J9_abs_0f7a4 ⟨rfl, rfl, Nat.le_of_ble_eq_true rfl, Nat.le_of_ble_eq_true rfl⟩ hl.1 rfl (Nat.le_of_ble_eq_true rfl) dX5_touchesBox_75 ⟨Nat.zero_le _, Nat.zero_le _⟩) hS (fun H locs hP hS _ => ?_)
  refine lv_aload_n hx hb dX5_touchesBox_78 rfl (lv_at hl 4 rfl) ?_
  refine x_geti F hP hk0 (n2 ha0) fl_X5_36 rfl dX5_touchesBox_79 ?_
  refine lv_iload_n hx hb dX5_touchesBox_82 rfl (lv_at hl 3 rfl) ?_
  refine lv_iadd hx hb dX5_touchesBox_83 ?_
  refine lv_icmp_ge (tgt := 102) hx hb dX5_touchesBox_84 (by decide) (fun hc => ?_) (fun hc => ?_)
  · have h := if_t _ hc h
    refine lv_iconst (v := 0) hx hb dX5_touchesBox_102 ic_0 ?_
    exact y_zretP h F hr hP hS hlk rfl dX5_touchesBox_103
  · have h := if_f _ hc h
    refine lv_iload hx hb dX5_touchesBox_87 (lv_at hl 0 rfl) ?_
    refine x_goes (x_runS (As := [.int v_71]) (rest := []) F hP hS (c_J9_abs_0f7a4 l D cT lo nb w ad v_71) cw_J9_abs_0f7a4 lk_X5_30 st_J9_abs_0f7a4 ⟨rfl, rfl, Nat.le_of_ble_eq_true rfl, Nat.le_of_ble_eq_true rfl⟩ hl.1 rfl (Nat.le_of_ble_eq_true rfl) dX5_touchesBox_89 ⟨Nat.zero_le _, Nat.zero_le _⟩) hS (fun H locs hP hS _ => ?_)
    refine lv_aload_n hx hb dX5_touchesBox_92 rfl (lv_at hl 4 rfl) ?_
    refine x_geti F hP hk0 (n2 ha0) fl_X5_39 rfl dX5_touchesBox_93 ?_
    refine lv_iload hx hb dX5_touchesBox_96 (lv_at hl 2 rfl) ?_
    refine lv_iadd hx hb dX5_touchesBox_98 ?_
    refine lv_icmp_lt (tgt := 104) hx hb dX5_touchesBox_99 (by decide) (fun hc => ?_) (fun hc => ?_)
    · have h := if_t _ hc h
      refine lv_aload_n hx hb dX5_touchesBox_104 rfl (lv_at hl 4 rfl) ?_
      refine x_geti F hP hk0 (n2 ha0) fl_X5_18 rfl dX5_touchesBox_105 ?_
      refine x_goes (x_runS (As := [.int (wS w k0 2)]) (rest := []) F hP hS (c_J9_abs_0f7a4 l D cT lo nb w ad (wS w k0 2)) cw_J9_abs_0f7a4 lk_X5_30 st_J9_abs_0f7a4 ⟨rfl, rfl, Nat.le_of_ble_eq_true rfl, Nat.le_of_ble_eq_true rfl⟩ hl.1 rfl (Nat.le_of_ble_eq_true rfl) dX5_touchesBox_108 ⟨Nat.zero_le _, Nat.zero_le _⟩) hS (fun H locs hP hS _ => ?_)
      refine lv_istore (lv' := [(7, .int (f_J9_abs_0f7a4 (wS w k0 2))), (6, .int v_71), (5, .int v_52), (4, .int v_33), (3, .int v_16), (0, .ref (ad k0)), (1, .ref (ad a1)), (2, .int a2)]) hx hb dX5_touchesBox_111 hl (Nat.le_of_ble_eq_true rfl) rfl (fun ls hl => ?_)
      refine lv_aload_n hx hb dX5_touchesBox_113 rfl (lv_at hl 5 rfl) ?_
      refine x_geti F hP hk0 (n2 ha0) fl_X5_21 rfl dX5_touchesBox_114 ?_
      refine x_goes (x_runS (As := [.int (wS w k0 3)]) (rest := []) F hP hS (c_J9_abs_0f7a4 l D cT lo nb w ad (wS w k0 3)) cw_J9_abs_0f7a4 lk_X5_30 st_J9_abs_0f7a4 ⟨rfl, rfl, Nat.le_of_ble_eq_true rfl, Nat.le_of_ble_eq_true rfl⟩ hl.1 rfl (Nat.le_of_ble_eq_true rfl) dX5_touchesBox_117 ⟨Nat.zero_le _, Nat.zero_le _⟩) hS (fun H locs hP hS _ => ?_)
      refine lv_istore (lv' := [(8, .int (f_J9_abs_0f7a4 (wS w k0 3))), (7, .int (f_J9_abs_0f7a4 (wS w k0 2))), (6, .int v_71), (5, .int v_52), (4, .int v_33), (3, .int v_16), (0, .ref (ad k0)), (1, .ref (ad a1)), (2, .int a2)]) hx hb dX5_touchesBox_120 hl (Nat.le_of_ble_eq_true rfl) rfl (fun ls hl => ?_)
      refine lv_iload hx hb dX5_touchesBox_122 (lv_at hl 3 rfl) ?_
      refine lv_aload_n hx hb dX5_touchesBox_124 rfl (lv_at hl 6 rfl) ?_
      refine x_geti F hP hk0 (n2 ha0) fl_X5_18 rfl dX5_touchesBox_125 ?_
      refine lv_imul hx hb dX5_touchesBox_128 ?_
      refine lv_iload hx hb dX5_touchesBox_129 (lv_at hl 2 rfl) ?_
      refine lv_aload_n hx hb dX5_touchesBox_131 rfl (lv_at hl 6 rfl) ?_
      refine x_geti F hP hk0 (n2 ha0) fl_X5_21 rfl dX5_touchesBox_132 ?_
      refine lv_imul hx hb dX5_touchesBox_135 ?_
      refine lv_iadd hx hb dX5_touchesBox_136 ?_
      refine x_goes (x_runS (As := [.int ((v_52 * (wS w k0 2)) + (v_71 * (wS w k0 3)))]) (rest := []) F hP hS (c_J9_abs_0f7a4 l D cT lo nb w ad ((v_52 * (wS w k0 2)) + (v_71 * (wS w k0 3)))) cw_J9_abs_0f7a4 lk_X5_30 st_J9_abs_0f7a4 ⟨rfl, rfl, Nat.le_of_ble_eq_true rfl, Nat.le_of_ble_eq_true rfl⟩ hl.1 rfl (Nat.le_of_ble_eq_true rfl) dX5_touchesBox_137 ⟨Nat.zero_le _, Nat.zero_le _⟩) hS (fun H locs hP hS _ => ?_)
      refine lv_aload_n hx hb dX5_touchesBox_140 rfl (lv_at hl 6 rfl) ?_
      refine x_geti F hP hk0 (n2 ha0) fl_X5_24 rfl dX5_touchesBox_141 ?_
      refine lv_sipush (v := 4225) hx hb dX5_touchesBox_144 is_4225 ?_
      refine lv_imul hx hb dX5_touchesBox_147 ?_
      refine lv_iload_n hx hb dX5_touchesBox_148 rfl (lv_at hl 5 rfl) ?_
      refine lv_iload hx hb dX5_touchesBox_149 (lv_at hl 1 rfl) ?_
      refine lv_imul hx hb dX5_touchesBox_151 ?_
      refine lv_iadd hx hb dX5_touchesBox_152 ?_
      refine lv_iload hx hb dX5_touchesBox_153 (lv_at hl 4 rfl) ?_
      refine lv_iload hx hb dX5_touchesBox_155 (lv_at hl 0 rfl) ?_
      refine lv_imul hx hb dX5_touchesBox_157 ?_
      refine lv_iadd hx hb dX5_touchesBox_158 ?_
      refine lv_icmp_ge (tgt := 206) hx hb dX5_touchesBox_159 (by decide) (fun hc => ?_) (fun hc => ?_)
      · have h := if_t _ hc h
        refine lv_iconst (v := 0) hx hb dX5_touchesBox_206 ic_0 ?_
        exact y_zretP h F hr hP hS hlk rfl dX5_touchesBox_207
      · have h := if_f _ hc h
        refine lv_iload hx hb dX5_touchesBox_162 (lv_at hl 2 rfl) ?_
        refine lv_aload_n hx hb dX5_touchesBox_164 rfl (lv_at hl 6 rfl) ?_
        refine x_geti F hP hk0 (n2 ha0) fl_X5_18 rfl dX5_touchesBox_165 ?_
        refine lv_imul hx hb dX5_touchesBox_168 ?_
        refine lv_iload hx hb dX5_touchesBox_169 (lv_at hl 3 rfl) ?_
        refine lv_aload_n hx hb dX5_touchesBox_171 rfl (lv_at hl 6 rfl) ?_
        refine x_geti F hP hk0 (n2 ha0) fl_X5_21 rfl dX5_touchesBox_172 ?_
        refine lv_imul hx hb dX5_touchesBox_175 ?_
        refine lv_isub hx hb dX5_touchesBox_176 ?_
        refine x_goes (x_runS (As := [.int ((v_71 * (wS w k0 2)) - (v_52 * (wS w k0 3)))]) (rest := []) F hP hS (c_J9_abs_0f7a4 l D cT lo nb w ad ((v_71 * (wS w k0 2)) - (v_52 * (wS w k0 3)))) cw_J9_abs_0f7a4 lk_X5_30 st_J9_abs_0f7a4 ⟨rfl, rfl, Nat.le_of_ble_eq_true rfl, Nat.le_of_ble_eq_true rfl⟩ hl.1 rfl (Nat.le_of_ble_eq_true rfl) dX5_touchesBox_177 ⟨Nat.zero_le _, Nat.zero_le _⟩) hS (fun H locs hP hS _ => ?_)
        refine lv_aload_n hx hb dX5_touchesBox_180 rfl (lv_at hl 6 rfl) ?_
        refine x_geti F hP hk0 (n2 ha0) fl_X5_27 rfl dX5_touchesBox_181 ?_
        refine lv_sipush (v := 4225) hx hb dX5_touchesBox_184 is_4225 ?_
        refine lv_imul hx hb dX5_touchesBox_187 ?_
        refine lv_iload_n hx hb dX5_touchesBox_188 rfl (lv_at hl 5 rfl) ?_
        refine lv_iload hx hb dX5_touchesBox_189 (lv_at hl 0 rfl) ?_
        refine lv_imul hx hb dX5_touchesBox_191 ?_
        refine lv_iadd hx hb dX5_touchesBox_192 ?_
        refine lv_iload hx hb dX5_touchesBox_193 (lv_at hl 4 rfl) ?_
        refine lv_iload hx hb dX5_touchesBox_195 (lv_at hl 1 rfl) ?_
        refine lv_imul hx hb dX5_touchesBox_197 ?_
        refine lv_iadd hx hb dX5_touchesBox_198 ?_
        refine lv_icmp_ge (tgt := 206) hx hb dX5_touchesBox_199 (by decide) (fun hc => ?_) (fun hc => ?_)
        · have h := if_t _ hc h
          refine lv_iconst (v := 0) hx hb dX5_touchesBox_206 ic_0 ?_
          exact y_zretP h F hr hP hS hlk rfl dX5_touchesBox_207
        · have h := if_f _ hc h
          refine lv_iconst (v := 1) hx hb dX5_touchesBox_202 ic_1 ?_
          refine lv_goto (tgt := 207) hx hb dX5_touchesBox_203 (by decide) ?_
          exact y_zretP h F hr hP hS hlk rfl dX5_touchesBox_207
    · have h := if_f _ hc h
      refine lv_iconst (v := 0) hx hb dX5_touchesBox_102 ic_0 ?_
      exact y_zretP h F hr hP hS hlk rfl dX5_touchesBox_103
def f_X5_liesApartFrom (w : Wd) (k0 : Nat) (a1 : Nat) : Int32 :=
q_lt (f_J9_abs_0f7a4 (((wS w k0 2) * (wS w a1 2)) + ((wS w k0 3) * (wS w a1 3)))) (fun v_42 =>
q_lt (f_J9_abs_0f7a4 (((wS w k0 2) * (wS w a1 3)) - ((wS w k0 3) * (wS w a1 2)))) (fun v_66 =>
if ((((wS w k0 4) * (4225 : Int32)) + ((wS w a1 4) * v_42)) + ((wS w a1 5) * v_66)) ≤ (f_J9_abs_0f7a4 ((((wS w a1 0) - (wS w k0 0)) * (wS w k0 2)) + (((wS w a1 1) - (wS w k0 1)) * (wS w k0 3)))) then
(1 : Int32)
else
if (f_J9_abs_0f7a4 ((((wS w a1 1) - (wS w k0 1)) * (wS w k0 2)) - (((wS w a1 0) - (wS w k0 0)) * (wS w k0 3)))) < ((((wS w k0 5) * (4225 : Int32)) + ((wS w a1 4) * v_66)) + ((wS w a1 5) * v_42)) then
(0 : Int32)
else
(1 : Int32)))
set_option maxRecDepth 100000 in
set_option maxHeartbeats 4000000 in
theorem c_X5_liesApartFrom (l : Launch) (D : va_G) (cT : Nat → ClassId) (lo nb : Nat) (w : Wd) (ad : Nat → Nat) (k0 : Nat) (hk0 : kt k0 = (15, 0)) (ha0 : wA w k0 = 2) (a1 : Nat) (hk1 : kt a1 = (15, 0)) (ha1 : wA w a1 = 2) : Met l yX5_liesApartFrom (.code yX5_liesApartFrom cX5_liesApartFrom 6 (some .boolean) :: TW) { frames := 1, cells := 0, slots := 0, locals := 20 } (mPc D cT lo nb w ad [.ref (ad k0), .ref (ad a1)]) (mQz D cT lo nb w w ad (f_X5_liesApartFrom w k0 a1)) 0 0 (fun q => lo ≤ q) := by
  obtain ⟨r, h⟩ : ∃ r, f_X5_liesApartFrom w k0 a1 = r := ⟨_, rfl⟩
  rw [h]
  unfold f_X5_liesApartFrom at h
  refine x_met (lv := [(0, .ref (ad k0)), (1, .ref (ad a1))]) (by decide +kernel) (Nat.le_of_ble_eq_true rfl) rfl ?_
  intro p e s m args below meth c ls F hr hlk hP hin hl
  have hx := F.1
  have hb := F.2.1
  have hS : va_S (fun q => lo ≤ q) s.heap s.heap [] := va_S.rf
  refine lv_aload_n hx hb dX5_liesApartFrom_0 rfl (lv_at hl 1 rfl) ?_
  refine x_geti F hP hk1 (n2 ha1) fl_X5_9 rfl dX5_liesApartFrom_1 ?_
  refine lv_aload_n hx hb dX5_liesApartFrom_4 rfl (lv_at hl 0 rfl) ?_
  refine x_geti F hP hk0 (n2 ha0) fl_X5_9 rfl dX5_liesApartFrom_5 ?_
  refine lv_isub hx hb dX5_liesApartFrom_8 ?_
  refine lv_istore_n (lv' := [(2, .int ((wS w a1 0) - (wS w k0 0))), (0, .ref (ad k0)), (1, .ref (ad a1))]) hx hb dX5_liesApartFrom_9 rfl hl (Nat.le_of_ble_eq_true rfl) rfl (fun ls hl => ?_)
  refine lv_aload_n hx hb dX5_liesApartFrom_10 rfl (lv_at hl 2 rfl) ?_
  refine x_geti F hP hk1 (n2 ha1) fl_X5_15 rfl dX5_liesApartFrom_11 ?_
  refine lv_aload_n hx hb dX5_liesApartFrom_14 rfl (lv_at hl 1 rfl) ?_
  refine x_geti F hP hk0 (n2 ha0) fl_X5_15 rfl dX5_liesApartFrom_15 ?_
  refine lv_isub hx hb dX5_liesApartFrom_18 ?_
  refine lv_istore_n (lv' := [(3, .int ((wS w a1 1) - (wS w k0 1))), (2, .int ((wS w a1 0) - (wS w k0 0))), (0, .ref (ad k0)), (1, .ref (ad a1))]) hx hb dX5_liesApartFrom_19 rfl hl (Nat.le_of_ble_eq_true rfl) rfl (fun ls hl => ?_)
  refine lv_aload_n hx hb dX5_liesApartFrom_20 rfl (lv_at hl 2 rfl) ?_
  refine x_geti F hP hk0 (n2 ha0) fl_X5_18 rfl dX5_liesApartFrom_21 ?_
  refine lv_aload_n hx hb dX5_liesApartFrom_24 rfl (lv_at hl 3 rfl) ?_
  refine x_geti F hP hk1 (n2 ha1) fl_X5_18 rfl dX5_liesApartFrom_25 ?_
  refine lv_imul hx hb dX5_liesApartFrom_28 ?_
  refine lv_aload_n hx hb dX5_liesApartFrom_29 rfl (lv_at hl 2 rfl) ?_
  refine x_geti F hP hk0 (n2 ha0) fl_X5_21 rfl dX5_liesApartFrom_30 ?_
  refine lv_aload_n hx hb dX5_liesApartFrom_33 rfl (lv_at hl 3 rfl) ?_
  refine x_geti F hP hk1 (n2 ha1) fl_X5_21 rfl dX5_liesApartFrom_34 ?_
  refine lv_imul hx hb dX5_liesApartFrom_37 ?_
  refine lv_iadd hx hb dX5_liesApartFrom_38 ?_
  refine x_goes (x_runS (As := [.int (((wS w k0 2) * (wS w a1 2)) + ((wS w k0 3) * (wS w a1 3)))]) (rest := []) F hP hS (c_J9_abs_0f7a4 l D cT lo nb w ad (((wS w k0 2) * (wS w a1 2)) + ((wS w k0 3) * (wS w a1 3)))) cw_J9_abs_0f7a4 lk_X5_30 st_J9_abs_0f7a4 ⟨rfl, rfl, Nat.le_of_ble_eq_true rfl, Nat.le_of_ble_eq_true rfl⟩ hl.1 rfl (Nat.le_of_ble_eq_true rfl) dX5_liesApartFrom_39 ⟨Nat.zero_le _, Nat.zero_le _⟩) hS (fun H locs hP hS _ => ?_)
  refine y_let h (fun v_42 h => ?_)
  refine lv_istore (lv' := [(4, .int v_42), (3, .int ((wS w a1 1) - (wS w k0 1))), (2, .int ((wS w a1 0) - (wS w k0 0))), (0, .ref (ad k0)), (1, .ref (ad a1))]) hx hb dX5_liesApartFrom_42 hl (Nat.le_of_ble_eq_true rfl) rfl (fun ls hl => ?_)
  refine lv_aload_n hx hb dX5_liesApartFrom_44 rfl (lv_at hl 3 rfl) ?_
  refine x_geti F hP hk0 (n2 ha0) fl_X5_18 rfl dX5_liesApartFrom_45 ?_
  refine lv_aload_n hx hb dX5_liesApartFrom_48 rfl (lv_at hl 4 rfl) ?_
  refine x_geti F hP hk1 (n2 ha1) fl_X5_21 rfl dX5_liesApartFrom_49 ?_
  refine lv_imul hx hb dX5_liesApartFrom_52 ?_
  refine lv_aload_n hx hb dX5_liesApartFrom_53 rfl (lv_at hl 3 rfl) ?_
  refine x_geti F hP hk0 (n2 ha0) fl_X5_21 rfl dX5_liesApartFrom_54 ?_
  refine lv_aload_n hx hb dX5_liesApartFrom_57 rfl (lv_at hl 4 rfl) ?_
  refine x_geti F hP hk1 (n2 ha1) fl_X5_18 rfl dX5_liesApartFrom_58 ?_
  refine lv_imul hx hb dX5_liesApartFrom_61 ?_
  refine lv_isub hx hb dX5_liesApartFrom_62 ?_
  refine x_goes (x_runS (As := [.int (((wS w k0 2) * (wS w a1 3)) - ((wS w k0 3) * (wS w a1 2)))]) (rest := []) F hP hS (c_J9_abs_0f7a4 l D cT lo nb w ad (((wS w k0 2) * (wS w a1 3)) - ((wS w k0 3) * (wS w a1 2)))) cw_J9_abs_0f7a4 lk_X5_30 st_J9_abs_0f7a4 ⟨rfl, rfl, Nat.le_of_ble_eq_true rfl, Nat.le_of_ble_eq_true rfl⟩ hl.1 rfl (Nat.le_of_ble_eq_true rfl) dX5_liesApartFrom_63 ⟨Nat.zero_le _, Nat.zero_le _⟩) hS (fun H locs hP hS _ => ?_)
  refine y_let h (fun v_66 h => ?_)
  refine lv_istore (lv' := [(5, .int v_66), (4, .int v_42), (3, .int ((wS w a1 1) - (wS w k0 1))), (2, .int ((wS w a1 0) - (wS w k0 0))), (0, .ref (ad k0)), (1, .ref (ad a1))]) hx hb dX5_liesApartFrom_66 hl (Nat.le_of_ble_eq_true rfl) rfl (fun ls hl => ?_)
  refine lv_iload_n hx hb dX5_liesApartFrom_68 rfl (lv_at hl 3 rfl) ?_
  refine lv_aload_n hx hb dX5_liesApartFrom_69 rfl (lv_at hl 4 rfl) ?_
  refine x_geti F hP hk0 (n2 ha0) fl_X5_18 rfl dX5_liesApartFrom_70 ?_
  refine lv_imul hx hb dX5_liesApartFrom_73 ?_
  refine lv_iload_n hx hb dX5_liesApartFrom_74 rfl (lv_at hl 2 rfl) ?_
  refine lv_aload_n hx hb dX5_liesApartFrom_75 rfl (lv_at hl 4 rfl) ?_
  refine x_geti F hP hk0 (n2 ha0) fl_X5_21 rfl dX5_liesApartFrom_76 ?_
  refine lv_imul hx hb dX5_liesApartFrom_79 ?_
  refine lv_iadd hx hb dX5_liesApartFrom_80 ?_
  refine x_goes (x_runS (As := [.int ((((wS w a1 0) - (wS w k0 0)) * (wS w k0 2)) + (((wS w a1 1) - (wS w k0 1)) * (wS w k0 3)))]) (rest := []) F hP hS (c_J9_abs_0f7a4 l D cT lo nb w ad ((((wS w a1 0) - (wS w k0 0)) * (wS w k0 2)) + (((wS w a1 1) - (wS w k0 1)) * (wS w k0 3)))) cw_J9_abs_0f7a4 lk_X5_30 st_J9_abs_0f7a4 ⟨rfl, rfl, Nat.le_of_ble_eq_true rfl, Nat.le_of_ble_eq_true rfl⟩ hl.1 rfl (Nat.le_of_ble_eq_true rfl) dX5_liesApartFrom_81 ⟨Nat.zero_le _, Nat.zero_le _⟩) hS (fun H locs hP hS _ => ?_)
  refine lv_aload_n hx hb dX5_liesApartFrom_84 rfl (lv_at hl 4 rfl) ?_
  refine x_geti F hP hk0 (n2 ha0) fl_X5_24 rfl dX5_liesApartFrom_85 ?_
  refine lv_sipush (v := 4225) hx hb dX5_liesApartFrom_88 is_4225 ?_
  refine lv_imul hx hb dX5_liesApartFrom_91 ?_
  refine lv_aload_n hx hb dX5_liesApartFrom_92 rfl (lv_at hl 5 rfl) ?_
  refine x_geti F hP hk1 (n2 ha1) fl_X5_24 rfl dX5_liesApartFrom_93 ?_
  refine lv_iload hx hb dX5_liesApartFrom_96 (lv_at hl 1 rfl) ?_
  refine lv_imul hx hb dX5_liesApartFrom_98 ?_
  refine lv_iadd hx hb dX5_liesApartFrom_99 ?_
  refine lv_aload_n hx hb dX5_liesApartFrom_100 rfl (lv_at hl 5 rfl) ?_
  refine x_geti F hP hk1 (n2 ha1) fl_X5_27 rfl dX5_liesApartFrom_101 ?_
  refine lv_iload hx hb dX5_liesApartFrom_104 (lv_at hl 0 rfl) ?_
  refine lv_imul hx hb dX5_liesApartFrom_106 ?_
  refine lv_iadd hx hb dX5_liesApartFrom_107 ?_
  refine lv_icmp_ge (tgt := 154) hx hb dX5_liesApartFrom_108 (by decide) (fun hc => ?_) (fun hc => ?_)
  · have h := if_t _ hc h
    refine lv_iconst (v := 1) hx hb dX5_liesApartFrom_154 ic_1 ?_
    refine lv_goto (tgt := 159) hx hb dX5_liesApartFrom_155 (by decide) ?_
    exact y_zretP h F hr hP hS hlk rfl dX5_liesApartFrom_159
  · have h := if_f _ hc h
    refine lv_iload_n hx hb dX5_liesApartFrom_111 rfl (lv_at hl 2 rfl) ?_
    refine lv_aload_n hx hb dX5_liesApartFrom_112 rfl (lv_at hl 4 rfl) ?_
    refine x_geti F hP hk0 (n2 ha0) fl_X5_18 rfl dX5_liesApartFrom_113 ?_
    refine lv_imul hx hb dX5_liesApartFrom_116 ?_
    refine lv_iload_n hx hb dX5_liesApartFrom_117 rfl (lv_at hl 3 rfl) ?_
    refine lv_aload_n hx hb dX5_liesApartFrom_118 rfl (lv_at hl 4 rfl) ?_
    refine x_geti F hP hk0 (n2 ha0) fl_X5_21 rfl dX5_liesApartFrom_119 ?_
    refine lv_imul hx hb dX5_liesApartFrom_122 ?_
    refine lv_isub hx hb dX5_liesApartFrom_123 ?_
    refine x_goes (x_runS (As := [.int ((((wS w a1 1) - (wS w k0 1)) * (wS w k0 2)) - (((wS w a1 0) - (wS w k0 0)) * (wS w k0 3)))]) (rest := []) F hP hS (c_J9_abs_0f7a4 l D cT lo nb w ad ((((wS w a1 1) - (wS w k0 1)) * (wS w k0 2)) - (((wS w a1 0) - (wS w k0 0)) * (wS w k0 3)))) cw_J9_abs_0f7a4 lk_X5_30 st_J9_abs_0f7a4 ⟨rfl, rfl, Nat.le_of_ble_eq_true rfl, Nat.le_of_ble_eq_true rfl⟩ hl.1 rfl (Nat.le_of_ble_eq_true rfl) dX5_liesApartFrom_124 ⟨Nat.zero_le _, Nat.zero_le _⟩) hS (fun H locs hP hS _ => ?_)
    refine lv_aload_n hx hb dX5_liesApartFrom_127 rfl (lv_at hl 4 rfl) ?_
    refine x_geti F hP hk0 (n2 ha0) fl_X5_27 rfl dX5_liesApartFrom_128 ?_
    refine lv_sipush (v := 4225) hx hb dX5_liesApartFrom_131 is_4225 ?_
    refine lv_imul hx hb dX5_liesApartFrom_134 ?_
    refine lv_aload_n hx hb dX5_liesApartFrom_135 rfl (lv_at hl 5 rfl) ?_
    refine x_geti F hP hk1 (n2 ha1) fl_X5_24 rfl dX5_liesApartFrom_136 ?_
    refine lv_iload hx hb dX5_liesApartFrom_139 (lv_at hl 0 rfl) ?_
    refine lv_imul hx hb dX5_liesApartFrom_141 ?_
    refine lv_iadd hx hb dX5_liesApartFrom_142 ?_
    refine lv_aload_n hx hb dX5_liesApartFrom_143 rfl (lv_at hl 5 rfl) ?_
    refine x_geti F hP hk1 (n2 ha1) fl_X5_27 rfl dX5_liesApartFrom_144 ?_
    refine lv_iload hx hb dX5_liesApartFrom_147 (lv_at hl 1 rfl) ?_
    refine lv_imul hx hb dX5_liesApartFrom_149 ?_
    refine lv_iadd hx hb dX5_liesApartFrom_150 ?_
    refine lv_icmp_lt (tgt := 158) hx hb dX5_liesApartFrom_151 (by decide) (fun hc => ?_) (fun hc => ?_)
    · have h := if_t _ hc h
      refine lv_iconst (v := 0) hx hb dX5_liesApartFrom_158 ic_0 ?_
      exact y_zretP h F hr hP hS hlk rfl dX5_liesApartFrom_159
    · have h := if_f _ hc h
      refine lv_iconst (v := 1) hx hb dX5_liesApartFrom_154 ic_1 ?_
      refine lv_goto (tgt := 159) hx hb dX5_liesApartFrom_155 (by decide) ?_
      exact y_zretP h F hr hP hS hlk rfl dX5_liesApartFrom_159
