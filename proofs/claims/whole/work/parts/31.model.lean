theorem dX12_meetsWire_0 : decode cX12_meetsWire 0 = .ok (.iconst 0, 1) := by decide +kernel
theorem dX12_meetsWire_1 : decode cX12_meetsWire 1 = .ok (.istore_n 3, 1) := by decide +kernel
theorem dX12_meetsWire_2 : decode cX12_meetsWire 2 = .ok (.iload_n 3, 1) := by decide +kernel
theorem dX12_meetsWire_3 : decode cX12_meetsWire 3 = .ok (.aload_n 0, 1) := by decide +kernel
theorem dX12_meetsWire_4 : decode cX12_meetsWire 4 = .ok (.getfield 59, 3) := by decide +kernel
theorem dX12_meetsWire_7 : decode cX12_meetsWire 7 = .ok (.iload_n 1, 1) := by decide +kernel
theorem dX12_meetsWire_8 : decode cX12_meetsWire 8 = .ok (.iaload, 1) := by decide +kernel
theorem dX12_meetsWire_9 : decode cX12_meetsWire 9 = .ok (.if_icmp .ge 81, 3) := by decide +kernel
theorem dX12_meetsWire_12 : decode cX12_meetsWire 12 = .ok (.aload_n 0, 1) := by decide +kernel
theorem dX12_meetsWire_13 : decode cX12_meetsWire 13 = .ok (.getfield 31, 3) := by decide +kernel
theorem dX12_meetsWire_16 : decode cX12_meetsWire 16 = .ok (.iload_n 2, 1) := by decide +kernel
theorem dX12_meetsWire_17 : decode cX12_meetsWire 17 = .ok (.baload, 1) := by decide +kernel
theorem dX12_meetsWire_18 : decode cX12_meetsWire 18 = .ok (.ifCond .ne 41, 3) := by decide +kernel
theorem dX12_meetsWire_21 : decode cX12_meetsWire 21 = .ok (.aload_n 0, 1) := by decide +kernel
theorem dX12_meetsWire_22 : decode cX12_meetsWire 22 = .ok (.getfield 28, 3) := by decide +kernel
theorem dX12_meetsWire_25 : decode cX12_meetsWire 25 = .ok (.iload_n 2, 1) := by decide +kernel
theorem dX12_meetsWire_26 : decode cX12_meetsWire 26 = .ok (.iaload, 1) := by decide +kernel
theorem dX12_meetsWire_27 : decode cX12_meetsWire 27 = .ok (.aload_n 0, 1) := by decide +kernel
theorem dX12_meetsWire_28 : decode cX12_meetsWire 28 = .ok (.iload_n 1, 1) := by decide +kernel
theorem dX12_meetsWire_29 : decode cX12_meetsWire 29 = .ok (.iload_n 3, 1) := by decide +kernel
theorem dX12_meetsWire_30 : decode cX12_meetsWire 30 = .ok (.invokevirtual 260, 3) := by decide +kernel
theorem dX12_meetsWire_33 : decode cX12_meetsWire 33 = .ok (.if_icmp .le 26, 3) := by decide +kernel
theorem dX12_meetsWire_36 : decode cX12_meetsWire 36 = .ok (.aload_n 0, 1) := by decide +kernel
theorem dX12_meetsWire_37 : decode cX12_meetsWire 37 = .ok (.getfield 28, 3) := by decide +kernel
theorem dX12_meetsWire_40 : decode cX12_meetsWire 40 = .ok (.iload_n 2, 1) := by decide +kernel
theorem dX12_meetsWire_41 : decode cX12_meetsWire 41 = .ok (.iaload, 1) := by decide +kernel
theorem dX12_meetsWire_42 : decode cX12_meetsWire 42 = .ok (.aload_n 0, 1) := by decide +kernel
theorem dX12_meetsWire_43 : decode cX12_meetsWire 43 = .ok (.getfield 62, 3) := by decide +kernel
theorem dX12_meetsWire_46 : decode cX12_meetsWire 46 = .ok (.iconst 5, 1) := by decide +kernel
theorem dX12_meetsWire_47 : decode cX12_meetsWire 47 = .ok (.iload_n 1, 1) := by decide +kernel
theorem dX12_meetsWire_48 : decode cX12_meetsWire 48 = .ok (.imul, 1) := by decide +kernel
theorem dX12_meetsWire_49 : decode cX12_meetsWire 49 = .ok (.iload_n 3, 1) := by decide +kernel
theorem dX12_meetsWire_50 : decode cX12_meetsWire 50 = .ok (.iadd, 1) := by decide +kernel
theorem dX12_meetsWire_51 : decode cX12_meetsWire 51 = .ok (.iaload, 1) := by decide +kernel
theorem dX12_meetsWire_52 : decode cX12_meetsWire 52 = .ok (.if_icmp .gt 7, 3) := by decide +kernel
theorem dX12_meetsWire_55 : decode cX12_meetsWire 55 = .ok (.iconst 1, 1) := by decide +kernel
theorem dX12_meetsWire_56 : decode cX12_meetsWire 56 = .ok (.goto 4, 3) := by decide +kernel
theorem dX12_meetsWire_59 : decode cX12_meetsWire 59 = .ok (.iconst 0, 1) := by decide +kernel
theorem dX12_meetsWire_60 : decode cX12_meetsWire 60 = .ok (.istore 4, 2) := by decide +kernel
theorem dX12_meetsWire_62 : decode cX12_meetsWire 62 = .ok (.iload 4, 2) := by decide +kernel
theorem dX12_meetsWire_64 : decode cX12_meetsWire 64 = .ok (.ifCond .eq 20, 3) := by decide +kernel
theorem dX12_meetsWire_67 : decode cX12_meetsWire 67 = .ok (.aload_n 0, 1) := by decide +kernel
theorem dX12_meetsWire_68 : decode cX12_meetsWire 68 = .ok (.iload_n 1, 1) := by decide +kernel
theorem dX12_meetsWire_69 : decode cX12_meetsWire 69 = .ok (.iload_n 3, 1) := by decide +kernel
theorem dX12_meetsWire_70 : decode cX12_meetsWire 70 = .ok (.aload_n 0, 1) := by decide +kernel
theorem dX12_meetsWire_71 : decode cX12_meetsWire 71 = .ok (.getfield 25, 3) := by decide +kernel
theorem dX12_meetsWire_74 : decode cX12_meetsWire 74 = .ok (.iload_n 2, 1) := by decide +kernel
theorem dX12_meetsWire_75 : decode cX12_meetsWire 75 = .ok (.iconst 0, 1) := by decide +kernel
theorem dX12_meetsWire_76 : decode cX12_meetsWire 76 = .ok (.invokevirtual 289, 3) := by decide +kernel
theorem dX12_meetsWire_79 : decode cX12_meetsWire 79 = .ok (.ifCond .eq 5, 3) := by decide +kernel
theorem dX12_meetsWire_82 : decode cX12_meetsWire 82 = .ok (.iconst 1, 1) := by decide +kernel
theorem dX12_meetsWire_83 : decode cX12_meetsWire 83 = .ok (.ireturn, 1) := by decide +kernel
theorem dX12_meetsWire_84 : decode cX12_meetsWire 84 = .ok (.iinc 3 1, 3) := by decide +kernel
theorem dX12_meetsWire_87 : decode cX12_meetsWire 87 = .ok (.goto (-85), 3) := by decide +kernel
theorem dX12_meetsWire_90 : decode cX12_meetsWire 90 = .ok (.iconst 0, 1) := by decide +kernel
theorem dX12_meetsWire_91 : decode cX12_meetsWire 91 = .ok (.ireturn, 1) := by decide +kernel
theorem dX12_signLong_0 : decode cX12_signLong 0 = .ok (.iload_n 0, 1) := by decide +kernel
theorem dX12_signLong_1 : decode cX12_signLong 1 = .ok (.iconst 2, 1) := by decide +kernel
theorem dX12_signLong_2 : decode cX12_signLong 2 = .ok (.if_icmp .ge 7, 3) := by decide +kernel
theorem dX12_signLong_5 : decode cX12_signLong 5 = .ok (.iconst 1, 1) := by decide +kernel
theorem dX12_signLong_6 : decode cX12_signLong 6 = .ok (.goto 4, 3) := by decide +kernel
theorem dX12_signLong_9 : decode cX12_signLong 9 = .ok (.iconst (-1), 1) := by decide +kernel
theorem dX12_signLong_10 : decode cX12_signLong 10 = .ok (.ireturn, 1) := by decide +kernel
theorem dX12_signBroad_0 : decode cX12_signBroad 0 = .ok (.iload_n 0, 1) := by decide +kernel
theorem dX12_signBroad_1 : decode cX12_signBroad 1 = .ok (.iconst 2, 1) := by decide +kernel
theorem dX12_signBroad_2 : decode cX12_signBroad 2 = .ok (.irem, 1) := by decide +kernel
theorem dX12_signBroad_3 : decode cX12_signBroad 3 = .ok (.ifCond .ne 7, 3) := by decide +kernel
theorem dX12_signBroad_6 : decode cX12_signBroad 6 = .ok (.iconst 1, 1) := by decide +kernel
theorem dX12_signBroad_7 : decode cX12_signBroad 7 = .ok (.goto 4, 3) := by decide +kernel
theorem dX12_signBroad_10 : decode cX12_signBroad 10 = .ok (.iconst (-1), 1) := by decide +kernel
theorem dX12_signBroad_11 : decode cX12_signBroad 11 = .ok (.ireturn, 1) := by decide +kernel
theorem dX12_wheelX_0 : decode cX12_wheelX 0 = .ok (.iload_n 3, 1) := by decide +kernel
theorem dX12_wheelX_1 : decode cX12_wheelX 1 = .ok (.iload_n 2, 1) := by decide +kernel
theorem dX12_wheelX_2 : decode cX12_wheelX 2 = .ok (.invokestatic 293, 3) := by decide +kernel
theorem dX12_wheelX_5 : decode cX12_wheelX 5 = .ok (.aload_n 0, 1) := by decide +kernel
theorem dX12_wheelX_6 : decode cX12_wheelX 6 = .ok (.getfield 47, 3) := by decide +kernel
theorem dX12_wheelX_9 : decode cX12_wheelX 9 = .ok (.iload_n 1, 1) := by decide +kernel
theorem dX12_wheelX_10 : decode cX12_wheelX 10 = .ok (.iaload, 1) := by decide +kernel
theorem dX12_wheelX_11 : decode cX12_wheelX 11 = .ok (.imul, 1) := by decide +kernel
theorem dX12_wheelX_12 : decode cX12_wheelX 12 = .ok (.iload 4, 2) := by decide +kernel
theorem dX12_wheelX_14 : decode cX12_wheelX 14 = .ok (.invokestatic 214, 3) := by decide +kernel
theorem dX12_wheelX_17 : decode cX12_wheelX 17 = .ok (.imul, 1) := by decide +kernel
theorem dX12_wheelX_18 : decode cX12_wheelX 18 = .ok (.iadd, 1) := by decide +kernel
theorem dX12_wheelX_19 : decode cX12_wheelX 19 = .ok (.iload_n 2, 1) := by decide +kernel
theorem dX12_wheelX_20 : decode cX12_wheelX 20 = .ok (.invokestatic 296, 3) := by decide +kernel
theorem dX12_wheelX_23 : decode cX12_wheelX 23 = .ok (.aload_n 0, 1) := by decide +kernel
theorem dX12_wheelX_24 : decode cX12_wheelX 24 = .ok (.getfield 50, 3) := by decide +kernel
theorem dX12_wheelX_27 : decode cX12_wheelX 27 = .ok (.iload_n 1, 1) := by decide +kernel
theorem dX12_wheelX_28 : decode cX12_wheelX 28 = .ok (.iaload, 1) := by decide +kernel
theorem dX12_wheelX_29 : decode cX12_wheelX 29 = .ok (.imul, 1) := by decide +kernel
theorem dX12_wheelX_30 : decode cX12_wheelX 30 = .ok (.iload 4, 2) := by decide +kernel
theorem dX12_wheelX_32 : decode cX12_wheelX 32 = .ok (.invokestatic 225, 3) := by decide +kernel
theorem dX12_wheelX_35 : decode cX12_wheelX 35 = .ok (.imul, 1) := by decide +kernel
theorem dX12_wheelX_36 : decode cX12_wheelX 36 = .ok (.isub, 1) := by decide +kernel
theorem dX12_wheelX_37 : decode cX12_wheelX 37 = .ok (.ireturn, 1) := by decide +kernel
theorem dX12_wheelY_0 : decode cX12_wheelY 0 = .ok (.iload_n 3, 1) := by decide +kernel
theorem dX12_wheelY_1 : decode cX12_wheelY 1 = .ok (.iload_n 2, 1) := by decide +kernel
theorem dX12_wheelY_2 : decode cX12_wheelY 2 = .ok (.invokestatic 293, 3) := by decide +kernel
theorem dX12_wheelY_5 : decode cX12_wheelY 5 = .ok (.aload_n 0, 1) := by decide +kernel
theorem dX12_wheelY_6 : decode cX12_wheelY 6 = .ok (.getfield 47, 3) := by decide +kernel
theorem dX12_wheelY_9 : decode cX12_wheelY 9 = .ok (.iload_n 1, 1) := by decide +kernel
theorem dX12_wheelY_10 : decode cX12_wheelY 10 = .ok (.iaload, 1) := by decide +kernel
theorem dX12_wheelY_11 : decode cX12_wheelY 11 = .ok (.imul, 1) := by decide +kernel
theorem dX12_wheelY_12 : decode cX12_wheelY 12 = .ok (.iload 4, 2) := by decide +kernel
theorem dX12_wheelY_14 : decode cX12_wheelY 14 = .ok (.invokestatic 225, 3) := by decide +kernel
theorem dX12_wheelY_17 : decode cX12_wheelY 17 = .ok (.imul, 1) := by decide +kernel
theorem dX12_wheelY_18 : decode cX12_wheelY 18 = .ok (.iadd, 1) := by decide +kernel
theorem dX12_wheelY_19 : decode cX12_wheelY 19 = .ok (.iload_n 2, 1) := by decide +kernel
theorem dX12_wheelY_20 : decode cX12_wheelY 20 = .ok (.invokestatic 296, 3) := by decide +kernel
theorem dX12_wheelY_23 : decode cX12_wheelY 23 = .ok (.aload_n 0, 1) := by decide +kernel
theorem dX12_wheelY_24 : decode cX12_wheelY 24 = .ok (.getfield 50, 3) := by decide +kernel
theorem dX12_wheelY_27 : decode cX12_wheelY 27 = .ok (.iload_n 1, 1) := by decide +kernel
theorem dX12_wheelY_28 : decode cX12_wheelY 28 = .ok (.iaload, 1) := by decide +kernel
theorem dX12_wheelY_29 : decode cX12_wheelY 29 = .ok (.imul, 1) := by decide +kernel
theorem dX12_wheelY_30 : decode cX12_wheelY 30 = .ok (.iload 4, 2) := by decide +kernel
theorem dX12_wheelY_32 : decode cX12_wheelY 32 = .ok (.invokestatic 214, 3) := by decide +kernel
theorem dX12_wheelY_35 : decode cX12_wheelY 35 = .ok (.imul, 1) := by decide +kernel
theorem dX12_wheelY_36 : decode cX12_wheelY 36 = .ok (.iadd, 1) := by decide +kernel
theorem dX12_wheelY_37 : decode cX12_wheelY 37 = .ok (.ireturn, 1) := by decide +kernel
theorem dX12_meetsKerb_0 : decode cX12_meetsKerb 0 = .ok (.iconst 4, 1) := by decide +kernel
theorem dX12_meetsKerb_1 : decode cX12_meetsKerb 1 = .ok (.iload_n 2, 1) := by decide +kernel
theorem dX12_meetsKerb_2 : decode cX12_meetsKerb 2 = .ok (.imul, 1) := by decide +kernel
theorem dX12_meetsKerb_3 : decode cX12_meetsKerb 3 = .ok (.istore_n 3, 1) := by decide +kernel
theorem dX12_meetsKerb_4 : decode cX12_meetsKerb 4 = .ok (.iconst 0, 1) := by decide +kernel
theorem dX12_meetsKerb_5 : decode cX12_meetsKerb 5 = .ok (.istore 4, 2) := by decide +kernel
theorem dX12_meetsKerb_7 : decode cX12_meetsKerb 7 = .ok (.iload 4, 2) := by decide +kernel
theorem dX12_meetsKerb_9 : decode cX12_meetsKerb 9 = .ok (.iconst 4, 1) := by decide +kernel
theorem dX12_meetsKerb_10 : decode cX12_meetsKerb 10 = .ok (.if_icmp .ge 107, 3) := by decide +kernel
theorem dX12_meetsKerb_13 : decode cX12_meetsKerb 13 = .ok (.aload_n 0, 1) := by decide +kernel
theorem dX12_meetsKerb_14 : decode cX12_meetsKerb 14 = .ok (.iload_n 1, 1) := by decide +kernel
theorem dX12_meetsKerb_15 : decode cX12_meetsKerb 15 = .ok (.iload 4, 2) := by decide +kernel
theorem dX12_meetsKerb_17 : decode cX12_meetsKerb 17 = .ok (.aload_n 0, 1) := by decide +kernel
theorem dX12_meetsKerb_18 : decode cX12_meetsKerb 18 = .ok (.getfield 270, 3) := by decide +kernel
theorem dX12_meetsKerb_21 : decode cX12_meetsKerb 21 = .ok (.aload_n 0, 1) := by decide +kernel
theorem dX12_meetsKerb_22 : decode cX12_meetsKerb 22 = .ok (.getfield 276, 3) := by decide +kernel
theorem dX12_meetsKerb_25 : decode cX12_meetsKerb 25 = .ok (.invokevirtual 299, 3) := by decide +kernel
theorem dX12_meetsKerb_28 : decode cX12_meetsKerb 28 = .ok (.istore 5, 2) := by decide +kernel
theorem dX12_meetsKerb_30 : decode cX12_meetsKerb 30 = .ok (.aload_n 0, 1) := by decide +kernel
theorem dX12_meetsKerb_31 : decode cX12_meetsKerb 31 = .ok (.iload_n 1, 1) := by decide +kernel
theorem dX12_meetsKerb_32 : decode cX12_meetsKerb 32 = .ok (.iload 4, 2) := by decide +kernel
theorem dX12_meetsKerb_34 : decode cX12_meetsKerb 34 = .ok (.aload_n 0, 1) := by decide +kernel
theorem dX12_meetsKerb_35 : decode cX12_meetsKerb 35 = .ok (.getfield 273, 3) := by decide +kernel
theorem dX12_meetsKerb_38 : decode cX12_meetsKerb 38 = .ok (.aload_n 0, 1) := by decide +kernel
theorem dX12_meetsKerb_39 : decode cX12_meetsKerb 39 = .ok (.getfield 276, 3) := by decide +kernel
theorem dX12_meetsKerb_42 : decode cX12_meetsKerb 42 = .ok (.invokevirtual 303, 3) := by decide +kernel
theorem dX12_meetsKerb_45 : decode cX12_meetsKerb 45 = .ok (.istore 6, 2) := by decide +kernel
theorem dX12_meetsKerb_47 : decode cX12_meetsKerb 47 = .ok (.iload 5, 2) := by decide +kernel
theorem dX12_meetsKerb_49 : decode cX12_meetsKerb 49 = .ok (.bipush 65, 2) := by decide +kernel
theorem dX12_meetsKerb_51 : decode cX12_meetsKerb 51 = .ok (.aload_n 0, 1) := by decide +kernel
theorem dX12_meetsKerb_52 : decode cX12_meetsKerb 52 = .ok (.getfield 22, 3) := by decide +kernel
theorem dX12_meetsKerb_55 : decode cX12_meetsKerb 55 = .ok (.iload_n 3, 1) := by decide +kernel
theorem dX12_meetsKerb_56 : decode cX12_meetsKerb 56 = .ok (.iaload, 1) := by decide +kernel
theorem dX12_meetsKerb_57 : decode cX12_meetsKerb 57 = .ok (.imul, 1) := by decide +kernel
theorem dX12_meetsKerb_58 : decode cX12_meetsKerb 58 = .ok (.if_icmp .le 53, 3) := by decide +kernel
theorem dX12_meetsKerb_61 : decode cX12_meetsKerb 61 = .ok (.iload 5, 2) := by decide +kernel
theorem dX12_meetsKerb_63 : decode cX12_meetsKerb 63 = .ok (.bipush 65, 2) := by decide +kernel
theorem dX12_meetsKerb_65 : decode cX12_meetsKerb 65 = .ok (.aload_n 0, 1) := by decide +kernel
theorem dX12_meetsKerb_66 : decode cX12_meetsKerb 66 = .ok (.getfield 22, 3) := by decide +kernel
theorem dX12_meetsKerb_69 : decode cX12_meetsKerb 69 = .ok (.iload_n 3, 1) := by decide +kernel
theorem dX12_meetsKerb_70 : decode cX12_meetsKerb 70 = .ok (.iconst 2, 1) := by decide +kernel
theorem dX12_meetsKerb_71 : decode cX12_meetsKerb 71 = .ok (.iadd, 1) := by decide +kernel
theorem dX12_meetsKerb_72 : decode cX12_meetsKerb 72 = .ok (.iaload, 1) := by decide +kernel
theorem dX12_meetsKerb_73 : decode cX12_meetsKerb 73 = .ok (.imul, 1) := by decide +kernel
theorem dX12_meetsKerb_74 : decode cX12_meetsKerb 74 = .ok (.if_icmp .ge 37, 3) := by decide +kernel
theorem dX12_meetsKerb_77 : decode cX12_meetsKerb 77 = .ok (.iload 6, 2) := by decide +kernel
theorem dX12_meetsKerb_79 : decode cX12_meetsKerb 79 = .ok (.bipush 65, 2) := by decide +kernel
theorem dX12_meetsKerb_81 : decode cX12_meetsKerb 81 = .ok (.aload_n 0, 1) := by decide +kernel
theorem dX12_meetsKerb_82 : decode cX12_meetsKerb 82 = .ok (.getfield 22, 3) := by decide +kernel
theorem dX12_meetsKerb_85 : decode cX12_meetsKerb 85 = .ok (.iload_n 3, 1) := by decide +kernel
theorem dX12_meetsKerb_86 : decode cX12_meetsKerb 86 = .ok (.iconst 1, 1) := by decide +kernel
theorem dX12_meetsKerb_87 : decode cX12_meetsKerb 87 = .ok (.iadd, 1) := by decide +kernel
theorem dX12_meetsKerb_88 : decode cX12_meetsKerb 88 = .ok (.iaload, 1) := by decide +kernel
theorem dX12_meetsKerb_89 : decode cX12_meetsKerb 89 = .ok (.imul, 1) := by decide +kernel
theorem dX12_meetsKerb_90 : decode cX12_meetsKerb 90 = .ok (.if_icmp .le 21, 3) := by decide +kernel
theorem dX12_meetsKerb_93 : decode cX12_meetsKerb 93 = .ok (.iload 6, 2) := by decide +kernel
theorem dX12_meetsKerb_95 : decode cX12_meetsKerb 95 = .ok (.bipush 65, 2) := by decide +kernel
theorem dX12_meetsKerb_97 : decode cX12_meetsKerb 97 = .ok (.aload_n 0, 1) := by decide +kernel
theorem dX12_meetsKerb_98 : decode cX12_meetsKerb 98 = .ok (.getfield 22, 3) := by decide +kernel
theorem dX12_meetsKerb_101 : decode cX12_meetsKerb 101 = .ok (.iload_n 3, 1) := by decide +kernel
theorem dX12_meetsKerb_102 : decode cX12_meetsKerb 102 = .ok (.iconst 3, 1) := by decide +kernel
theorem dX12_meetsKerb_103 : decode cX12_meetsKerb 103 = .ok (.iadd, 1) := by decide +kernel
theorem dX12_meetsKerb_104 : decode cX12_meetsKerb 104 = .ok (.iaload, 1) := by decide +kernel
theorem dX12_meetsKerb_105 : decode cX12_meetsKerb 105 = .ok (.imul, 1) := by decide +kernel
theorem dX12_meetsKerb_106 : decode cX12_meetsKerb 106 = .ok (.if_icmp .ge 5, 3) := by decide +kernel
theorem dX12_meetsKerb_109 : decode cX12_meetsKerb 109 = .ok (.iconst 1, 1) := by decide +kernel
theorem dX12_meetsKerb_110 : decode cX12_meetsKerb 110 = .ok (.ireturn, 1) := by decide +kernel
theorem dX12_meetsKerb_111 : decode cX12_meetsKerb 111 = .ok (.iinc 4 1, 3) := by decide +kernel
theorem dX12_meetsKerb_114 : decode cX12_meetsKerb 114 = .ok (.goto (-107), 3) := by decide +kernel
theorem dX12_meetsKerb_117 : decode cX12_meetsKerb 117 = .ok (.iconst 0, 1) := by decide +kernel
theorem dX12_meetsKerb_118 : decode cX12_meetsKerb 118 = .ok (.ireturn, 1) := by decide +kernel
theorem dX12_meetsCar_0 : decode cX12_meetsCar 0 = .ok (.iconst 2, 1) := by decide +kernel
theorem dX12_meetsCar_1 : decode cX12_meetsCar 1 = .ok (.aload_n 0, 1) := by decide +kernel
theorem dX12_meetsCar_2 : decode cX12_meetsCar 2 = .ok (.getfield 74, 3) := by decide +kernel
theorem dX12_meetsCar_5 : decode cX12_meetsCar 5 = .ok (.iload_n 2, 1) := by decide +kernel
theorem dX12_meetsCar_6 : decode cX12_meetsCar 6 = .ok (.iaload, 1) := by decide +kernel
theorem dX12_meetsCar_7 : decode cX12_meetsCar 7 = .ok (.aload_n 0, 1) := by decide +kernel
theorem dX12_meetsCar_8 : decode cX12_meetsCar 8 = .ok (.getfield 270, 3) := by decide +kernel
theorem dX12_meetsCar_11 : decode cX12_meetsCar 11 = .ok (.isub, 1) := by decide +kernel
theorem dX12_meetsCar_12 : decode cX12_meetsCar 12 = .ok (.imul, 1) := by decide +kernel
theorem dX12_meetsCar_13 : decode cX12_meetsCar 13 = .ok (.istore_n 3, 1) := by decide +kernel
theorem dX12_meetsCar_14 : decode cX12_meetsCar 14 = .ok (.iconst 2, 1) := by decide +kernel
theorem dX12_meetsCar_15 : decode cX12_meetsCar 15 = .ok (.aload_n 0, 1) := by decide +kernel
theorem dX12_meetsCar_16 : decode cX12_meetsCar 16 = .ok (.getfield 77, 3) := by decide +kernel
theorem dX12_meetsCar_19 : decode cX12_meetsCar 19 = .ok (.iload_n 2, 1) := by decide +kernel
theorem dX12_meetsCar_20 : decode cX12_meetsCar 20 = .ok (.iaload, 1) := by decide +kernel
theorem dX12_meetsCar_21 : decode cX12_meetsCar 21 = .ok (.aload_n 0, 1) := by decide +kernel
theorem dX12_meetsCar_22 : decode cX12_meetsCar 22 = .ok (.getfield 273, 3) := by decide +kernel
theorem dX12_meetsCar_25 : decode cX12_meetsCar 25 = .ok (.isub, 1) := by decide +kernel
theorem dX12_meetsCar_26 : decode cX12_meetsCar 26 = .ok (.imul, 1) := by decide +kernel
theorem dX12_meetsCar_27 : decode cX12_meetsCar 27 = .ok (.istore 4, 2) := by decide +kernel
theorem dX12_meetsCar_29 : decode cX12_meetsCar 29 = .ok (.iconst 0, 1) := by decide +kernel
theorem dX12_meetsCar_30 : decode cX12_meetsCar 30 = .ok (.istore 5, 2) := by decide +kernel
theorem dX12_meetsCar_32 : decode cX12_meetsCar 32 = .ok (.iload 5, 2) := by decide +kernel
theorem dX12_meetsCar_34 : decode cX12_meetsCar 34 = .ok (.aload_n 0, 1) := by decide +kernel
theorem dX12_meetsCar_35 : decode cX12_meetsCar 35 = .ok (.getfield 59, 3) := by decide +kernel
theorem dX12_meetsCar_38 : decode cX12_meetsCar 38 = .ok (.iload_n 1, 1) := by decide +kernel
theorem dX12_meetsCar_39 : decode cX12_meetsCar 39 = .ok (.iaload, 1) := by decide +kernel
theorem dX12_meetsCar_40 : decode cX12_meetsCar 40 = .ok (.if_icmp .ge 140, 3) := by decide +kernel
theorem dX12_meetsCar_43 : decode cX12_meetsCar 43 = .ok (.iconst 0, 1) := by decide +kernel
theorem dX12_meetsCar_44 : decode cX12_meetsCar 44 = .ok (.istore 6, 2) := by decide +kernel
theorem dX12_meetsCar_46 : decode cX12_meetsCar 46 = .ok (.iload 6, 2) := by decide +kernel
theorem dX12_meetsCar_48 : decode cX12_meetsCar 48 = .ok (.aload_n 0, 1) := by decide +kernel
theorem dX12_meetsCar_49 : decode cX12_meetsCar 49 = .ok (.getfield 59, 3) := by decide +kernel
theorem dX12_meetsCar_52 : decode cX12_meetsCar 52 = .ok (.iload_n 2, 1) := by decide +kernel
theorem dX12_meetsCar_53 : decode cX12_meetsCar 53 = .ok (.iaload, 1) := by decide +kernel
theorem dX12_meetsCar_54 : decode cX12_meetsCar 54 = .ok (.if_icmp .ge 120, 3) := by decide +kernel
theorem dX12_meetsCar_57 : decode cX12_meetsCar 57 = .ok (.aload_n 0, 1) := by decide +kernel
theorem dX12_meetsCar_58 : decode cX12_meetsCar 58 = .ok (.iload_n 1, 1) := by decide +kernel
theorem dX12_meetsCar_59 : decode cX12_meetsCar 59 = .ok (.iload 5, 2) := by decide +kernel
theorem dX12_meetsCar_61 : decode cX12_meetsCar 61 = .ok (.invokevirtual 260, 3) := by decide +kernel
theorem dX12_meetsCar_64 : decode cX12_meetsCar 64 = .ok (.aload_n 0, 1) := by decide +kernel
theorem dX12_meetsCar_65 : decode cX12_meetsCar 65 = .ok (.getfield 62, 3) := by decide +kernel
theorem dX12_meetsCar_68 : decode cX12_meetsCar 68 = .ok (.iconst 5, 1) := by decide +kernel
theorem dX12_meetsCar_69 : decode cX12_meetsCar 69 = .ok (.iload_n 2, 1) := by decide +kernel
theorem dX12_meetsCar_70 : decode cX12_meetsCar 70 = .ok (.imul, 1) := by decide +kernel
theorem dX12_meetsCar_71 : decode cX12_meetsCar 71 = .ok (.iload 6, 2) := by decide +kernel
theorem dX12_meetsCar_73 : decode cX12_meetsCar 73 = .ok (.iadd, 1) := by decide +kernel
theorem dX12_meetsCar_74 : decode cX12_meetsCar 74 = .ok (.iaload, 1) := by decide +kernel
theorem dX12_meetsCar_75 : decode cX12_meetsCar 75 = .ok (.if_icmp .ge 28, 3) := by decide +kernel
theorem dX12_meetsCar_78 : decode cX12_meetsCar 78 = .ok (.aload_n 0, 1) := by decide +kernel
theorem dX12_meetsCar_79 : decode cX12_meetsCar 79 = .ok (.iload_n 2, 1) := by decide +kernel
theorem dX12_meetsCar_80 : decode cX12_meetsCar 80 = .ok (.iload 6, 2) := by decide +kernel
theorem dX12_meetsCar_82 : decode cX12_meetsCar 82 = .ok (.invokevirtual 260, 3) := by decide +kernel
theorem dX12_meetsCar_85 : decode cX12_meetsCar 85 = .ok (.aload_n 0, 1) := by decide +kernel
theorem dX12_meetsCar_86 : decode cX12_meetsCar 86 = .ok (.getfield 62, 3) := by decide +kernel
theorem dX12_meetsCar_89 : decode cX12_meetsCar 89 = .ok (.iconst 5, 1) := by decide +kernel
theorem dX12_meetsCar_90 : decode cX12_meetsCar 90 = .ok (.iload_n 1, 1) := by decide +kernel
theorem dX12_meetsCar_91 : decode cX12_meetsCar 91 = .ok (.imul, 1) := by decide +kernel
theorem dX12_meetsCar_92 : decode cX12_meetsCar 92 = .ok (.iload 5, 2) := by decide +kernel
theorem dX12_meetsCar_94 : decode cX12_meetsCar 94 = .ok (.iadd, 1) := by decide +kernel
theorem dX12_meetsCar_95 : decode cX12_meetsCar 95 = .ok (.iaload, 1) := by decide +kernel
theorem dX12_meetsCar_96 : decode cX12_meetsCar 96 = .ok (.if_icmp .ge 7, 3) := by decide +kernel
theorem dX12_meetsCar_99 : decode cX12_meetsCar 99 = .ok (.iconst 1, 1) := by decide +kernel
theorem dX12_meetsCar_100 : decode cX12_meetsCar 100 = .ok (.goto 4, 3) := by decide +kernel
theorem dX12_meetsCar_103 : decode cX12_meetsCar 103 = .ok (.iconst 0, 1) := by decide +kernel
theorem dX12_meetsCar_104 : decode cX12_meetsCar 104 = .ok (.istore 7, 2) := by decide +kernel
theorem dX12_meetsCar_106 : decode cX12_meetsCar 106 = .ok (.iload 7, 2) := by decide +kernel
theorem dX12_meetsCar_108 : decode cX12_meetsCar 108 = .ok (.ifCond .eq 60, 3) := by decide +kernel
theorem dX12_meetsCar_111 : decode cX12_meetsCar 111 = .ok (.iload_n 3, 1) := by decide +kernel
theorem dX12_meetsCar_112 : decode cX12_meetsCar 112 = .ok (.iload 4, 2) := by decide +kernel
theorem dX12_meetsCar_114 : decode cX12_meetsCar 114 = .ok (.aload_n 0, 1) := by decide +kernel
theorem dX12_meetsCar_115 : decode cX12_meetsCar 115 = .ok (.getfield 276, 3) := by decide +kernel
theorem dX12_meetsCar_118 : decode cX12_meetsCar 118 = .ok (.iconst 2, 1) := by decide +kernel
theorem dX12_meetsCar_119 : decode cX12_meetsCar 119 = .ok (.aload_n 0, 1) := by decide +kernel
theorem dX12_meetsCar_120 : decode cX12_meetsCar 120 = .ok (.iload_n 1, 1) := by decide +kernel
theorem dX12_meetsCar_121 : decode cX12_meetsCar 121 = .ok (.iload 5, 2) := by decide +kernel
theorem dX12_meetsCar_123 : decode cX12_meetsCar 123 = .ok (.invokevirtual 279, 3) := by decide +kernel
theorem dX12_meetsCar_126 : decode cX12_meetsCar 126 = .ok (.imul, 1) := by decide +kernel
theorem dX12_meetsCar_127 : decode cX12_meetsCar 127 = .ok (.iconst 2, 1) := by decide +kernel
theorem dX12_meetsCar_128 : decode cX12_meetsCar 128 = .ok (.aload_n 0, 1) := by decide +kernel
theorem dX12_meetsCar_129 : decode cX12_meetsCar 129 = .ok (.iload_n 1, 1) := by decide +kernel
theorem dX12_meetsCar_130 : decode cX12_meetsCar 130 = .ok (.iload 5, 2) := by decide +kernel
theorem dX12_meetsCar_132 : decode cX12_meetsCar 132 = .ok (.invokevirtual 282, 3) := by decide +kernel
theorem dX12_meetsCar_135 : decode cX12_meetsCar 135 = .ok (.imul, 1) := by decide +kernel
theorem dX12_meetsCar_136 : decode cX12_meetsCar 136 = .ok (.aload_n 0, 1) := by decide +kernel
theorem dX12_meetsCar_137 : decode cX12_meetsCar 137 = .ok (.getfield 80, 3) := by decide +kernel
theorem dX12_meetsCar_140 : decode cX12_meetsCar 140 = .ok (.iload_n 2, 1) := by decide +kernel
theorem dX12_meetsCar_141 : decode cX12_meetsCar 141 = .ok (.iaload, 1) := by decide +kernel
theorem dX12_meetsCar_142 : decode cX12_meetsCar 142 = .ok (.iconst 2, 1) := by decide +kernel
theorem dX12_meetsCar_143 : decode cX12_meetsCar 143 = .ok (.aload_n 0, 1) := by decide +kernel
theorem dX12_meetsCar_144 : decode cX12_meetsCar 144 = .ok (.iload_n 2, 1) := by decide +kernel
theorem dX12_meetsCar_145 : decode cX12_meetsCar 145 = .ok (.iload 6, 2) := by decide +kernel
theorem dX12_meetsCar_147 : decode cX12_meetsCar 147 = .ok (.invokevirtual 279, 3) := by decide +kernel
theorem dX12_meetsCar_150 : decode cX12_meetsCar 150 = .ok (.imul, 1) := by decide +kernel
theorem dX12_meetsCar_151 : decode cX12_meetsCar 151 = .ok (.iconst 2, 1) := by decide +kernel
theorem dX12_meetsCar_152 : decode cX12_meetsCar 152 = .ok (.aload_n 0, 1) := by decide +kernel
theorem dX12_meetsCar_153 : decode cX12_meetsCar 153 = .ok (.iload_n 2, 1) := by decide +kernel
theorem dX12_meetsCar_154 : decode cX12_meetsCar 154 = .ok (.iload 6, 2) := by decide +kernel
theorem dX12_meetsCar_156 : decode cX12_meetsCar 156 = .ok (.invokevirtual 282, 3) := by decide +kernel
theorem dX12_meetsCar_159 : decode cX12_meetsCar 159 = .ok (.imul, 1) := by decide +kernel
theorem dX12_meetsCar_160 : decode cX12_meetsCar 160 = .ok (.invokestatic 285, 3) := by decide +kernel
theorem dX12_meetsCar_163 : decode cX12_meetsCar 163 = .ok (.ifCond .eq 5, 3) := by decide +kernel
theorem dX12_meetsCar_166 : decode cX12_meetsCar 166 = .ok (.iconst 1, 1) := by decide +kernel
theorem dX12_meetsCar_167 : decode cX12_meetsCar 167 = .ok (.ireturn, 1) := by decide +kernel
theorem dX12_meetsCar_168 : decode cX12_meetsCar 168 = .ok (.iinc 6 1, 3) := by decide +kernel
theorem dX12_meetsCar_171 : decode cX12_meetsCar 171 = .ok (.goto (-125), 3) := by decide +kernel
theorem dX12_meetsCar_174 : decode cX12_meetsCar 174 = .ok (.iinc 5 1, 3) := by decide +kernel
theorem dX12_meetsCar_177 : decode cX12_meetsCar 177 = .ok (.goto (-145), 3) := by decide +kernel
theorem dX12_meetsCar_180 : decode cX12_meetsCar 180 = .ok (.iconst 0, 1) := by decide +kernel
theorem dX12_meetsCar_181 : decode cX12_meetsCar 181 = .ok (.ireturn, 1) := by decide +kernel
theorem dX12_meetsNow_0 : decode cX12_meetsNow 0 = .ok (.iconst 0, 1) := by decide +kernel
theorem dX12_meetsNow_1 : decode cX12_meetsNow 1 = .ok (.istore_n 2, 1) := by decide +kernel
theorem dX12_meetsNow_2 : decode cX12_meetsNow 2 = .ok (.iload_n 2, 1) := by decide +kernel
theorem dX12_meetsNow_3 : decode cX12_meetsNow 3 = .ok (.aload_n 0, 1) := by decide +kernel
theorem dX12_meetsNow_4 : decode cX12_meetsNow 4 = .ok (.getfield 232, 3) := by decide +kernel
theorem dX12_meetsNow_7 : decode cX12_meetsNow 7 = .ok (.if_icmp .ge 24, 3) := by decide +kernel
theorem dX12_meetsNow_10 : decode cX12_meetsNow 10 = .ok (.aload_n 0, 1) := by decide +kernel
theorem dX12_meetsNow_11 : decode cX12_meetsNow 11 = .ok (.iload_n 1, 1) := by decide +kernel
theorem dX12_meetsNow_12 : decode cX12_meetsNow 12 = .ok (.iload_n 2, 1) := by decide +kernel
theorem dX12_meetsNow_13 : decode cX12_meetsNow 13 = .ok (.invokevirtual 306, 3) := by decide +kernel
theorem dX12_meetsNow_16 : decode cX12_meetsNow 16 = .ok (.ifCond .eq 9, 3) := by decide +kernel
theorem dX12_meetsNow_19 : decode cX12_meetsNow 19 = .ok (.sipush 1000, 3) := by decide +kernel
theorem dX12_meetsNow_22 : decode cX12_meetsNow 22 = .ok (.iload_n 2, 1) := by decide +kernel
theorem dX12_meetsNow_23 : decode cX12_meetsNow 23 = .ok (.iadd, 1) := by decide +kernel
theorem dX12_meetsNow_24 : decode cX12_meetsNow 24 = .ok (.ireturn, 1) := by decide +kernel
theorem dX12_meetsNow_25 : decode cX12_meetsNow 25 = .ok (.iinc 2 1, 3) := by decide +kernel
theorem dX12_meetsNow_28 : decode cX12_meetsNow 28 = .ok (.goto (-26), 3) := by decide +kernel
theorem dX12_meetsNow_31 : decode cX12_meetsNow 31 = .ok (.iconst 0, 1) := by decide +kernel
theorem dX12_meetsNow_32 : decode cX12_meetsNow 32 = .ok (.istore_n 2, 1) := by decide +kernel
theorem dX12_meetsNow_33 : decode cX12_meetsNow 33 = .ok (.iload_n 2, 1) := by decide +kernel
theorem dX12_meetsNow_34 : decode cX12_meetsNow 34 = .ok (.aload_n 0, 1) := by decide +kernel
theorem dX12_meetsNow_35 : decode cX12_meetsNow 35 = .ok (.getfield 232, 3) := by decide +kernel
theorem dX12_meetsNow_38 : decode cX12_meetsNow 38 = .ok (.if_icmp .ge 24, 3) := by decide +kernel
theorem dX12_meetsNow_41 : decode cX12_meetsNow 41 = .ok (.aload_n 0, 1) := by decide +kernel
theorem dX12_meetsNow_42 : decode cX12_meetsNow 42 = .ok (.iload_n 1, 1) := by decide +kernel
theorem dX12_meetsNow_43 : decode cX12_meetsNow 43 = .ok (.iload_n 2, 1) := by decide +kernel
theorem dX12_meetsNow_44 : decode cX12_meetsNow 44 = .ok (.invokevirtual 310, 3) := by decide +kernel
theorem dX12_meetsNow_47 : decode cX12_meetsNow 47 = .ok (.ifCond .eq 9, 3) := by decide +kernel
theorem dX12_meetsNow_50 : decode cX12_meetsNow 50 = .ok (.sipush 2000, 3) := by decide +kernel
theorem dX12_meetsNow_53 : decode cX12_meetsNow 53 = .ok (.iload_n 2, 1) := by decide +kernel
theorem dX12_meetsNow_54 : decode cX12_meetsNow 54 = .ok (.iadd, 1) := by decide +kernel
theorem dX12_meetsNow_55 : decode cX12_meetsNow 55 = .ok (.ireturn, 1) := by decide +kernel
theorem dX12_meetsNow_56 : decode cX12_meetsNow 56 = .ok (.iinc 2 1, 3) := by decide +kernel
theorem dX12_meetsNow_59 : decode cX12_meetsNow 59 = .ok (.goto (-26), 3) := by decide +kernel
theorem dX12_meetsNow_62 : decode cX12_meetsNow 62 = .ok (.iconst 0, 1) := by decide +kernel
theorem dX12_meetsNow_63 : decode cX12_meetsNow 63 = .ok (.istore_n 2, 1) := by decide +kernel
theorem dX12_meetsNow_64 : decode cX12_meetsNow 64 = .ok (.iload_n 2, 1) := by decide +kernel
theorem dX12_meetsNow_65 : decode cX12_meetsNow 65 = .ok (.aload_n 0, 1) := by decide +kernel
theorem dX12_meetsNow_66 : decode cX12_meetsNow 66 = .ok (.getfield 242, 3) := by decide +kernel
theorem dX12_meetsNow_69 : decode cX12_meetsNow 69 = .ok (.if_icmp .ge 24, 3) := by decide +kernel
theorem dX12_meetsNow_72 : decode cX12_meetsNow 72 = .ok (.aload_n 0, 1) := by decide +kernel
theorem dX12_meetsNow_73 : decode cX12_meetsNow 73 = .ok (.iload_n 1, 1) := by decide +kernel
theorem dX12_meetsNow_74 : decode cX12_meetsNow 74 = .ok (.iload_n 2, 1) := by decide +kernel
theorem dX12_meetsNow_75 : decode cX12_meetsNow 75 = .ok (.invokevirtual 313, 3) := by decide +kernel
theorem dX12_meetsNow_78 : decode cX12_meetsNow 78 = .ok (.ifCond .eq 9, 3) := by decide +kernel
theorem dX12_meetsNow_81 : decode cX12_meetsNow 81 = .ok (.sipush 3000, 3) := by decide +kernel
theorem dX12_meetsNow_84 : decode cX12_meetsNow 84 = .ok (.iload_n 2, 1) := by decide +kernel
theorem dX12_meetsNow_85 : decode cX12_meetsNow 85 = .ok (.iadd, 1) := by decide +kernel
theorem dX12_meetsNow_86 : decode cX12_meetsNow 86 = .ok (.ireturn, 1) := by decide +kernel
theorem dX12_meetsNow_87 : decode cX12_meetsNow 87 = .ok (.iinc 2 1, 3) := by decide +kernel
theorem dX12_meetsNow_90 : decode cX12_meetsNow 90 = .ok (.goto (-26), 3) := by decide +kernel
theorem dX12_meetsNow_93 : decode cX12_meetsNow 93 = .ok (.iconst 0, 1) := by decide +kernel
theorem dX12_meetsNow_94 : decode cX12_meetsNow 94 = .ok (.istore_n 2, 1) := by decide +kernel
theorem dX12_meetsNow_95 : decode cX12_meetsNow 95 = .ok (.iload_n 2, 1) := by decide +kernel
theorem dX12_meetsNow_96 : decode cX12_meetsNow 96 = .ok (.aload_n 0, 1) := by decide +kernel
theorem dX12_meetsNow_97 : decode cX12_meetsNow 97 = .ok (.getfield 239, 3) := by decide +kernel
theorem dX12_meetsNow_100 : decode cX12_meetsNow 100 = .ok (.if_icmp .ge 24, 3) := by decide +kernel
theorem dX12_meetsNow_103 : decode cX12_meetsNow 103 = .ok (.aload_n 0, 1) := by decide +kernel
theorem dX12_meetsNow_104 : decode cX12_meetsNow 104 = .ok (.iload_n 1, 1) := by decide +kernel
theorem dX12_meetsNow_105 : decode cX12_meetsNow 105 = .ok (.iload_n 2, 1) := by decide +kernel
theorem dX12_meetsNow_106 : decode cX12_meetsNow 106 = .ok (.invokevirtual 316, 3) := by decide +kernel
theorem dX12_meetsNow_109 : decode cX12_meetsNow 109 = .ok (.ifCond .eq 9, 3) := by decide +kernel
theorem dX12_meetsNow_112 : decode cX12_meetsNow 112 = .ok (.sipush 4000, 3) := by decide +kernel
theorem dX12_meetsNow_115 : decode cX12_meetsNow 115 = .ok (.iload_n 2, 1) := by decide +kernel
theorem dX12_meetsNow_116 : decode cX12_meetsNow 116 = .ok (.iadd, 1) := by decide +kernel
theorem dX12_meetsNow_117 : decode cX12_meetsNow 117 = .ok (.ireturn, 1) := by decide +kernel
theorem dX12_meetsNow_118 : decode cX12_meetsNow 118 = .ok (.iinc 2 1, 3) := by decide +kernel
theorem dX12_meetsNow_121 : decode cX12_meetsNow 121 = .ok (.goto (-26), 3) := by decide +kernel
theorem dX12_meetsNow_124 : decode cX12_meetsNow 124 = .ok (.iconst 0, 1) := by decide +kernel
theorem dX12_meetsNow_125 : decode cX12_meetsNow 125 = .ok (.istore_n 2, 1) := by decide +kernel
theorem dX12_meetsNow_126 : decode cX12_meetsNow 126 = .ok (.iload_n 2, 1) := by decide +kernel
theorem dX12_meetsNow_127 : decode cX12_meetsNow 127 = .ok (.aload_n 0, 1) := by decide +kernel
theorem dX12_meetsNow_128 : decode cX12_meetsNow 128 = .ok (.getfield 254, 3) := by decide +kernel
theorem dX12_meetsNow_131 : decode cX12_meetsNow 131 = .ok (.if_icmp .ge 38, 3) := by decide +kernel
theorem dX12_meetsNow_134 : decode cX12_meetsNow 134 = .ok (.iload_n 2, 1) := by decide +kernel
theorem dX12_meetsNow_135 : decode cX12_meetsNow 135 = .ok (.iload_n 1, 1) := by decide +kernel
theorem dX12_meetsNow_136 : decode cX12_meetsNow 136 = .ok (.if_icmp .eq 27, 3) := by decide +kernel
theorem dX12_meetsNow_139 : decode cX12_meetsNow 139 = .ok (.aload_n 0, 1) := by decide +kernel
theorem dX12_meetsNow_140 : decode cX12_meetsNow 140 = .ok (.getfield 71, 3) := by decide +kernel
theorem dX12_meetsNow_143 : decode cX12_meetsNow 143 = .ok (.iload_n 2, 1) := by decide +kernel
theorem dX12_meetsNow_144 : decode cX12_meetsNow 144 = .ok (.baload, 1) := by decide +kernel
theorem dX12_meetsNow_145 : decode cX12_meetsNow 145 = .ok (.ifCond .eq 18, 3) := by decide +kernel
theorem dX12_meetsNow_148 : decode cX12_meetsNow 148 = .ok (.aload_n 0, 1) := by decide +kernel
theorem dX12_meetsNow_149 : decode cX12_meetsNow 149 = .ok (.iload_n 1, 1) := by decide +kernel
theorem dX12_meetsNow_150 : decode cX12_meetsNow 150 = .ok (.iload_n 2, 1) := by decide +kernel
theorem dX12_meetsNow_151 : decode cX12_meetsNow 151 = .ok (.invokevirtual 319, 3) := by decide +kernel
theorem dX12_meetsNow_154 : decode cX12_meetsNow 154 = .ok (.ifCond .eq 9, 3) := by decide +kernel
theorem dX12_meetsNow_157 : decode cX12_meetsNow 157 = .ok (.sipush 5000, 3) := by decide +kernel
theorem dX12_meetsNow_160 : decode cX12_meetsNow 160 = .ok (.iload_n 2, 1) := by decide +kernel
theorem dX12_meetsNow_161 : decode cX12_meetsNow 161 = .ok (.iadd, 1) := by decide +kernel
theorem dX12_meetsNow_162 : decode cX12_meetsNow 162 = .ok (.ireturn, 1) := by decide +kernel
theorem dX12_meetsNow_163 : decode cX12_meetsNow 163 = .ok (.iinc 2 1, 3) := by decide +kernel
theorem dX12_meetsNow_166 : decode cX12_meetsNow 166 = .ok (.goto (-40), 3) := by decide +kernel
theorem dX12_meetsNow_169 : decode cX12_meetsNow 169 = .ok (.aload_n 0, 1) := by decide +kernel
theorem dX12_meetsNow_170 : decode cX12_meetsNow 170 = .ok (.getfield 270, 3) := by decide +kernel
theorem dX12_meetsNow_173 : decode cX12_meetsNow 173 = .ok (.ldc 248, 2) := by decide +kernel
theorem dX12_meetsNow_175 : decode cX12_meetsNow 175 = .ok (.ldc 249, 2) := by decide +kernel
theorem dX12_meetsNow_177 : decode cX12_meetsNow 177 = .ok (.invokestatic 217, 3) := by decide +kernel
theorem dX12_meetsNow_180 : decode cX12_meetsNow 180 = .ok (.ifCond .eq 21, 3) := by decide +kernel
theorem dX12_meetsNow_183 : decode cX12_meetsNow 183 = .ok (.aload_n 0, 1) := by decide +kernel
theorem dX12_meetsNow_184 : decode cX12_meetsNow 184 = .ok (.getfield 273, 3) := by decide +kernel
theorem dX12_meetsNow_187 : decode cX12_meetsNow 187 = .ok (.ldc 248, 2) := by decide +kernel
theorem dX12_meetsNow_189 : decode cX12_meetsNow 189 = .ok (.ldc 249, 2) := by decide +kernel
theorem dX12_meetsNow_191 : decode cX12_meetsNow 191 = .ok (.invokestatic 217, 3) := by decide +kernel
theorem dX12_meetsNow_194 : decode cX12_meetsNow 194 = .ok (.ifCond .eq 7, 3) := by decide +kernel
theorem dX12_meetsNow_197 : decode cX12_meetsNow 197 = .ok (.iconst 0, 1) := by decide +kernel
theorem dX12_meetsNow_198 : decode cX12_meetsNow 198 = .ok (.goto 6, 3) := by decide +kernel
theorem dX12_meetsNow_201 : decode cX12_meetsNow 201 = .ok (.sipush 6000, 3) := by decide +kernel
theorem dX12_meetsNow_204 : decode cX12_meetsNow 204 = .ok (.ireturn, 1) := by decide +kernel
theorem dX12_settles_0 : decode cX12_settles 0 = .ok (.aload_n 0, 1) := by decide +kernel
theorem dX12_settles_1 : decode cX12_settles 1 = .ok (.getfield 74, 3) := by decide +kernel
theorem dX12_settles_4 : decode cX12_settles 4 = .ok (.iload_n 1, 1) := by decide +kernel
theorem dX12_settles_5 : decode cX12_settles 5 = .ok (.aload_n 0, 1) := by decide +kernel
theorem dX12_settles_6 : decode cX12_settles 6 = .ok (.getfield 270, 3) := by decide +kernel
theorem dX12_settles_9 : decode cX12_settles 9 = .ok (.iastore, 1) := by decide +kernel
theorem dX12_settles_10 : decode cX12_settles 10 = .ok (.aload_n 0, 1) := by decide +kernel
theorem dX12_settles_11 : decode cX12_settles 11 = .ok (.getfield 77, 3) := by decide +kernel
theorem dX12_settles_14 : decode cX12_settles 14 = .ok (.iload_n 1, 1) := by decide +kernel
theorem dX12_settles_15 : decode cX12_settles 15 = .ok (.aload_n 0, 1) := by decide +kernel
theorem dX12_settles_16 : decode cX12_settles 16 = .ok (.getfield 273, 3) := by decide +kernel
theorem dX12_settles_19 : decode cX12_settles 19 = .ok (.iastore, 1) := by decide +kernel
theorem dX12_settles_20 : decode cX12_settles 20 = .ok (.aload_n 0, 1) := by decide +kernel
theorem dX12_settles_21 : decode cX12_settles 21 = .ok (.getfield 80, 3) := by decide +kernel
theorem dX12_settles_24 : decode cX12_settles 24 = .ok (.iload_n 1, 1) := by decide +kernel
theorem dX12_settles_25 : decode cX12_settles 25 = .ok (.aload_n 0, 1) := by decide +kernel
theorem dX12_settles_26 : decode cX12_settles 26 = .ok (.getfield 276, 3) := by decide +kernel
theorem dX12_settles_29 : decode cX12_settles 29 = .ok (.iastore, 1) := by decide +kernel
theorem dX12_settles_30 : decode cX12_settles 30 = .ok (.return_, 1) := by decide +kernel
theorem dX12_stand_0 : decode cX12_stand 0 = .ok (.aload_n 0, 1) := by decide +kernel
theorem dX12_stand_1 : decode cX12_stand 1 = .ok (.iload_n 1, 1) := by decide +kernel
theorem dX12_stand_2 : decode cX12_stand 2 = .ok (.invokevirtual 257, 3) := by decide +kernel
theorem dX12_stand_5 : decode cX12_stand 5 = .ok (.ifCond .eq 37, 3) := by decide +kernel
theorem dX12_stand_8 : decode cX12_stand 8 = .ok (.iload_n 2, 1) := by decide +kernel
theorem dX12_stand_9 : decode cX12_stand 9 = .ok (.sipush (-500), 3) := by decide +kernel
theorem dX12_stand_12 : decode cX12_stand 12 = .ok (.sipush 500, 3) := by decide +kernel
theorem dX12_stand_15 : decode cX12_stand 15 = .ok (.invokestatic 217, 3) := by decide +kernel
theorem dX12_stand_18 : decode cX12_stand 18 = .ok (.ifCond .eq 24, 3) := by decide +kernel
theorem dX12_stand_21 : decode cX12_stand 21 = .ok (.iload_n 3, 1) := by decide +kernel
theorem dX12_stand_22 : decode cX12_stand 22 = .ok (.sipush (-500), 3) := by decide +kernel
theorem dX12_stand_25 : decode cX12_stand 25 = .ok (.sipush 500, 3) := by decide +kernel
theorem dX12_stand_28 : decode cX12_stand 28 = .ok (.invokestatic 217, 3) := by decide +kernel
theorem dX12_stand_31 : decode cX12_stand 31 = .ok (.ifCond .eq 11, 3) := by decide +kernel
theorem dX12_stand_34 : decode cX12_stand 34 = .ok (.iload 4, 2) := by decide +kernel
theorem dX12_stand_36 : decode cX12_stand 36 = .ok (.invokestatic 221, 3) := by decide +kernel
theorem dX12_stand_39 : decode cX12_stand 39 = .ok (.ifCond .ne 6, 3) := by decide +kernel
theorem dX12_stand_42 : decode cX12_stand 42 = .ok (.bipush (-2), 2) := by decide +kernel
theorem dX12_stand_44 : decode cX12_stand 44 = .ok (.ireturn, 1) := by decide +kernel
theorem dX12_stand_45 : decode cX12_stand 45 = .ok (.aload_n 0, 1) := by decide +kernel
theorem dX12_stand_46 : decode cX12_stand 46 = .ok (.bipush 65, 2) := by decide +kernel
theorem dX12_stand_48 : decode cX12_stand 48 = .ok (.iload_n 2, 1) := by decide +kernel
theorem dX12_stand_49 : decode cX12_stand 49 = .ok (.imul, 1) := by decide +kernel
theorem dX12_stand_50 : decode cX12_stand 50 = .ok (.putfield 270, 3) := by decide +kernel
theorem dX12_stand_53 : decode cX12_stand 53 = .ok (.aload_n 0, 1) := by decide +kernel
theorem dX12_stand_54 : decode cX12_stand 54 = .ok (.bipush 65, 2) := by decide +kernel
theorem dX12_stand_56 : decode cX12_stand 56 = .ok (.iload_n 3, 1) := by decide +kernel
theorem dX12_stand_57 : decode cX12_stand 57 = .ok (.imul, 1) := by decide +kernel
theorem dX12_stand_58 : decode cX12_stand 58 = .ok (.putfield 273, 3) := by decide +kernel
theorem dX12_stand_61 : decode cX12_stand 61 = .ok (.aload_n 0, 1) := by decide +kernel
theorem dX12_stand_62 : decode cX12_stand 62 = .ok (.iload 4, 2) := by decide +kernel
theorem dX12_stand_64 : decode cX12_stand 64 = .ok (.putfield 276, 3) := by decide +kernel
theorem dX12_stand_67 : decode cX12_stand 67 = .ok (.aload_n 0, 1) := by decide +kernel
theorem dX12_stand_68 : decode cX12_stand 68 = .ok (.iload_n 1, 1) := by decide +kernel
theorem dX12_stand_69 : decode cX12_stand 69 = .ok (.invokevirtual 322, 3) := by decide +kernel
theorem dX12_stand_72 : decode cX12_stand 72 = .ok (.ifCond .eq 6, 3) := by decide +kernel
theorem dX12_stand_75 : decode cX12_stand 75 = .ok (.bipush (-3), 2) := by decide +kernel
theorem dX12_stand_77 : decode cX12_stand 77 = .ok (.ireturn, 1) := by decide +kernel
theorem dX12_stand_78 : decode cX12_stand 78 = .ok (.aload_n 0, 1) := by decide +kernel
theorem dX12_stand_79 : decode cX12_stand 79 = .ok (.getfield 71, 3) := by decide +kernel
theorem dX12_stand_82 : decode cX12_stand 82 = .ok (.iload_n 1, 1) := by decide +kernel
theorem dX12_stand_83 : decode cX12_stand 83 = .ok (.iconst 1, 1) := by decide +kernel
theorem dX12_stand_84 : decode cX12_stand 84 = .ok (.bastore, 1) := by decide +kernel
theorem dX12_stand_85 : decode cX12_stand 85 = .ok (.aload_n 0, 1) := by decide +kernel
theorem dX12_stand_86 : decode cX12_stand 86 = .ok (.iload_n 1, 1) := by decide +kernel
theorem dX12_stand_87 : decode cX12_stand 87 = .ok (.invokevirtual 325, 3) := by decide +kernel
theorem dX12_stand_90 : decode cX12_stand 90 = .ok (.iconst 1, 1) := by decide +kernel
theorem dX12_stand_91 : decode cX12_stand 91 = .ok (.ireturn, 1) := by decide +kernel
theorem dX12_leave_0 : decode cX12_leave 0 = .ok (.aload_n 0, 1) := by decide +kernel
theorem dX12_leave_1 : decode cX12_leave 1 = .ok (.iload_n 1, 1) := by decide +kernel
theorem dX12_leave_2 : decode cX12_leave 2 = .ok (.invokevirtual 257, 3) := by decide +kernel
theorem dX12_leave_5 : decode cX12_leave 5 = .ok (.ifCond .ne 6, 3) := by decide +kernel
theorem dX12_leave_8 : decode cX12_leave 8 = .ok (.bipush (-2), 2) := by decide +kernel
theorem dX12_leave_10 : decode cX12_leave 10 = .ok (.ireturn, 1) := by decide +kernel
theorem dX12_leave_11 : decode cX12_leave 11 = .ok (.aload_n 0, 1) := by decide +kernel
theorem dX12_leave_12 : decode cX12_leave 12 = .ok (.getfield 71, 3) := by decide +kernel
theorem dX12_leave_15 : decode cX12_leave 15 = .ok (.iload_n 1, 1) := by decide +kernel
theorem dX12_leave_16 : decode cX12_leave 16 = .ok (.baload, 1) := by decide +kernel
theorem dX12_leave_17 : decode cX12_leave 17 = .ok (.ifCond .eq 7, 3) := by decide +kernel
theorem dX12_leave_20 : decode cX12_leave 20 = .ok (.iconst 1, 1) := by decide +kernel
theorem dX12_leave_21 : decode cX12_leave 21 = .ok (.goto 4, 3) := by decide +kernel
theorem dX12_leave_24 : decode cX12_leave 24 = .ok (.iconst 0, 1) := by decide +kernel
theorem dX12_leave_25 : decode cX12_leave 25 = .ok (.istore_n 2, 1) := by decide +kernel
theorem dX12_leave_26 : decode cX12_leave 26 = .ok (.aload_n 0, 1) := by decide +kernel
theorem dX12_leave_27 : decode cX12_leave 27 = .ok (.getfield 71, 3) := by decide +kernel
theorem dX12_leave_30 : decode cX12_leave 30 = .ok (.iload_n 1, 1) := by decide +kernel
theorem dX12_leave_31 : decode cX12_leave 31 = .ok (.iconst 0, 1) := by decide +kernel
theorem dX12_leave_32 : decode cX12_leave 32 = .ok (.bastore, 1) := by decide +kernel
theorem dX12_leave_33 : decode cX12_leave 33 = .ok (.iload_n 2, 1) := by decide +kernel
theorem dX12_leave_34 : decode cX12_leave 34 = .ok (.ireturn, 1) := by decide +kernel
theorem dX12_aboutOf_0 : decode cX12_aboutOf 0 = .ok (.iload_n 2, 1) := by decide +kernel
theorem dX12_aboutOf_1 : decode cX12_aboutOf 1 = .ok (.tableswitch 178 0 9 #[55, 62, 69, 76, 83, 90, 112, 134, 156, 163], 55) := by decide +kernel
theorem dX12_aboutOf_56 : decode cX12_aboutOf 56 = .ok (.aload_n 0, 1) := by decide +kernel
theorem dX12_aboutOf_57 : decode cX12_aboutOf 57 = .ok (.getfield 47, 3) := by decide +kernel
theorem dX12_aboutOf_60 : decode cX12_aboutOf 60 = .ok (.iload_n 1, 1) := by decide +kernel
theorem dX12_aboutOf_61 : decode cX12_aboutOf 61 = .ok (.iaload, 1) := by decide +kernel
theorem dX12_aboutOf_62 : decode cX12_aboutOf 62 = .ok (.ireturn, 1) := by decide +kernel
theorem dX12_aboutOf_63 : decode cX12_aboutOf 63 = .ok (.aload_n 0, 1) := by decide +kernel
theorem dX12_aboutOf_64 : decode cX12_aboutOf 64 = .ok (.getfield 50, 3) := by decide +kernel
theorem dX12_aboutOf_67 : decode cX12_aboutOf 67 = .ok (.iload_n 1, 1) := by decide +kernel
theorem dX12_aboutOf_68 : decode cX12_aboutOf 68 = .ok (.iaload, 1) := by decide +kernel
theorem dX12_aboutOf_69 : decode cX12_aboutOf 69 = .ok (.ireturn, 1) := by decide +kernel
theorem dX12_aboutOf_70 : decode cX12_aboutOf 70 = .ok (.aload_n 0, 1) := by decide +kernel
theorem dX12_aboutOf_71 : decode cX12_aboutOf 71 = .ok (.getfield 53, 3) := by decide +kernel
theorem dX12_aboutOf_74 : decode cX12_aboutOf 74 = .ok (.iload_n 1, 1) := by decide +kernel
theorem dX12_aboutOf_75 : decode cX12_aboutOf 75 = .ok (.iaload, 1) := by decide +kernel
theorem dX12_aboutOf_76 : decode cX12_aboutOf 76 = .ok (.ireturn, 1) := by decide +kernel
theorem dX12_aboutOf_77 : decode cX12_aboutOf 77 = .ok (.aload_n 0, 1) := by decide +kernel
theorem dX12_aboutOf_78 : decode cX12_aboutOf 78 = .ok (.getfield 56, 3) := by decide +kernel
theorem dX12_aboutOf_81 : decode cX12_aboutOf 81 = .ok (.iload_n 1, 1) := by decide +kernel
theorem dX12_aboutOf_82 : decode cX12_aboutOf 82 = .ok (.iaload, 1) := by decide +kernel
theorem dX12_aboutOf_83 : decode cX12_aboutOf 83 = .ok (.ireturn, 1) := by decide +kernel
theorem dX12_aboutOf_84 : decode cX12_aboutOf 84 = .ok (.aload_n 0, 1) := by decide +kernel
theorem dX12_aboutOf_85 : decode cX12_aboutOf 85 = .ok (.getfield 59, 3) := by decide +kernel
theorem dX12_aboutOf_88 : decode cX12_aboutOf 88 = .ok (.iload_n 1, 1) := by decide +kernel
theorem dX12_aboutOf_89 : decode cX12_aboutOf 89 = .ok (.iaload, 1) := by decide +kernel
theorem dX12_aboutOf_90 : decode cX12_aboutOf 90 = .ok (.ireturn, 1) := by decide +kernel
theorem dX12_aboutOf_91 : decode cX12_aboutOf 91 = .ok (.aload_n 0, 1) := by decide +kernel
theorem dX12_aboutOf_92 : decode cX12_aboutOf 92 = .ok (.getfield 71, 3) := by decide +kernel
theorem dX12_aboutOf_95 : decode cX12_aboutOf 95 = .ok (.iload_n 1, 1) := by decide +kernel
theorem dX12_aboutOf_96 : decode cX12_aboutOf 96 = .ok (.baload, 1) := by decide +kernel
theorem dX12_aboutOf_97 : decode cX12_aboutOf 97 = .ok (.ifCond .eq 12, 3) := by decide +kernel
theorem dX12_aboutOf_100 : decode cX12_aboutOf 100 = .ok (.aload_n 0, 1) := by decide +kernel
theorem dX12_aboutOf_101 : decode cX12_aboutOf 101 = .ok (.getfield 74, 3) := by decide +kernel
theorem dX12_aboutOf_104 : decode cX12_aboutOf 104 = .ok (.iload_n 1, 1) := by decide +kernel
theorem dX12_aboutOf_105 : decode cX12_aboutOf 105 = .ok (.iaload, 1) := by decide +kernel
theorem dX12_aboutOf_106 : decode cX12_aboutOf 106 = .ok (.goto 6, 3) := by decide +kernel
theorem dX12_aboutOf_109 : decode cX12_aboutOf 109 = .ok (.ldc_w 329, 3) := by decide +kernel
theorem dX12_aboutOf_112 : decode cX12_aboutOf 112 = .ok (.ireturn, 1) := by decide +kernel
theorem dX12_aboutOf_113 : decode cX12_aboutOf 113 = .ok (.aload_n 0, 1) := by decide +kernel
theorem dX12_aboutOf_114 : decode cX12_aboutOf 114 = .ok (.getfield 71, 3) := by decide +kernel
theorem dX12_aboutOf_117 : decode cX12_aboutOf 117 = .ok (.iload_n 1, 1) := by decide +kernel
theorem dX12_aboutOf_118 : decode cX12_aboutOf 118 = .ok (.baload, 1) := by decide +kernel
theorem dX12_aboutOf_119 : decode cX12_aboutOf 119 = .ok (.ifCond .eq 12, 3) := by decide +kernel
theorem dX12_aboutOf_122 : decode cX12_aboutOf 122 = .ok (.aload_n 0, 1) := by decide +kernel
theorem dX12_aboutOf_123 : decode cX12_aboutOf 123 = .ok (.getfield 77, 3) := by decide +kernel
theorem dX12_aboutOf_126 : decode cX12_aboutOf 126 = .ok (.iload_n 1, 1) := by decide +kernel
theorem dX12_aboutOf_127 : decode cX12_aboutOf 127 = .ok (.iaload, 1) := by decide +kernel
theorem dX12_aboutOf_128 : decode cX12_aboutOf 128 = .ok (.goto 6, 3) := by decide +kernel
theorem dX12_aboutOf_131 : decode cX12_aboutOf 131 = .ok (.ldc_w 329, 3) := by decide +kernel
theorem dX12_aboutOf_134 : decode cX12_aboutOf 134 = .ok (.ireturn, 1) := by decide +kernel
theorem dX12_aboutOf_135 : decode cX12_aboutOf 135 = .ok (.aload_n 0, 1) := by decide +kernel
theorem dX12_aboutOf_136 : decode cX12_aboutOf 136 = .ok (.getfield 71, 3) := by decide +kernel
theorem dX12_aboutOf_139 : decode cX12_aboutOf 139 = .ok (.iload_n 1, 1) := by decide +kernel
theorem dX12_aboutOf_140 : decode cX12_aboutOf 140 = .ok (.baload, 1) := by decide +kernel
theorem dX12_aboutOf_141 : decode cX12_aboutOf 141 = .ok (.ifCond .eq 12, 3) := by decide +kernel
theorem dX12_aboutOf_144 : decode cX12_aboutOf 144 = .ok (.aload_n 0, 1) := by decide +kernel
theorem dX12_aboutOf_145 : decode cX12_aboutOf 145 = .ok (.getfield 80, 3) := by decide +kernel
theorem dX12_aboutOf_148 : decode cX12_aboutOf 148 = .ok (.iload_n 1, 1) := by decide +kernel
theorem dX12_aboutOf_149 : decode cX12_aboutOf 149 = .ok (.iaload, 1) := by decide +kernel
theorem dX12_aboutOf_150 : decode cX12_aboutOf 150 = .ok (.goto 6, 3) := by decide +kernel
theorem dX12_aboutOf_153 : decode cX12_aboutOf 153 = .ok (.ldc_w 329, 3) := by decide +kernel
theorem dX12_aboutOf_156 : decode cX12_aboutOf 156 = .ok (.ireturn, 1) := by decide +kernel
theorem dX12_aboutOf_157 : decode cX12_aboutOf 157 = .ok (.aload_n 0, 1) := by decide +kernel
theorem dX12_aboutOf_158 : decode cX12_aboutOf 158 = .ok (.getfield 83, 3) := by decide +kernel
theorem dX12_aboutOf_161 : decode cX12_aboutOf 161 = .ok (.iload_n 1, 1) := by decide +kernel
theorem dX12_aboutOf_162 : decode cX12_aboutOf 162 = .ok (.iaload, 1) := by decide +kernel
theorem dX12_aboutOf_163 : decode cX12_aboutOf 163 = .ok (.ireturn, 1) := by decide +kernel
theorem dX12_aboutOf_164 : decode cX12_aboutOf 164 = .ok (.aload_n 0, 1) := by decide +kernel
theorem dX12_aboutOf_165 : decode cX12_aboutOf 165 = .ok (.getfield 71, 3) := by decide +kernel
theorem dX12_aboutOf_168 : decode cX12_aboutOf 168 = .ok (.iload_n 1, 1) := by decide +kernel
theorem dX12_aboutOf_169 : decode cX12_aboutOf 169 = .ok (.baload, 1) := by decide +kernel
theorem dX12_aboutOf_170 : decode cX12_aboutOf 170 = .ok (.ifCond .eq 7, 3) := by decide +kernel
theorem dX12_aboutOf_173 : decode cX12_aboutOf 173 = .ok (.iconst 1, 1) := by decide +kernel
theorem dX12_aboutOf_174 : decode cX12_aboutOf 174 = .ok (.goto 4, 3) := by decide +kernel
theorem dX12_aboutOf_177 : decode cX12_aboutOf 177 = .ok (.iconst 0, 1) := by decide +kernel
theorem dX12_aboutOf_178 : decode cX12_aboutOf 178 = .ok (.ireturn, 1) := by decide +kernel
theorem dX12_aboutOf_179 : decode cX12_aboutOf 179 = .ok (.ldc_w 329, 3) := by decide +kernel
theorem dX12_aboutOf_182 : decode cX12_aboutOf 182 = .ok (.ireturn, 1) := by decide +kernel
theorem dX12_about_0 : decode cX12_about 0 = .ok (.aload_n 0, 1) := by decide +kernel
theorem dX12_about_1 : decode cX12_about 1 = .ok (.iload_n 1, 1) := by decide +kernel
theorem dX12_about_2 : decode cX12_about 2 = .ok (.invokevirtual 257, 3) := by decide +kernel
theorem dX12_about_5 : decode cX12_about 5 = .ok (.ifCond .eq 12, 3) := by decide +kernel
theorem dX12_about_8 : decode cX12_about 8 = .ok (.aload_n 0, 1) := by decide +kernel
theorem dX12_about_9 : decode cX12_about 9 = .ok (.iload_n 1, 1) := by decide +kernel
theorem dX12_about_10 : decode cX12_about 10 = .ok (.iload_n 2, 1) := by decide +kernel
theorem dX12_about_11 : decode cX12_about 11 = .ok (.invokevirtual 330, 3) := by decide +kernel
theorem dX12_about_14 : decode cX12_about 14 = .ok (.goto 6, 3) := by decide +kernel
theorem dX12_about_17 : decode cX12_about 17 = .ok (.ldc_w 329, 3) := by decide +kernel
theorem dX12_about_20 : decode cX12_about 20 = .ok (.ireturn, 1) := by decide +kernel
theorem dX12_wheel_0 : decode cX12_wheel 0 = .ok (.aload_n 0, 1) := by decide +kernel
theorem dX12_wheel_1 : decode cX12_wheel 1 = .ok (.iload_n 1, 1) := by decide +kernel
theorem dX12_wheel_2 : decode cX12_wheel 2 = .ok (.invokevirtual 257, 3) := by decide +kernel
theorem dX12_wheel_5 : decode cX12_wheel 5 = .ok (.ifCond .eq 30, 3) := by decide +kernel
theorem dX12_wheel_8 : decode cX12_wheel 8 = .ok (.iload_n 2, 1) := by decide +kernel
theorem dX12_wheel_9 : decode cX12_wheel 9 = .ok (.iconst 0, 1) := by decide +kernel
theorem dX12_wheel_10 : decode cX12_wheel 10 = .ok (.iconst 3, 1) := by decide +kernel
theorem dX12_wheel_11 : decode cX12_wheel 11 = .ok (.invokestatic 217, 3) := by decide +kernel
theorem dX12_wheel_14 : decode cX12_wheel 14 = .ok (.ifCond .eq 21, 3) := by decide +kernel
theorem dX12_wheel_17 : decode cX12_wheel 17 = .ok (.iload_n 3, 1) := by decide +kernel
theorem dX12_wheel_18 : decode cX12_wheel 18 = .ok (.iconst 0, 1) := by decide +kernel
theorem dX12_wheel_19 : decode cX12_wheel 19 = .ok (.iconst 1, 1) := by decide +kernel
theorem dX12_wheel_20 : decode cX12_wheel 20 = .ok (.invokestatic 217, 3) := by decide +kernel
theorem dX12_wheel_23 : decode cX12_wheel 23 = .ok (.ifCond .eq 12, 3) := by decide +kernel
theorem dX12_wheel_26 : decode cX12_wheel 26 = .ok (.aload_n 0, 1) := by decide +kernel
theorem dX12_wheel_27 : decode cX12_wheel 27 = .ok (.getfield 71, 3) := by decide +kernel
theorem dX12_wheel_30 : decode cX12_wheel 30 = .ok (.iload_n 1, 1) := by decide +kernel
theorem dX12_wheel_31 : decode cX12_wheel 31 = .ok (.baload, 1) := by decide +kernel
theorem dX12_wheel_32 : decode cX12_wheel 32 = .ok (.ifCond .ne 7, 3) := by decide +kernel
theorem dX12_wheel_35 : decode cX12_wheel 35 = .ok (.ldc_w 329, 3) := by decide +kernel
theorem dX12_wheel_38 : decode cX12_wheel 38 = .ok (.ireturn, 1) := by decide +kernel
theorem dX12_wheel_39 : decode cX12_wheel 39 = .ok (.iload_n 3, 1) := by decide +kernel
theorem dX12_wheel_40 : decode cX12_wheel 40 = .ok (.ifCond .ne 24, 3) := by decide +kernel
theorem dX12_wheel_43 : decode cX12_wheel 43 = .ok (.aload_n 0, 1) := by decide +kernel
theorem dX12_wheel_44 : decode cX12_wheel 44 = .ok (.iload_n 1, 1) := by decide +kernel
theorem dX12_wheel_45 : decode cX12_wheel 45 = .ok (.iload_n 2, 1) := by decide +kernel
theorem dX12_wheel_46 : decode cX12_wheel 46 = .ok (.aload_n 0, 1) := by decide +kernel
theorem dX12_wheel_47 : decode cX12_wheel 47 = .ok (.getfield 74, 3) := by decide +kernel
theorem dX12_wheel_50 : decode cX12_wheel 50 = .ok (.iload_n 1, 1) := by decide +kernel
theorem dX12_wheel_51 : decode cX12_wheel 51 = .ok (.iaload, 1) := by decide +kernel
theorem dX12_wheel_52 : decode cX12_wheel 52 = .ok (.aload_n 0, 1) := by decide +kernel
theorem dX12_wheel_53 : decode cX12_wheel 53 = .ok (.getfield 80, 3) := by decide +kernel
theorem dX12_wheel_56 : decode cX12_wheel 56 = .ok (.iload_n 1, 1) := by decide +kernel
theorem dX12_wheel_57 : decode cX12_wheel 57 = .ok (.iaload, 1) := by decide +kernel
theorem dX12_wheel_58 : decode cX12_wheel 58 = .ok (.invokevirtual 299, 3) := by decide +kernel
theorem dX12_wheel_61 : decode cX12_wheel 61 = .ok (.goto 21, 3) := by decide +kernel
theorem dX12_wheel_64 : decode cX12_wheel 64 = .ok (.aload_n 0, 1) := by decide +kernel
theorem dX12_wheel_65 : decode cX12_wheel 65 = .ok (.iload_n 1, 1) := by decide +kernel
theorem dX12_wheel_66 : decode cX12_wheel 66 = .ok (.iload_n 2, 1) := by decide +kernel
theorem dX12_wheel_67 : decode cX12_wheel 67 = .ok (.aload_n 0, 1) := by decide +kernel
theorem dX12_wheel_68 : decode cX12_wheel 68 = .ok (.getfield 77, 3) := by decide +kernel
theorem dX12_wheel_71 : decode cX12_wheel 71 = .ok (.iload_n 1, 1) := by decide +kernel
theorem dX12_wheel_72 : decode cX12_wheel 72 = .ok (.iaload, 1) := by decide +kernel
theorem dX12_wheel_73 : decode cX12_wheel 73 = .ok (.aload_n 0, 1) := by decide +kernel
theorem dX12_wheel_74 : decode cX12_wheel 74 = .ok (.getfield 80, 3) := by decide +kernel
theorem dX12_wheel_77 : decode cX12_wheel 77 = .ok (.iload_n 1, 1) := by decide +kernel
theorem dX12_wheel_78 : decode cX12_wheel 78 = .ok (.iaload, 1) := by decide +kernel
theorem dX12_wheel_79 : decode cX12_wheel 79 = .ok (.invokevirtual 303, 3) := by decide +kernel
theorem dX12_wheel_82 : decode cX12_wheel 82 = .ok (.ireturn, 1) := by decide +kernel
theorem dX12_feet_0 : decode cX12_feet 0 = .ok (.iload_n 1, 1) := by decide +kernel
theorem dX12_feet_1 : decode cX12_feet 1 = .ok (.iconst 1, 1) := by decide +kernel
theorem dX12_feet_2 : decode cX12_feet 2 = .ok (.bipush 20, 2) := by decide +kernel
theorem dX12_feet_4 : decode cX12_feet 4 = .ok (.invokestatic 217, 3) := by decide +kernel
theorem dX12_feet_7 : decode cX12_feet 7 = .ok (.ifCond .ne 6, 3) := by decide +kernel
theorem dX12_feet_10 : decode cX12_feet 10 = .ok (.bipush (-2), 2) := by decide +kernel
theorem dX12_feet_12 : decode cX12_feet 12 = .ok (.ireturn, 1) := by decide +kernel
theorem dX12_feet_13 : decode cX12_feet 13 = .ok (.aload_n 0, 1) := by decide +kernel
theorem dX12_feet_14 : decode cX12_feet 14 = .ok (.getfield 86, 3) := by decide +kernel
theorem dX12_feet_17 : decode cX12_feet 17 = .ok (.istore_n 2, 1) := by decide +kernel
theorem dX12_feet_18 : decode cX12_feet 18 = .ok (.aload_n 0, 1) := by decide +kernel
theorem dX12_feet_19 : decode cX12_feet 19 = .ok (.iload_n 1, 1) := by decide +kernel
theorem dX12_feet_20 : decode cX12_feet 20 = .ok (.putfield 86, 3) := by decide +kernel
theorem dX12_feet_23 : decode cX12_feet 23 = .ok (.iload_n 2, 1) := by decide +kernel
theorem dX12_feet_24 : decode cX12_feet 24 = .ok (.ireturn, 1) := by decide +kernel
theorem dX12_goes_0 : decode cX12_goes 0 = .ok (.aload_n 0, 1) := by decide +kernel
theorem dX12_goes_1 : decode cX12_goes 1 = .ok (.iload_n 2, 1) := by decide +kernel
theorem dX12_goes_2 : decode cX12_goes 2 = .ok (.putfield 270, 3) := by decide +kernel
theorem dX12_goes_5 : decode cX12_goes 5 = .ok (.aload_n 0, 1) := by decide +kernel
theorem dX12_goes_6 : decode cX12_goes 6 = .ok (.iload_n 3, 1) := by decide +kernel
theorem dX12_goes_7 : decode cX12_goes 7 = .ok (.putfield 273, 3) := by decide +kernel
theorem dX12_goes_10 : decode cX12_goes 10 = .ok (.aload_n 0, 1) := by decide +kernel
theorem dX12_goes_11 : decode cX12_goes 11 = .ok (.iload 4, 2) := by decide +kernel
theorem dX12_goes_13 : decode cX12_goes 13 = .ok (.putfield 276, 3) := by decide +kernel
theorem dX12_goes_16 : decode cX12_goes 16 = .ok (.iload 5, 2) := by decide +kernel
theorem dX12_goes_18 : decode cX12_goes 18 = .ok (.iconst 2, 1) := by decide +kernel
theorem dX12_goes_19 : decode cX12_goes 19 = .ok (.if_icmp .ge 53, 3) := by decide +kernel
theorem dX12_goes_22 : decode cX12_goes 22 = .ok (.iload 5, 2) := by decide +kernel
theorem dX12_goes_24 : decode cX12_goes 24 = .ok (.ifCond .ne 10, 3) := by decide +kernel
theorem dX12_goes_27 : decode cX12_goes 27 = .ok (.aload_n 0, 1) := by decide +kernel
theorem dX12_goes_28 : decode cX12_goes 28 = .ok (.getfield 86, 3) := by decide +kernel
theorem dX12_goes_31 : decode cX12_goes 31 = .ok (.goto 8, 3) := by decide +kernel
theorem dX12_goes_34 : decode cX12_goes 34 = .ok (.aload_n 0, 1) := by decide +kernel
theorem dX12_goes_35 : decode cX12_goes 35 = .ok (.getfield 86, 3) := by decide +kernel
theorem dX12_goes_38 : decode cX12_goes 38 = .ok (.ineg, 1) := by decide +kernel
theorem dX12_goes_39 : decode cX12_goes 39 = .ok (.istore 6, 2) := by decide +kernel
theorem dX12_goes_41 : decode cX12_goes 41 = .ok (.aload_n 0, 1) := by decide +kernel
theorem dX12_goes_42 : decode cX12_goes 42 = .ok (.iload_n 2, 1) := by decide +kernel
theorem dX12_goes_43 : decode cX12_goes 43 = .ok (.iload 6, 2) := by decide +kernel
theorem dX12_goes_45 : decode cX12_goes 45 = .ok (.iload 4, 2) := by decide +kernel
theorem dX12_goes_47 : decode cX12_goes 47 = .ok (.invokestatic 214, 3) := by decide +kernel
theorem dX12_goes_50 : decode cX12_goes 50 = .ok (.imul, 1) := by decide +kernel
theorem dX12_goes_51 : decode cX12_goes 51 = .ok (.iadd, 1) := by decide +kernel
theorem dX12_goes_52 : decode cX12_goes 52 = .ok (.putfield 270, 3) := by decide +kernel
theorem dX12_goes_55 : decode cX12_goes 55 = .ok (.aload_n 0, 1) := by decide +kernel
theorem dX12_goes_56 : decode cX12_goes 56 = .ok (.iload_n 3, 1) := by decide +kernel
theorem dX12_goes_57 : decode cX12_goes 57 = .ok (.iload 6, 2) := by decide +kernel
theorem dX12_goes_59 : decode cX12_goes 59 = .ok (.iload 4, 2) := by decide +kernel
theorem dX12_goes_61 : decode cX12_goes 61 = .ok (.invokestatic 225, 3) := by decide +kernel
theorem dX12_goes_64 : decode cX12_goes 64 = .ok (.imul, 1) := by decide +kernel
theorem dX12_goes_65 : decode cX12_goes 65 = .ok (.iadd, 1) := by decide +kernel
theorem dX12_goes_66 : decode cX12_goes 66 = .ok (.putfield 273, 3) := by decide +kernel
theorem dX12_goes_69 : decode cX12_goes 69 = .ok (.goto 103, 3) := by decide +kernel
theorem dX12_goes_72 : decode cX12_goes 72 = .ok (.iload 5, 2) := by decide +kernel
theorem dX12_goes_74 : decode cX12_goes 74 = .ok (.bipush 10, 2) := by decide +kernel
theorem dX12_goes_76 : decode cX12_goes 76 = .ok (.if_icmp .ge 96, 3) := by decide +kernel
theorem dX12_goes_79 : decode cX12_goes 79 = .ok (.iload 5, 2) := by decide +kernel
theorem dX12_goes_81 : decode cX12_goes 81 = .ok (.iconst 2, 1) := by decide +kernel
theorem dX12_goes_82 : decode cX12_goes 82 = .ok (.isub, 1) := by decide +kernel
theorem dX12_goes_83 : decode cX12_goes 83 = .ok (.iconst 4, 1) := by decide +kernel
theorem dX12_goes_84 : decode cX12_goes 84 = .ok (.irem, 1) := by decide +kernel
theorem dX12_goes_85 : decode cX12_goes 85 = .ok (.istore 6, 2) := by decide +kernel
theorem dX12_goes_87 : decode cX12_goes 87 = .ok (.aload_n 0, 1) := by decide +kernel
theorem dX12_goes_88 : decode cX12_goes 88 = .ok (.iload_n 1, 1) := by decide +kernel
theorem dX12_goes_89 : decode cX12_goes 89 = .ok (.iload 6, 2) := by decide +kernel
theorem dX12_goes_91 : decode cX12_goes 91 = .ok (.iload_n 2, 1) := by decide +kernel
theorem dX12_goes_92 : decode cX12_goes 92 = .ok (.iload 4, 2) := by decide +kernel
theorem dX12_goes_94 : decode cX12_goes 94 = .ok (.invokevirtual 299, 3) := by decide +kernel
theorem dX12_goes_97 : decode cX12_goes 97 = .ok (.istore 7, 2) := by decide +kernel
theorem dX12_goes_99 : decode cX12_goes 99 = .ok (.aload_n 0, 1) := by decide +kernel
theorem dX12_goes_100 : decode cX12_goes 100 = .ok (.iload_n 1, 1) := by decide +kernel
theorem dX12_goes_101 : decode cX12_goes 101 = .ok (.iload 6, 2) := by decide +kernel
theorem dX12_goes_103 : decode cX12_goes 103 = .ok (.iload_n 3, 1) := by decide +kernel
theorem dX12_goes_104 : decode cX12_goes 104 = .ok (.iload 4, 2) := by decide +kernel
theorem dX12_goes_106 : decode cX12_goes 106 = .ok (.invokevirtual 303, 3) := by decide +kernel
theorem dX12_goes_109 : decode cX12_goes 109 = .ok (.istore 8, 2) := by decide +kernel
theorem dX12_goes_111 : decode cX12_goes 111 = .ok (.aload_n 0, 1) := by decide +kernel
theorem dX12_goes_112 : decode cX12_goes 112 = .ok (.iload 4, 2) := by decide +kernel
theorem dX12_goes_114 : decode cX12_goes 114 = .ok (.iload 5, 2) := by decide +kernel
theorem dX12_goes_116 : decode cX12_goes 116 = .ok (.bipush 6, 2) := by decide +kernel
theorem dX12_goes_118 : decode cX12_goes 118 = .ok (.if_icmp .ge 7, 3) := by decide +kernel
theorem dX12_goes_121 : decode cX12_goes 121 = .ok (.iconst 1, 1) := by decide +kernel
theorem dX12_goes_122 : decode cX12_goes 122 = .ok (.goto 5, 3) := by decide +kernel
theorem dX12_goes_125 : decode cX12_goes 125 = .ok (.bipush 35, 2) := by decide +kernel
theorem dX12_goes_127 : decode cX12_goes 127 = .ok (.iadd, 1) := by decide +kernel
theorem dX12_goes_128 : decode cX12_goes 128 = .ok (.bipush 36, 2) := by decide +kernel
theorem dX12_goes_130 : decode cX12_goes 130 = .ok (.irem, 1) := by decide +kernel
theorem dX12_goes_131 : decode cX12_goes 131 = .ok (.putfield 276, 3) := by decide +kernel
theorem dX12_goes_134 : decode cX12_goes 134 = .ok (.aload_n 0, 1) := by decide +kernel
theorem dX12_goes_135 : decode cX12_goes 135 = .ok (.iload 7, 2) := by decide +kernel
theorem dX12_goes_137 : decode cX12_goes 137 = .ok (.aload_n 0, 1) := by decide +kernel
theorem dX12_goes_138 : decode cX12_goes 138 = .ok (.iload_n 1, 1) := by decide +kernel
theorem dX12_goes_139 : decode cX12_goes 139 = .ok (.iload 6, 2) := by decide +kernel
theorem dX12_goes_141 : decode cX12_goes 141 = .ok (.iconst 0, 1) := by decide +kernel
theorem dX12_goes_142 : decode cX12_goes 142 = .ok (.aload_n 0, 1) := by decide +kernel
theorem dX12_goes_143 : decode cX12_goes 143 = .ok (.getfield 276, 3) := by decide +kernel
theorem dX12_goes_146 : decode cX12_goes 146 = .ok (.invokevirtual 299, 3) := by decide +kernel
theorem dX12_goes_149 : decode cX12_goes 149 = .ok (.isub, 1) := by decide +kernel
theorem dX12_goes_150 : decode cX12_goes 150 = .ok (.putfield 270, 3) := by decide +kernel
theorem dX12_goes_153 : decode cX12_goes 153 = .ok (.aload_n 0, 1) := by decide +kernel
theorem dX12_goes_154 : decode cX12_goes 154 = .ok (.iload 8, 2) := by decide +kernel
theorem dX12_goes_156 : decode cX12_goes 156 = .ok (.aload_n 0, 1) := by decide +kernel
theorem dX12_goes_157 : decode cX12_goes 157 = .ok (.iload_n 1, 1) := by decide +kernel
theorem dX12_goes_158 : decode cX12_goes 158 = .ok (.iload 6, 2) := by decide +kernel
theorem dX12_goes_160 : decode cX12_goes 160 = .ok (.iconst 0, 1) := by decide +kernel
theorem dX12_goes_161 : decode cX12_goes 161 = .ok (.aload_n 0, 1) := by decide +kernel
theorem dX12_goes_162 : decode cX12_goes 162 = .ok (.getfield 276, 3) := by decide +kernel
theorem dX12_goes_165 : decode cX12_goes 165 = .ok (.invokevirtual 303, 3) := by decide +kernel
theorem dX12_goes_168 : decode cX12_goes 168 = .ok (.isub, 1) := by decide +kernel
theorem dX12_goes_169 : decode cX12_goes 169 = .ok (.putfield 273, 3) := by decide +kernel
theorem dX12_goes_172 : decode cX12_goes 172 = .ok (.return_, 1) := by decide +kernel
theorem dX12_meets_0 : decode cX12_meets 0 = .ok (.aload_n 0, 1) := by decide +kernel
theorem dX12_meets_1 : decode cX12_meets 1 = .ok (.iload_n 1, 1) := by decide +kernel
theorem dX12_meets_2 : decode cX12_meets 2 = .ok (.invokevirtual 257, 3) := by decide +kernel
theorem dX12_meets_5 : decode cX12_meets 5 = .ok (.ifCond .eq 13, 3) := by decide +kernel
theorem dX12_meets_8 : decode cX12_meets 8 = .ok (.iload_n 2, 1) := by decide +kernel
theorem dX12_meets_9 : decode cX12_meets 9 = .ok (.iconst 0, 1) := by decide +kernel
theorem dX12_meets_10 : decode cX12_meets 10 = .ok (.bipush 10, 2) := by decide +kernel
theorem dX12_meets_12 : decode cX12_meets 12 = .ok (.invokestatic 217, 3) := by decide +kernel
theorem dX12_meets_15 : decode cX12_meets 15 = .ok (.ifCond .ne 6, 3) := by decide +kernel
theorem dX12_meets_18 : decode cX12_meets 18 = .ok (.bipush (-2), 2) := by decide +kernel
theorem dX12_meets_20 : decode cX12_meets 20 = .ok (.ireturn, 1) := by decide +kernel
theorem dX12_meets_21 : decode cX12_meets 21 = .ok (.aload_n 0, 1) := by decide +kernel
theorem dX12_meets_22 : decode cX12_meets 22 = .ok (.getfield 71, 3) := by decide +kernel
theorem dX12_meets_25 : decode cX12_meets 25 = .ok (.iload_n 1, 1) := by decide +kernel
theorem dX12_meets_26 : decode cX12_meets 26 = .ok (.baload, 1) := by decide +kernel
theorem dX12_meets_27 : decode cX12_meets 27 = .ok (.ifCond .ne 6, 3) := by decide +kernel
theorem dX12_meets_30 : decode cX12_meets 30 = .ok (.bipush (-3), 2) := by decide +kernel
theorem dX12_meets_32 : decode cX12_meets 32 = .ok (.ireturn, 1) := by decide +kernel
theorem dX12_meets_33 : decode cX12_meets 33 = .ok (.aload_n 0, 1) := by decide +kernel
theorem dX12_meets_34 : decode cX12_meets 34 = .ok (.iload_n 1, 1) := by decide +kernel
theorem dX12_meets_35 : decode cX12_meets 35 = .ok (.aload_n 0, 1) := by decide +kernel
theorem dX12_meets_36 : decode cX12_meets 36 = .ok (.getfield 74, 3) := by decide +kernel
theorem dX12_meets_39 : decode cX12_meets 39 = .ok (.iload_n 1, 1) := by decide +kernel
theorem dX12_meets_40 : decode cX12_meets 40 = .ok (.iaload, 1) := by decide +kernel
theorem dX12_meets_41 : decode cX12_meets 41 = .ok (.aload_n 0, 1) := by decide +kernel
theorem dX12_meets_42 : decode cX12_meets 42 = .ok (.getfield 77, 3) := by decide +kernel
theorem dX12_meets_45 : decode cX12_meets 45 = .ok (.iload_n 1, 1) := by decide +kernel
theorem dX12_meets_46 : decode cX12_meets 46 = .ok (.iaload, 1) := by decide +kernel
theorem dX12_meets_47 : decode cX12_meets 47 = .ok (.aload_n 0, 1) := by decide +kernel
theorem dX12_meets_48 : decode cX12_meets 48 = .ok (.getfield 80, 3) := by decide +kernel
theorem dX12_meets_51 : decode cX12_meets 51 = .ok (.iload_n 1, 1) := by decide +kernel
theorem dX12_meets_52 : decode cX12_meets 52 = .ok (.iaload, 1) := by decide +kernel
theorem dX12_meets_53 : decode cX12_meets 53 = .ok (.iload_n 2, 1) := by decide +kernel
theorem dX12_meets_54 : decode cX12_meets 54 = .ok (.invokevirtual 333, 3) := by decide +kernel
theorem dX12_meets_57 : decode cX12_meets 57 = .ok (.aload_n 0, 1) := by decide +kernel
theorem dX12_meets_58 : decode cX12_meets 58 = .ok (.iload_n 1, 1) := by decide +kernel
theorem dX12_meets_59 : decode cX12_meets 59 = .ok (.invokevirtual 322, 3) := by decide +kernel
theorem dX12_meets_62 : decode cX12_meets 62 = .ok (.ireturn, 1) := by decide +kernel
theorem dX12_does_0 : decode cX12_does 0 = .ok (.aload_n 0, 1) := by decide +kernel
theorem dX12_does_1 : decode cX12_does 1 = .ok (.iload_n 1, 1) := by decide +kernel
theorem dX12_does_2 : decode cX12_does 2 = .ok (.aload_n 0, 1) := by decide +kernel
theorem dX12_does_3 : decode cX12_does 3 = .ok (.getfield 74, 3) := by decide +kernel
theorem dX12_does_6 : decode cX12_does 6 = .ok (.iload_n 1, 1) := by decide +kernel
theorem dX12_does_7 : decode cX12_does 7 = .ok (.iaload, 1) := by decide +kernel
theorem dX12_does_8 : decode cX12_does 8 = .ok (.aload_n 0, 1) := by decide +kernel
theorem dX12_does_9 : decode cX12_does 9 = .ok (.getfield 77, 3) := by decide +kernel
theorem dX12_does_12 : decode cX12_does 12 = .ok (.iload_n 1, 1) := by decide +kernel
theorem dX12_does_13 : decode cX12_does 13 = .ok (.iaload, 1) := by decide +kernel
theorem dX12_does_14 : decode cX12_does 14 = .ok (.aload_n 0, 1) := by decide +kernel
theorem dX12_does_15 : decode cX12_does 15 = .ok (.getfield 80, 3) := by decide +kernel
theorem dX12_does_18 : decode cX12_does 18 = .ok (.iload_n 1, 1) := by decide +kernel
theorem dX12_does_19 : decode cX12_does 19 = .ok (.iaload, 1) := by decide +kernel
theorem dX12_does_20 : decode cX12_does 20 = .ok (.iload_n 2, 1) := by decide +kernel
theorem dX12_does_21 : decode cX12_does 21 = .ok (.invokevirtual 333, 3) := by decide +kernel
theorem dX12_does_24 : decode cX12_does 24 = .ok (.aload_n 0, 1) := by decide +kernel
theorem dX12_does_25 : decode cX12_does 25 = .ok (.iload_n 1, 1) := by decide +kernel
theorem dX12_does_26 : decode cX12_does 26 = .ok (.invokevirtual 322, 3) := by decide +kernel
theorem dX12_does_29 : decode cX12_does 29 = .ok (.ifCond .eq 5, 3) := by decide +kernel
theorem dX12_does_32 : decode cX12_does 32 = .ok (.iconst 0, 1) := by decide +kernel
theorem dX12_does_33 : decode cX12_does 33 = .ok (.ireturn, 1) := by decide +kernel
theorem dX12_does_34 : decode cX12_does 34 = .ok (.aload_n 0, 1) := by decide +kernel
theorem dX12_does_35 : decode cX12_does 35 = .ok (.iload_n 1, 1) := by decide +kernel
theorem dX12_does_36 : decode cX12_does 36 = .ok (.invokevirtual 325, 3) := by decide +kernel
theorem dX12_does_39 : decode cX12_does 39 = .ok (.aload_n 0, 1) := by decide +kernel
theorem dX12_does_40 : decode cX12_does 40 = .ok (.getfield 83, 3) := by decide +kernel
theorem dX12_does_43 : decode cX12_does 43 = .ok (.iload_n 1, 1) := by decide +kernel
theorem dX12_does_44 : decode cX12_does 44 = .ok (.dup2, 1) := by decide +kernel
theorem dX12_does_45 : decode cX12_does 45 = .ok (.iaload, 1) := by decide +kernel
theorem dX12_does_46 : decode cX12_does 46 = .ok (.iconst 1, 1) := by decide +kernel
theorem dX12_does_47 : decode cX12_does 47 = .ok (.iadd, 1) := by decide +kernel
theorem dX12_does_48 : decode cX12_does 48 = .ok (.iastore, 1) := by decide +kernel
theorem dX12_does_49 : decode cX12_does 49 = .ok (.iconst 1, 1) := by decide +kernel
theorem dX12_does_50 : decode cX12_does 50 = .ok (.ireturn, 1) := by decide +kernel
theorem dX12_move_0 : decode cX12_move 0 = .ok (.aload_n 0, 1) := by decide +kernel
theorem dX12_move_1 : decode cX12_move 1 = .ok (.iload_n 1, 1) := by decide +kernel
theorem dX12_move_2 : decode cX12_move 2 = .ok (.invokevirtual 257, 3) := by decide +kernel
theorem dX12_move_5 : decode cX12_move 5 = .ok (.ifCond .eq 13, 3) := by decide +kernel
theorem dX12_move_8 : decode cX12_move 8 = .ok (.iload_n 2, 1) := by decide +kernel
theorem dX12_move_9 : decode cX12_move 9 = .ok (.iconst 0, 1) := by decide +kernel
theorem dX12_move_10 : decode cX12_move 10 = .ok (.bipush 9, 2) := by decide +kernel
theorem dX12_move_12 : decode cX12_move 12 = .ok (.invokestatic 217, 3) := by decide +kernel
theorem dX12_move_15 : decode cX12_move 15 = .ok (.ifCond .ne 6, 3) := by decide +kernel
theorem dX12_move_18 : decode cX12_move 18 = .ok (.bipush (-2), 2) := by decide +kernel
theorem dX12_move_20 : decode cX12_move 20 = .ok (.ireturn, 1) := by decide +kernel
theorem dX12_move_21 : decode cX12_move 21 = .ok (.aload_n 0, 1) := by decide +kernel
theorem dX12_move_22 : decode cX12_move 22 = .ok (.getfield 71, 3) := by decide +kernel
theorem dX12_move_25 : decode cX12_move 25 = .ok (.iload_n 1, 1) := by decide +kernel
theorem dX12_move_26 : decode cX12_move 26 = .ok (.baload, 1) := by decide +kernel
theorem dX12_move_27 : decode cX12_move 27 = .ok (.ifCond .eq 16, 3) := by decide +kernel
theorem dX12_move_30 : decode cX12_move 30 = .ok (.aload_n 0, 1) := by decide +kernel
theorem dX12_move_31 : decode cX12_move 31 = .ok (.iload_n 1, 1) := by decide +kernel
theorem dX12_move_32 : decode cX12_move 32 = .ok (.iload_n 2, 1) := by decide +kernel
theorem dX12_move_33 : decode cX12_move 33 = .ok (.invokevirtual 337, 3) := by decide +kernel
theorem dX12_move_36 : decode cX12_move 36 = .ok (.ifCond .eq 7, 3) := by decide +kernel
theorem dX12_move_39 : decode cX12_move 39 = .ok (.iconst 1, 1) := by decide +kernel
theorem dX12_move_40 : decode cX12_move 40 = .ok (.goto 5, 3) := by decide +kernel
theorem dX12_move_43 : decode cX12_move 43 = .ok (.bipush (-3), 2) := by decide +kernel
theorem dX12_move_45 : decode cX12_move 45 = .ok (.ireturn, 1) := by decide +kernel
theorem dX12_slotOf_0 : decode cX12_slotOf 0 = .ok (.iload_n 1, 1) := by decide +kernel
theorem dX12_slotOf_1 : decode cX12_slotOf 1 = .ok (.bipush 31, 2) := by decide +kernel
theorem dX12_slotOf_3 : decode cX12_slotOf 3 = .ok (.imul, 1) := by decide +kernel
theorem dX12_slotOf_4 : decode cX12_slotOf 4 = .ok (.iload_n 2, 1) := by decide +kernel
theorem dX12_slotOf_5 : decode cX12_slotOf 5 = .ok (.bipush 17, 2) := by decide +kernel
theorem dX12_slotOf_7 : decode cX12_slotOf 7 = .ok (.imul, 1) := by decide +kernel
theorem dX12_slotOf_8 : decode cX12_slotOf 8 = .ok (.iadd, 1) := by decide +kernel
theorem dX12_slotOf_9 : decode cX12_slotOf 9 = .ok (.iload_n 3, 1) := by decide +kernel
theorem dX12_slotOf_10 : decode cX12_slotOf 10 = .ok (.sipush 7919, 3) := by decide +kernel
theorem dX12_slotOf_13 : decode cX12_slotOf 13 = .ok (.imul, 1) := by decide +kernel
theorem dX12_slotOf_14 : decode cX12_slotOf 14 = .ok (.iadd, 1) := by decide +kernel
theorem dX12_slotOf_15 : decode cX12_slotOf 15 = .ok (.sipush 4095, 3) := by decide +kernel
theorem dX12_slotOf_18 : decode cX12_slotOf 18 = .ok (.iand, 1) := by decide +kernel
theorem dX12_slotOf_19 : decode cX12_slotOf 19 = .ok (.istore 4, 2) := by decide +kernel
theorem dX12_slotOf_21 : decode cX12_slotOf 21 = .ok (.aload_n 0, 1) := by decide +kernel
theorem dX12_slotOf_22 : decode cX12_slotOf 22 = .ok (.getfield 108, 3) := by decide +kernel
theorem dX12_slotOf_25 : decode cX12_slotOf 25 = .ok (.iload 4, 2) := by decide +kernel
theorem dX12_slotOf_27 : decode cX12_slotOf 27 = .ok (.iaload, 1) := by decide +kernel
theorem dX12_slotOf_28 : decode cX12_slotOf 28 = .ok (.ifCond .eq 70, 3) := by decide +kernel
theorem dX12_slotOf_31 : decode cX12_slotOf 31 = .ok (.aload_n 0, 1) := by decide +kernel
theorem dX12_slotOf_32 : decode cX12_slotOf 32 = .ok (.getfield 90, 3) := by decide +kernel
theorem dX12_slotOf_35 : decode cX12_slotOf 35 = .ok (.aload_n 0, 1) := by decide +kernel
theorem dX12_slotOf_36 : decode cX12_slotOf 36 = .ok (.getfield 108, 3) := by decide +kernel
theorem dX12_slotOf_39 : decode cX12_slotOf 39 = .ok (.iload 4, 2) := by decide +kernel
theorem dX12_slotOf_41 : decode cX12_slotOf 41 = .ok (.iaload, 1) := by decide +kernel
theorem dX12_slotOf_42 : decode cX12_slotOf 42 = .ok (.iconst 1, 1) := by decide +kernel
theorem dX12_slotOf_43 : decode cX12_slotOf 43 = .ok (.isub, 1) := by decide +kernel
theorem dX12_slotOf_44 : decode cX12_slotOf 44 = .ok (.iaload, 1) := by decide +kernel
theorem dX12_slotOf_45 : decode cX12_slotOf 45 = .ok (.iload_n 1, 1) := by decide +kernel
theorem dX12_slotOf_46 : decode cX12_slotOf 46 = .ok (.if_icmp .ne 39, 3) := by decide +kernel
theorem dX12_slotOf_49 : decode cX12_slotOf 49 = .ok (.aload_n 0, 1) := by decide +kernel
theorem dX12_slotOf_50 : decode cX12_slotOf 50 = .ok (.getfield 93, 3) := by decide +kernel
theorem dX12_slotOf_53 : decode cX12_slotOf 53 = .ok (.aload_n 0, 1) := by decide +kernel
theorem dX12_slotOf_54 : decode cX12_slotOf 54 = .ok (.getfield 108, 3) := by decide +kernel
theorem dX12_slotOf_57 : decode cX12_slotOf 57 = .ok (.iload 4, 2) := by decide +kernel
theorem dX12_slotOf_59 : decode cX12_slotOf 59 = .ok (.iaload, 1) := by decide +kernel
theorem dX12_slotOf_60 : decode cX12_slotOf 60 = .ok (.iconst 1, 1) := by decide +kernel
theorem dX12_slotOf_61 : decode cX12_slotOf 61 = .ok (.isub, 1) := by decide +kernel
theorem dX12_slotOf_62 : decode cX12_slotOf 62 = .ok (.iaload, 1) := by decide +kernel
theorem dX12_slotOf_63 : decode cX12_slotOf 63 = .ok (.iload_n 2, 1) := by decide +kernel
theorem dX12_slotOf_64 : decode cX12_slotOf 64 = .ok (.if_icmp .ne 21, 3) := by decide +kernel
theorem dX12_slotOf_67 : decode cX12_slotOf 67 = .ok (.aload_n 0, 1) := by decide +kernel
theorem dX12_slotOf_68 : decode cX12_slotOf 68 = .ok (.getfield 96, 3) := by decide +kernel
theorem dX12_slotOf_71 : decode cX12_slotOf 71 = .ok (.aload_n 0, 1) := by decide +kernel
theorem dX12_slotOf_72 : decode cX12_slotOf 72 = .ok (.getfield 108, 3) := by decide +kernel
theorem dX12_slotOf_75 : decode cX12_slotOf 75 = .ok (.iload 4, 2) := by decide +kernel
theorem dX12_slotOf_77 : decode cX12_slotOf 77 = .ok (.iaload, 1) := by decide +kernel
theorem dX12_slotOf_78 : decode cX12_slotOf 78 = .ok (.iconst 1, 1) := by decide +kernel
theorem dX12_slotOf_79 : decode cX12_slotOf 79 = .ok (.isub, 1) := by decide +kernel
theorem dX12_slotOf_80 : decode cX12_slotOf 80 = .ok (.iaload, 1) := by decide +kernel
theorem dX12_slotOf_81 : decode cX12_slotOf 81 = .ok (.iload_n 3, 1) := by decide +kernel
theorem dX12_slotOf_82 : decode cX12_slotOf 82 = .ok (.if_icmp .eq 16, 3) := by decide +kernel
theorem dX12_slotOf_85 : decode cX12_slotOf 85 = .ok (.iload 4, 2) := by decide +kernel
theorem dX12_slotOf_87 : decode cX12_slotOf 87 = .ok (.iconst 1, 1) := by decide +kernel
theorem dX12_slotOf_88 : decode cX12_slotOf 88 = .ok (.iadd, 1) := by decide +kernel
theorem dX12_slotOf_89 : decode cX12_slotOf 89 = .ok (.sipush 4095, 3) := by decide +kernel
theorem dX12_slotOf_92 : decode cX12_slotOf 92 = .ok (.iand, 1) := by decide +kernel
theorem dX12_slotOf_93 : decode cX12_slotOf 93 = .ok (.istore 4, 2) := by decide +kernel
theorem dX12_slotOf_95 : decode cX12_slotOf 95 = .ok (.goto (-74), 3) := by decide +kernel
theorem dX12_slotOf_98 : decode cX12_slotOf 98 = .ok (.iload 4, 2) := by decide +kernel
theorem dX12_slotOf_100 : decode cX12_slotOf 100 = .ok (.ireturn, 1) := by decide +kernel
theorem dX12_counts_0 : decode cX12_counts 0 = .ok (.aload_n 0, 1) := by decide +kernel
theorem dX12_counts_1 : decode cX12_counts 1 = .ok (.getfield 90, 3) := by decide +kernel
theorem dX12_counts_4 : decode cX12_counts 4 = .ok (.aload_n 0, 1) := by decide +kernel
theorem dX12_counts_5 : decode cX12_counts 5 = .ok (.getfield 340, 3) := by decide +kernel
theorem dX12_counts_8 : decode cX12_counts 8 = .ok (.aload_n 0, 1) := by decide +kernel
theorem dX12_counts_9 : decode cX12_counts 9 = .ok (.getfield 270, 3) := by decide +kernel
theorem dX12_counts_12 : decode cX12_counts 12 = .ok (.iastore, 1) := by decide +kernel
theorem dX12_counts_13 : decode cX12_counts 13 = .ok (.aload_n 0, 1) := by decide +kernel
theorem dX12_counts_14 : decode cX12_counts 14 = .ok (.getfield 93, 3) := by decide +kernel
theorem dX12_counts_17 : decode cX12_counts 17 = .ok (.aload_n 0, 1) := by decide +kernel
theorem dX12_counts_18 : decode cX12_counts 18 = .ok (.getfield 340, 3) := by decide +kernel
theorem dX12_counts_21 : decode cX12_counts 21 = .ok (.aload_n 0, 1) := by decide +kernel
theorem dX12_counts_22 : decode cX12_counts 22 = .ok (.getfield 273, 3) := by decide +kernel
theorem dX12_counts_25 : decode cX12_counts 25 = .ok (.iastore, 1) := by decide +kernel
theorem dX12_counts_26 : decode cX12_counts 26 = .ok (.aload_n 0, 1) := by decide +kernel
theorem dX12_counts_27 : decode cX12_counts 27 = .ok (.getfield 96, 3) := by decide +kernel
theorem dX12_counts_30 : decode cX12_counts 30 = .ok (.aload_n 0, 1) := by decide +kernel
theorem dX12_counts_31 : decode cX12_counts 31 = .ok (.getfield 340, 3) := by decide +kernel
theorem dX12_counts_34 : decode cX12_counts 34 = .ok (.aload_n 0, 1) := by decide +kernel
theorem dX12_counts_35 : decode cX12_counts 35 = .ok (.getfield 276, 3) := by decide +kernel
theorem dX12_counts_38 : decode cX12_counts 38 = .ok (.iastore, 1) := by decide +kernel
theorem dX12_counts_39 : decode cX12_counts 39 = .ok (.aload_n 0, 1) := by decide +kernel
theorem dX12_counts_40 : decode cX12_counts 40 = .ok (.getfield 99, 3) := by decide +kernel
theorem dX12_counts_43 : decode cX12_counts 43 = .ok (.aload_n 0, 1) := by decide +kernel
theorem dX12_counts_44 : decode cX12_counts 44 = .ok (.getfield 340, 3) := by decide +kernel
theorem dX12_counts_47 : decode cX12_counts 47 = .ok (.iload_n 2, 1) := by decide +kernel
theorem dX12_counts_48 : decode cX12_counts 48 = .ok (.iastore, 1) := by decide +kernel
theorem dX12_counts_49 : decode cX12_counts 49 = .ok (.aload_n 0, 1) := by decide +kernel
theorem dX12_counts_50 : decode cX12_counts 50 = .ok (.getfield 102, 3) := by decide +kernel
theorem dX12_counts_53 : decode cX12_counts 53 = .ok (.aload_n 0, 1) := by decide +kernel
theorem dX12_counts_54 : decode cX12_counts 54 = .ok (.getfield 340, 3) := by decide +kernel
theorem dX12_counts_57 : decode cX12_counts 57 = .ok (.iload_n 3, 1) := by decide +kernel
theorem dX12_counts_58 : decode cX12_counts 58 = .ok (.iastore, 1) := by decide +kernel
theorem dX12_counts_59 : decode cX12_counts 59 = .ok (.aload_n 0, 1) := by decide +kernel
theorem dX12_counts_60 : decode cX12_counts 60 = .ok (.getfield 105, 3) := by decide +kernel
theorem dX12_counts_63 : decode cX12_counts 63 = .ok (.aload_n 0, 1) := by decide +kernel
theorem dX12_counts_64 : decode cX12_counts 64 = .ok (.getfield 340, 3) := by decide +kernel
theorem dX12_counts_67 : decode cX12_counts 67 = .ok (.iload 4, 2) := by decide +kernel
theorem dX12_counts_69 : decode cX12_counts 69 = .ok (.iastore, 1) := by decide +kernel
theorem dX12_counts_70 : decode cX12_counts 70 = .ok (.aload_n 0, 1) := by decide +kernel
theorem dX12_counts_71 : decode cX12_counts 71 = .ok (.dup, 1) := by decide +kernel
theorem dX12_counts_72 : decode cX12_counts 72 = .ok (.getfield 340, 3) := by decide +kernel
theorem dX12_counts_75 : decode cX12_counts 75 = .ok (.iconst 1, 1) := by decide +kernel
theorem dX12_counts_76 : decode cX12_counts 76 = .ok (.iadd, 1) := by decide +kernel
theorem dX12_counts_77 : decode cX12_counts 77 = .ok (.putfield 340, 3) := by decide +kernel
theorem dX12_counts_80 : decode cX12_counts 80 = .ok (.aload_n 0, 1) := by decide +kernel
theorem dX12_counts_81 : decode cX12_counts 81 = .ok (.getfield 108, 3) := by decide +kernel
theorem dX12_counts_84 : decode cX12_counts 84 = .ok (.iload_n 1, 1) := by decide +kernel
theorem dX12_counts_85 : decode cX12_counts 85 = .ok (.aload_n 0, 1) := by decide +kernel
theorem dX12_counts_86 : decode cX12_counts 86 = .ok (.getfield 340, 3) := by decide +kernel
theorem dX12_counts_89 : decode cX12_counts 89 = .ok (.iastore, 1) := by decide +kernel
theorem dX12_counts_90 : decode cX12_counts 90 = .ok (.return_, 1) := by decide +kernel
theorem dX12_isGoal_0 : decode cX12_isGoal 0 = .ok (.aload_n 0, 1) := by decide +kernel
theorem dX12_isGoal_1 : decode cX12_isGoal 1 = .ok (.getfield 276, 3) := by decide +kernel
theorem dX12_isGoal_4 : decode cX12_isGoal 4 = .ok (.iload 6, 2) := by decide +kernel
theorem dX12_isGoal_6 : decode cX12_isGoal 6 = .ok (.if_icmp .eq 5, 3) := by decide +kernel
theorem dX12_isGoal_9 : decode cX12_isGoal 9 = .ok (.iconst 0, 1) := by decide +kernel
theorem dX12_isGoal_10 : decode cX12_isGoal 10 = .ok (.ireturn, 1) := by decide +kernel
theorem dX12_isGoal_11 : decode cX12_isGoal 11 = .ok (.iconst 0, 1) := by decide +kernel
theorem dX12_isGoal_12 : decode cX12_isGoal 12 = .ok (.istore 7, 2) := by decide +kernel
theorem dX12_isGoal_14 : decode cX12_isGoal 14 = .ok (.iload 7, 2) := by decide +kernel
theorem dX12_isGoal_16 : decode cX12_isGoal 16 = .ok (.iconst 4, 1) := by decide +kernel
theorem dX12_isGoal_17 : decode cX12_isGoal 17 = .ok (.if_icmp .ge 71, 3) := by decide +kernel
theorem dX12_isGoal_20 : decode cX12_isGoal 20 = .ok (.aload_n 0, 1) := by decide +kernel
theorem dX12_isGoal_21 : decode cX12_isGoal 21 = .ok (.iload_n 1, 1) := by decide +kernel
theorem dX12_isGoal_22 : decode cX12_isGoal 22 = .ok (.iload 7, 2) := by decide +kernel
theorem dX12_isGoal_24 : decode cX12_isGoal 24 = .ok (.aload_n 0, 1) := by decide +kernel
theorem dX12_isGoal_25 : decode cX12_isGoal 25 = .ok (.getfield 270, 3) := by decide +kernel
theorem dX12_isGoal_28 : decode cX12_isGoal 28 = .ok (.aload_n 0, 1) := by decide +kernel
theorem dX12_isGoal_29 : decode cX12_isGoal 29 = .ok (.getfield 276, 3) := by decide +kernel
theorem dX12_isGoal_32 : decode cX12_isGoal 32 = .ok (.invokevirtual 299, 3) := by decide +kernel
theorem dX12_isGoal_35 : decode cX12_isGoal 35 = .ok (.bipush 65, 2) := by decide +kernel
theorem dX12_isGoal_37 : decode cX12_isGoal 37 = .ok (.iload_n 2, 1) := by decide +kernel
theorem dX12_isGoal_38 : decode cX12_isGoal 38 = .ok (.imul, 1) := by decide +kernel
theorem dX12_isGoal_39 : decode cX12_isGoal 39 = .ok (.bipush 65, 2) := by decide +kernel
theorem dX12_isGoal_41 : decode cX12_isGoal 41 = .ok (.iload 4, 2) := by decide +kernel
theorem dX12_isGoal_43 : decode cX12_isGoal 43 = .ok (.imul, 1) := by decide +kernel
theorem dX12_isGoal_44 : decode cX12_isGoal 44 = .ok (.invokestatic 217, 3) := by decide +kernel
theorem dX12_isGoal_47 : decode cX12_isGoal 47 = .ok (.ifCond .eq 33, 3) := by decide +kernel
theorem dX12_isGoal_50 : decode cX12_isGoal 50 = .ok (.aload_n 0, 1) := by decide +kernel
theorem dX12_isGoal_51 : decode cX12_isGoal 51 = .ok (.iload_n 1, 1) := by decide +kernel
theorem dX12_isGoal_52 : decode cX12_isGoal 52 = .ok (.iload 7, 2) := by decide +kernel
theorem dX12_isGoal_54 : decode cX12_isGoal 54 = .ok (.aload_n 0, 1) := by decide +kernel
theorem dX12_isGoal_55 : decode cX12_isGoal 55 = .ok (.getfield 273, 3) := by decide +kernel
theorem dX12_isGoal_58 : decode cX12_isGoal 58 = .ok (.aload_n 0, 1) := by decide +kernel
theorem dX12_isGoal_59 : decode cX12_isGoal 59 = .ok (.getfield 276, 3) := by decide +kernel
theorem dX12_isGoal_62 : decode cX12_isGoal 62 = .ok (.invokevirtual 303, 3) := by decide +kernel
theorem dX12_isGoal_65 : decode cX12_isGoal 65 = .ok (.bipush 65, 2) := by decide +kernel
theorem dX12_isGoal_67 : decode cX12_isGoal 67 = .ok (.iload_n 3, 1) := by decide +kernel
theorem dX12_isGoal_68 : decode cX12_isGoal 68 = .ok (.imul, 1) := by decide +kernel
theorem dX12_isGoal_69 : decode cX12_isGoal 69 = .ok (.bipush 65, 2) := by decide +kernel
theorem dX12_isGoal_71 : decode cX12_isGoal 71 = .ok (.iload 5, 2) := by decide +kernel
theorem dX12_isGoal_73 : decode cX12_isGoal 73 = .ok (.imul, 1) := by decide +kernel
theorem dX12_isGoal_74 : decode cX12_isGoal 74 = .ok (.invokestatic 217, 3) := by decide +kernel
theorem dX12_isGoal_77 : decode cX12_isGoal 77 = .ok (.ifCond .ne 5, 3) := by decide +kernel
theorem dX12_isGoal_80 : decode cX12_isGoal 80 = .ok (.iconst 0, 1) := by decide +kernel
theorem dX12_isGoal_81 : decode cX12_isGoal 81 = .ok (.ireturn, 1) := by decide +kernel
theorem dX12_isGoal_82 : decode cX12_isGoal 82 = .ok (.iinc 7 1, 3) := by decide +kernel
theorem dX12_isGoal_85 : decode cX12_isGoal 85 = .ok (.goto (-71), 3) := by decide +kernel
theorem dX12_isGoal_88 : decode cX12_isGoal 88 = .ok (.iconst 1, 1) := by decide +kernel
theorem dX12_isGoal_89 : decode cX12_isGoal 89 = .ok (.ireturn, 1) := by decide +kernel
theorem dX12_tells_0 : decode cX12_tells 0 = .ok (.aload_n 0, 1) := by decide +kernel
theorem dX12_tells_1 : decode cX12_tells 1 = .ok (.getfield 340, 3) := by decide +kernel
theorem dX12_tells_4 : decode cX12_tells 4 = .ok (.iconst 1, 1) := by decide +kernel
theorem dX12_tells_5 : decode cX12_tells 5 = .ok (.isub, 1) := by decide +kernel
theorem dX12_tells_6 : decode cX12_tells 6 = .ok (.istore_n 1, 1) := by decide +kernel
theorem dX12_tells_7 : decode cX12_tells 7 = .ok (.aload_n 0, 1) := by decide +kernel
theorem dX12_tells_8 : decode cX12_tells 8 = .ok (.aload_n 0, 1) := by decide +kernel
theorem dX12_tells_9 : decode cX12_tells 9 = .ok (.getfield 105, 3) := by decide +kernel
theorem dX12_tells_12 : decode cX12_tells 12 = .ok (.iload_n 1, 1) := by decide +kernel
theorem dX12_tells_13 : decode cX12_tells 13 = .ok (.iaload, 1) := by decide +kernel
theorem dX12_tells_14 : decode cX12_tells 14 = .ok (.putfield 343, 3) := by decide +kernel
theorem dX12_tells_17 : decode cX12_tells 17 = .ok (.aload_n 0, 1) := by decide +kernel
theorem dX12_tells_18 : decode cX12_tells 18 = .ok (.getfield 343, 3) := by decide +kernel
theorem dX12_tells_21 : decode cX12_tells 21 = .ok (.iconst 1, 1) := by decide +kernel
theorem dX12_tells_22 : decode cX12_tells 22 = .ok (.isub, 1) := by decide +kernel
theorem dX12_tells_23 : decode cX12_tells 23 = .ok (.istore_n 2, 1) := by decide +kernel
theorem dX12_tells_24 : decode cX12_tells 24 = .ok (.iload_n 2, 1) := by decide +kernel
theorem dX12_tells_25 : decode cX12_tells 25 = .ok (.ifCond .lt 28, 3) := by decide +kernel
theorem dX12_tells_28 : decode cX12_tells 28 = .ok (.aload_n 0, 1) := by decide +kernel
theorem dX12_tells_29 : decode cX12_tells 29 = .ok (.getfield 111, 3) := by decide +kernel
theorem dX12_tells_32 : decode cX12_tells 32 = .ok (.iload_n 2, 1) := by decide +kernel
theorem dX12_tells_33 : decode cX12_tells 33 = .ok (.aload_n 0, 1) := by decide +kernel
theorem dX12_tells_34 : decode cX12_tells 34 = .ok (.getfield 102, 3) := by decide +kernel
theorem dX12_tells_37 : decode cX12_tells 37 = .ok (.iload_n 1, 1) := by decide +kernel
theorem dX12_tells_38 : decode cX12_tells 38 = .ok (.iaload, 1) := by decide +kernel
theorem dX12_tells_39 : decode cX12_tells 39 = .ok (.iastore, 1) := by decide +kernel
theorem dX12_tells_40 : decode cX12_tells 40 = .ok (.aload_n 0, 1) := by decide +kernel
theorem dX12_tells_41 : decode cX12_tells 41 = .ok (.getfield 99, 3) := by decide +kernel
theorem dX12_tells_44 : decode cX12_tells 44 = .ok (.iload_n 1, 1) := by decide +kernel
theorem dX12_tells_45 : decode cX12_tells 45 = .ok (.iaload, 1) := by decide +kernel
theorem dX12_tells_46 : decode cX12_tells 46 = .ok (.istore_n 1, 1) := by decide +kernel
theorem dX12_tells_47 : decode cX12_tells 47 = .ok (.iinc 2 (-1), 3) := by decide +kernel
theorem dX12_tells_50 : decode cX12_tells 50 = .ok (.goto (-26), 3) := by decide +kernel
theorem dX12_tells_53 : decode cX12_tells 53 = .ok (.aload_n 0, 1) := by decide +kernel
theorem dX12_tells_54 : decode cX12_tells 54 = .ok (.getfield 343, 3) := by decide +kernel
theorem dX12_tells_57 : decode cX12_tells 57 = .ok (.ireturn, 1) := by decide +kernel
theorem dX12_way_0 : decode cX12_way 0 = .ok (.aload_n 0, 1) := by decide +kernel
theorem dX12_way_1 : decode cX12_way 1 = .ok (.iload_n 1, 1) := by decide +kernel
theorem dX12_way_2 : decode cX12_way 2 = .ok (.invokevirtual 257, 3) := by decide +kernel
theorem dX12_way_5 : decode cX12_way 5 = .ok (.ifCond .eq 23, 3) := by decide +kernel
theorem dX12_way_8 : decode cX12_way 8 = .ok (.iload_n 2, 1) := by decide +kernel
theorem dX12_way_9 : decode cX12_way 9 = .ok (.iload_n 3, 1) := by decide +kernel
theorem dX12_way_10 : decode cX12_way 10 = .ok (.iload 4, 2) := by decide +kernel
theorem dX12_way_12 : decode cX12_way 12 = .ok (.iload 5, 2) := by decide +kernel
theorem dX12_way_14 : decode cX12_way 14 = .ok (.invokestatic 228, 3) := by decide +kernel
theorem dX12_way_17 : decode cX12_way 17 = .ok (.ifCond .eq 11, 3) := by decide +kernel
theorem dX12_way_20 : decode cX12_way 20 = .ok (.iload 6, 2) := by decide +kernel
theorem dX12_way_22 : decode cX12_way 22 = .ok (.invokestatic 221, 3) := by decide +kernel
theorem dX12_way_25 : decode cX12_way 25 = .ok (.ifCond .ne 6, 3) := by decide +kernel
theorem dX12_way_28 : decode cX12_way 28 = .ok (.bipush (-2), 2) := by decide +kernel
theorem dX12_way_30 : decode cX12_way 30 = .ok (.ireturn, 1) := by decide +kernel
theorem dX12_way_31 : decode cX12_way 31 = .ok (.aload_n 0, 1) := by decide +kernel
theorem dX12_way_32 : decode cX12_way 32 = .ok (.getfield 71, 3) := by decide +kernel
theorem dX12_way_35 : decode cX12_way 35 = .ok (.iload_n 1, 1) := by decide +kernel
theorem dX12_way_36 : decode cX12_way 36 = .ok (.baload, 1) := by decide +kernel
theorem dX12_way_37 : decode cX12_way 37 = .ok (.ifCond .ne 6, 3) := by decide +kernel
theorem dX12_way_40 : decode cX12_way 40 = .ok (.bipush (-3), 2) := by decide +kernel
theorem dX12_way_42 : decode cX12_way 42 = .ok (.ireturn, 1) := by decide +kernel
theorem dX12_way_43 : decode cX12_way 43 = .ok (.iconst 0, 1) := by decide +kernel
theorem dX12_way_44 : decode cX12_way 44 = .ok (.istore 7, 2) := by decide +kernel
theorem dX12_way_46 : decode cX12_way 46 = .ok (.iload 7, 2) := by decide +kernel
theorem dX12_way_48 : decode cX12_way 48 = .ok (.sipush 4096, 3) := by decide +kernel
theorem dX12_way_51 : decode cX12_way 51 = .ok (.if_icmp .ge 17, 3) := by decide +kernel
theorem dX12_way_54 : decode cX12_way 54 = .ok (.aload_n 0, 1) := by decide +kernel
theorem dX12_way_55 : decode cX12_way 55 = .ok (.getfield 108, 3) := by decide +kernel
theorem dX12_way_58 : decode cX12_way 58 = .ok (.iload 7, 2) := by decide +kernel
theorem dX12_way_60 : decode cX12_way 60 = .ok (.iconst 0, 1) := by decide +kernel
theorem dX12_way_61 : decode cX12_way 61 = .ok (.iastore, 1) := by decide +kernel
theorem dX12_way_62 : decode cX12_way 62 = .ok (.iinc 7 1, 3) := by decide +kernel
theorem dX12_way_65 : decode cX12_way 65 = .ok (.goto (-19), 3) := by decide +kernel
theorem dX12_way_68 : decode cX12_way 68 = .ok (.aload_n 0, 1) := by decide +kernel
theorem dX12_way_69 : decode cX12_way 69 = .ok (.iconst 0, 1) := by decide +kernel
theorem dX12_way_70 : decode cX12_way 70 = .ok (.putfield 340, 3) := by decide +kernel
theorem dX12_way_73 : decode cX12_way 73 = .ok (.aload_n 0, 1) := by decide +kernel
theorem dX12_way_74 : decode cX12_way 74 = .ok (.iload_n 1, 1) := by decide +kernel
theorem dX12_way_75 : decode cX12_way 75 = .ok (.aload_n 0, 1) := by decide +kernel
theorem dX12_way_76 : decode cX12_way 76 = .ok (.getfield 74, 3) := by decide +kernel
theorem dX12_way_79 : decode cX12_way 79 = .ok (.iload_n 1, 1) := by decide +kernel
theorem dX12_way_80 : decode cX12_way 80 = .ok (.iaload, 1) := by decide +kernel
theorem dX12_way_81 : decode cX12_way 81 = .ok (.aload_n 0, 1) := by decide +kernel
theorem dX12_way_82 : decode cX12_way 82 = .ok (.getfield 77, 3) := by decide +kernel
theorem dX12_way_85 : decode cX12_way 85 = .ok (.iload_n 1, 1) := by decide +kernel
theorem dX12_way_86 : decode cX12_way 86 = .ok (.iaload, 1) := by decide +kernel
theorem dX12_way_87 : decode cX12_way 87 = .ok (.aload_n 0, 1) := by decide +kernel
theorem dX12_way_88 : decode cX12_way 88 = .ok (.getfield 80, 3) := by decide +kernel
theorem dX12_way_91 : decode cX12_way 91 = .ok (.iload_n 1, 1) := by decide +kernel
theorem dX12_way_92 : decode cX12_way 92 = .ok (.iaload, 1) := by decide +kernel
theorem dX12_way_93 : decode cX12_way 93 = .ok (.bipush 10, 2) := by decide +kernel
theorem dX12_way_95 : decode cX12_way 95 = .ok (.invokevirtual 333, 3) := by decide +kernel
theorem dX12_way_98 : decode cX12_way 98 = .ok (.aload_n 0, 1) := by decide +kernel
theorem dX12_way_99 : decode cX12_way 99 = .ok (.aload_n 0, 1) := by decide +kernel
theorem dX12_way_100 : decode cX12_way 100 = .ok (.aload_n 0, 1) := by decide +kernel
theorem dX12_way_101 : decode cX12_way 101 = .ok (.getfield 270, 3) := by decide +kernel
theorem dX12_way_104 : decode cX12_way 104 = .ok (.aload_n 0, 1) := by decide +kernel
theorem dX12_way_105 : decode cX12_way 105 = .ok (.getfield 273, 3) := by decide +kernel
theorem dX12_way_108 : decode cX12_way 108 = .ok (.aload_n 0, 1) := by decide +kernel
theorem dX12_way_109 : decode cX12_way 109 = .ok (.getfield 276, 3) := by decide +kernel
theorem dX12_way_112 : decode cX12_way 112 = .ok (.invokevirtual 346, 3) := by decide +kernel
theorem dX12_way_115 : decode cX12_way 115 = .ok (.iconst 0, 1) := by decide +kernel
theorem dX12_way_116 : decode cX12_way 116 = .ok (.iconst 0, 1) := by decide +kernel
theorem dX12_way_117 : decode cX12_way 117 = .ok (.iconst 0, 1) := by decide +kernel
theorem dX12_way_118 : decode cX12_way 118 = .ok (.invokevirtual 350, 3) := by decide +kernel
theorem dX12_way_121 : decode cX12_way 121 = .ok (.aload_n 0, 1) := by decide +kernel
theorem dX12_way_122 : decode cX12_way 122 = .ok (.iload_n 1, 1) := by decide +kernel
theorem dX12_way_123 : decode cX12_way 123 = .ok (.iload_n 2, 1) := by decide +kernel
theorem dX12_way_124 : decode cX12_way 124 = .ok (.iload_n 3, 1) := by decide +kernel
theorem dX12_way_125 : decode cX12_way 125 = .ok (.iload 4, 2) := by decide +kernel
theorem dX12_way_127 : decode cX12_way 127 = .ok (.iload 5, 2) := by decide +kernel
theorem dX12_way_129 : decode cX12_way 129 = .ok (.iload 6, 2) := by decide +kernel
theorem dX12_way_131 : decode cX12_way 131 = .ok (.invokevirtual 354, 3) := by decide +kernel
theorem dX12_way_134 : decode cX12_way 134 = .ok (.ifCond .eq 8, 3) := by decide +kernel
theorem dX12_way_137 : decode cX12_way 137 = .ok (.aload_n 0, 1) := by decide +kernel
theorem dX12_way_138 : decode cX12_way 138 = .ok (.invokevirtual 358, 3) := by decide +kernel
theorem dX12_way_141 : decode cX12_way 141 = .ok (.ireturn, 1) := by decide +kernel
theorem dX12_way_142 : decode cX12_way 142 = .ok (.iconst 0, 1) := by decide +kernel
theorem dX12_way_143 : decode cX12_way 143 = .ok (.istore 7, 2) := by decide +kernel
theorem dX12_way_145 : decode cX12_way 145 = .ok (.iload 7, 2) := by decide +kernel
theorem dX12_way_147 : decode cX12_way 147 = .ok (.aload_n 0, 1) := by decide +kernel
theorem dX12_way_148 : decode cX12_way 148 = .ok (.getfield 340, 3) := by decide +kernel
theorem dX12_way_151 : decode cX12_way 151 = .ok (.if_icmp .ge 154, 3) := by decide +kernel
theorem dX12_way_154 : decode cX12_way 154 = .ok (.aload_n 0, 1) := by decide +kernel
theorem dX12_way_155 : decode cX12_way 155 = .ok (.getfield 105, 3) := by decide +kernel
theorem dX12_way_158 : decode cX12_way 158 = .ok (.iload 7, 2) := by decide +kernel
theorem dX12_way_160 : decode cX12_way 160 = .ok (.iaload, 1) := by decide +kernel
theorem dX12_way_161 : decode cX12_way 161 = .ok (.bipush 12, 2) := by decide +kernel
theorem dX12_way_163 : decode cX12_way 163 = .ok (.if_icmp .ge 142, 3) := by decide +kernel
theorem dX12_way_166 : decode cX12_way 166 = .ok (.iconst 0, 1) := by decide +kernel
theorem dX12_way_167 : decode cX12_way 167 = .ok (.istore 8, 2) := by decide +kernel
theorem dX12_way_169 : decode cX12_way 169 = .ok (.iload 8, 2) := by decide +kernel
theorem dX12_way_171 : decode cX12_way 171 = .ok (.bipush 10, 2) := by decide +kernel
theorem dX12_way_173 : decode cX12_way 173 = .ok (.if_icmp .ge 126, 3) := by decide +kernel
theorem dX12_way_176 : decode cX12_way 176 = .ok (.aload_n 0, 1) := by decide +kernel
theorem dX12_way_177 : decode cX12_way 177 = .ok (.iload_n 1, 1) := by decide +kernel
theorem dX12_way_178 : decode cX12_way 178 = .ok (.aload_n 0, 1) := by decide +kernel
theorem dX12_way_179 : decode cX12_way 179 = .ok (.getfield 90, 3) := by decide +kernel
theorem dX12_way_182 : decode cX12_way 182 = .ok (.iload 7, 2) := by decide +kernel
theorem dX12_way_184 : decode cX12_way 184 = .ok (.iaload, 1) := by decide +kernel
theorem dX12_way_185 : decode cX12_way 185 = .ok (.aload_n 0, 1) := by decide +kernel
theorem dX12_way_186 : decode cX12_way 186 = .ok (.getfield 93, 3) := by decide +kernel
theorem dX12_way_189 : decode cX12_way 189 = .ok (.iload 7, 2) := by decide +kernel
theorem dX12_way_191 : decode cX12_way 191 = .ok (.iaload, 1) := by decide +kernel
theorem dX12_way_192 : decode cX12_way 192 = .ok (.aload_n 0, 1) := by decide +kernel
theorem dX12_way_193 : decode cX12_way 193 = .ok (.getfield 96, 3) := by decide +kernel
theorem dX12_way_196 : decode cX12_way 196 = .ok (.iload 7, 2) := by decide +kernel
theorem dX12_way_198 : decode cX12_way 198 = .ok (.iaload, 1) := by decide +kernel
theorem dX12_way_199 : decode cX12_way 199 = .ok (.iload 8, 2) := by decide +kernel
theorem dX12_way_201 : decode cX12_way 201 = .ok (.invokevirtual 333, 3) := by decide +kernel
theorem dX12_way_204 : decode cX12_way 204 = .ok (.aload_n 0, 1) := by decide +kernel
theorem dX12_way_205 : decode cX12_way 205 = .ok (.aload_n 0, 1) := by decide +kernel
theorem dX12_way_206 : decode cX12_way 206 = .ok (.getfield 270, 3) := by decide +kernel
theorem dX12_way_209 : decode cX12_way 209 = .ok (.aload_n 0, 1) := by decide +kernel
theorem dX12_way_210 : decode cX12_way 210 = .ok (.getfield 273, 3) := by decide +kernel
theorem dX12_way_213 : decode cX12_way 213 = .ok (.aload_n 0, 1) := by decide +kernel
theorem dX12_way_214 : decode cX12_way 214 = .ok (.getfield 276, 3) := by decide +kernel
theorem dX12_way_217 : decode cX12_way 217 = .ok (.invokevirtual 346, 3) := by decide +kernel
theorem dX12_way_220 : decode cX12_way 220 = .ok (.istore 9, 2) := by decide +kernel
theorem dX12_way_222 : decode cX12_way 222 = .ok (.aload_n 0, 1) := by decide +kernel
theorem dX12_way_223 : decode cX12_way 223 = .ok (.getfield 108, 3) := by decide +kernel
theorem dX12_way_226 : decode cX12_way 226 = .ok (.iload 9, 2) := by decide +kernel
theorem dX12_way_228 : decode cX12_way 228 = .ok (.iaload, 1) := by decide +kernel
theorem dX12_way_229 : decode cX12_way 229 = .ok (.ifCond .ne 64, 3) := by decide +kernel
theorem dX12_way_232 : decode cX12_way 232 = .ok (.aload_n 0, 1) := by decide +kernel
theorem dX12_way_233 : decode cX12_way 233 = .ok (.iload_n 1, 1) := by decide +kernel
theorem dX12_way_234 : decode cX12_way 234 = .ok (.invokevirtual 322, 3) := by decide +kernel
theorem dX12_way_237 : decode cX12_way 237 = .ok (.ifCond .ne 56, 3) := by decide +kernel
theorem dX12_way_240 : decode cX12_way 240 = .ok (.aload_n 0, 1) := by decide +kernel
theorem dX12_way_241 : decode cX12_way 241 = .ok (.getfield 340, 3) := by decide +kernel
theorem dX12_way_244 : decode cX12_way 244 = .ok (.sipush 1500, 3) := by decide +kernel
theorem dX12_way_247 : decode cX12_way 247 = .ok (.if_icmp .ne 6, 3) := by decide +kernel
theorem dX12_way_250 : decode cX12_way 250 = .ok (.bipush (-5), 2) := by decide +kernel
theorem dX12_way_252 : decode cX12_way 252 = .ok (.ireturn, 1) := by decide +kernel
theorem dX12_way_253 : decode cX12_way 253 = .ok (.aload_n 0, 1) := by decide +kernel
theorem dX12_way_254 : decode cX12_way 254 = .ok (.iload 9, 2) := by decide +kernel
theorem dX12_way_256 : decode cX12_way 256 = .ok (.iload 7, 2) := by decide +kernel
theorem dX12_way_258 : decode cX12_way 258 = .ok (.iload 8, 2) := by decide +kernel
theorem dX12_way_260 : decode cX12_way 260 = .ok (.aload_n 0, 1) := by decide +kernel
theorem dX12_way_261 : decode cX12_way 261 = .ok (.getfield 105, 3) := by decide +kernel
theorem dX12_way_264 : decode cX12_way 264 = .ok (.iload 7, 2) := by decide +kernel
theorem dX12_way_266 : decode cX12_way 266 = .ok (.iaload, 1) := by decide +kernel
theorem dX12_way_267 : decode cX12_way 267 = .ok (.iconst 1, 1) := by decide +kernel
theorem dX12_way_268 : decode cX12_way 268 = .ok (.iadd, 1) := by decide +kernel
theorem dX12_way_269 : decode cX12_way 269 = .ok (.invokevirtual 350, 3) := by decide +kernel
theorem dX12_way_272 : decode cX12_way 272 = .ok (.aload_n 0, 1) := by decide +kernel
theorem dX12_way_273 : decode cX12_way 273 = .ok (.iload_n 1, 1) := by decide +kernel
theorem dX12_way_274 : decode cX12_way 274 = .ok (.iload_n 2, 1) := by decide +kernel
theorem dX12_way_275 : decode cX12_way 275 = .ok (.iload_n 3, 1) := by decide +kernel
theorem dX12_way_276 : decode cX12_way 276 = .ok (.iload 4, 2) := by decide +kernel
theorem dX12_way_278 : decode cX12_way 278 = .ok (.iload 5, 2) := by decide +kernel
theorem dX12_way_280 : decode cX12_way 280 = .ok (.iload 6, 2) := by decide +kernel
theorem dX12_way_282 : decode cX12_way 282 = .ok (.invokevirtual 354, 3) := by decide +kernel
theorem dX12_way_285 : decode cX12_way 285 = .ok (.ifCond .eq 8, 3) := by decide +kernel
theorem dX12_way_288 : decode cX12_way 288 = .ok (.aload_n 0, 1) := by decide +kernel
theorem dX12_way_289 : decode cX12_way 289 = .ok (.invokevirtual 358, 3) := by decide +kernel
theorem dX12_way_292 : decode cX12_way 292 = .ok (.ireturn, 1) := by decide +kernel
theorem dX12_way_293 : decode cX12_way 293 = .ok (.iinc 8 1, 3) := by decide +kernel
theorem dX12_way_296 : decode cX12_way 296 = .ok (.goto (-127), 3) := by decide +kernel
theorem dX12_way_299 : decode cX12_way 299 = .ok (.iinc 7 1, 3) := by decide +kernel
theorem dX12_way_302 : decode cX12_way 302 = .ok (.goto (-157), 3) := by decide +kernel
theorem dX12_way_305 : decode cX12_way 305 = .ok (.bipush (-3), 2) := by decide +kernel
theorem dX12_way_307 : decode cX12_way 307 = .ok (.ireturn, 1) := by decide +kernel
theorem dX12_step_0 : decode cX12_step 0 = .ok (.iload_n 1, 1) := by decide +kernel
theorem dX12_step_1 : decode cX12_step 1 = .ok (.iconst 0, 1) := by decide +kernel
theorem dX12_step_2 : decode cX12_step 2 = .ok (.aload_n 0, 1) := by decide +kernel
theorem dX12_step_3 : decode cX12_step 3 = .ok (.getfield 343, 3) := by decide +kernel
theorem dX12_step_6 : decode cX12_step 6 = .ok (.iconst 1, 1) := by decide +kernel
theorem dX12_step_7 : decode cX12_step 7 = .ok (.isub, 1) := by decide +kernel
theorem dX12_step_8 : decode cX12_step 8 = .ok (.invokestatic 217, 3) := by decide +kernel
theorem dX12_step_11 : decode cX12_step 11 = .ok (.ifCond .eq 12, 3) := by decide +kernel
theorem dX12_step_14 : decode cX12_step 14 = .ok (.aload_n 0, 1) := by decide +kernel
theorem dX12_step_15 : decode cX12_step 15 = .ok (.getfield 111, 3) := by decide +kernel
theorem dX12_step_18 : decode cX12_step 18 = .ok (.iload_n 1, 1) := by decide +kernel
theorem dX12_step_19 : decode cX12_step 19 = .ok (.iaload, 1) := by decide +kernel
theorem dX12_step_20 : decode cX12_step 20 = .ok (.goto 5, 3) := by decide +kernel
theorem dX12_step_23 : decode cX12_step 23 = .ok (.bipush (-2), 2) := by decide +kernel
theorem dX12_step_25 : decode cX12_step 25 = .ok (.ireturn, 1) := by decide +kernel
theorem dX12_seen_0 : decode cX12_seen 0 = .ok (.aload_n 0, 1) := by decide +kernel
theorem dX12_seen_1 : decode cX12_seen 1 = .ok (.getfield 340, 3) := by decide +kernel
theorem dX12_seen_4 : decode cX12_seen 4 = .ok (.ireturn, 1) := by decide +kernel
theorem dX12_rope_0 : decode cX12_rope 0 = .ok (.aload_n 0, 1) := by decide +kernel
theorem dX12_rope_1 : decode cX12_rope 1 = .ok (.iload_n 1, 1) := by decide +kernel
theorem dX12_rope_2 : decode cX12_rope 2 = .ok (.invokevirtual 257, 3) := by decide +kernel
theorem dX12_rope_5 : decode cX12_rope 5 = .ok (.ifCond .eq 46, 3) := by decide +kernel
theorem dX12_rope_8 : decode cX12_rope 8 = .ok (.iload_n 2, 1) := by decide +kernel
theorem dX12_rope_9 : decode cX12_rope 9 = .ok (.iconst 0, 1) := by decide +kernel
theorem dX12_rope_10 : decode cX12_rope 10 = .ok (.iconst 3, 1) := by decide +kernel
theorem dX12_rope_11 : decode cX12_rope 11 = .ok (.invokestatic 217, 3) := by decide +kernel
theorem dX12_rope_14 : decode cX12_rope 14 = .ok (.ifCond .eq 37, 3) := by decide +kernel
theorem dX12_rope_17 : decode cX12_rope 17 = .ok (.iload_n 3, 1) := by decide +kernel
theorem dX12_rope_18 : decode cX12_rope 18 = .ok (.iconst 0, 1) := by decide +kernel
theorem dX12_rope_19 : decode cX12_rope 19 = .ok (.sipush 300, 3) := by decide +kernel
theorem dX12_rope_22 : decode cX12_rope 22 = .ok (.invokestatic 217, 3) := by decide +kernel
theorem dX12_rope_25 : decode cX12_rope 25 = .ok (.ifCond .eq 26, 3) := by decide +kernel
theorem dX12_rope_28 : decode cX12_rope 28 = .ok (.iload 4, 2) := by decide +kernel
theorem dX12_rope_30 : decode cX12_rope 30 = .ok (.iconst 1, 1) := by decide +kernel
theorem dX12_rope_31 : decode cX12_rope 31 = .ok (.bipush 60, 2) := by decide +kernel
theorem dX12_rope_33 : decode cX12_rope 33 = .ok (.invokestatic 217, 3) := by decide +kernel
theorem dX12_rope_36 : decode cX12_rope 36 = .ok (.ifCond .eq 15, 3) := by decide +kernel
theorem dX12_rope_39 : decode cX12_rope 39 = .ok (.iload 5, 2) := by decide +kernel
theorem dX12_rope_41 : decode cX12_rope 41 = .ok (.bipush (-9), 2) := by decide +kernel
theorem dX12_rope_43 : decode cX12_rope 43 = .ok (.bipush 9, 2) := by decide +kernel
theorem dX12_rope_45 : decode cX12_rope 45 = .ok (.invokestatic 217, 3) := by decide +kernel
theorem dX12_rope_48 : decode cX12_rope 48 = .ok (.ifCond .ne 6, 3) := by decide +kernel
theorem dX12_rope_51 : decode cX12_rope 51 = .ok (.bipush (-2), 2) := by decide +kernel
theorem dX12_rope_53 : decode cX12_rope 53 = .ok (.ireturn, 1) := by decide +kernel
theorem dX12_rope_54 : decode cX12_rope 54 = .ok (.aload_n 0, 1) := by decide +kernel
theorem dX12_rope_55 : decode cX12_rope 55 = .ok (.getfield 114, 3) := by decide +kernel
theorem dX12_rope_58 : decode cX12_rope 58 = .ok (.iconst 4, 1) := by decide +kernel
theorem dX12_rope_59 : decode cX12_rope 59 = .ok (.iload_n 1, 1) := by decide +kernel
theorem dX12_rope_60 : decode cX12_rope 60 = .ok (.imul, 1) := by decide +kernel
theorem dX12_rope_61 : decode cX12_rope 61 = .ok (.iload_n 2, 1) := by decide +kernel
theorem dX12_rope_62 : decode cX12_rope 62 = .ok (.iadd, 1) := by decide +kernel
theorem dX12_rope_63 : decode cX12_rope 63 = .ok (.iload_n 3, 1) := by decide +kernel
theorem dX12_rope_64 : decode cX12_rope 64 = .ok (.iastore, 1) := by decide +kernel
theorem dX12_rope_65 : decode cX12_rope 65 = .ok (.aload_n 0, 1) := by decide +kernel
theorem dX12_rope_66 : decode cX12_rope 66 = .ok (.getfield 117, 3) := by decide +kernel
theorem dX12_rope_69 : decode cX12_rope 69 = .ok (.iconst 4, 1) := by decide +kernel
theorem dX12_rope_70 : decode cX12_rope 70 = .ok (.iload_n 1, 1) := by decide +kernel
theorem dX12_rope_71 : decode cX12_rope 71 = .ok (.imul, 1) := by decide +kernel
theorem dX12_rope_72 : decode cX12_rope 72 = .ok (.iload_n 2, 1) := by decide +kernel
theorem dX12_rope_73 : decode cX12_rope 73 = .ok (.iadd, 1) := by decide +kernel
theorem dX12_rope_74 : decode cX12_rope 74 = .ok (.iload 4, 2) := by decide +kernel
theorem dX12_rope_76 : decode cX12_rope 76 = .ok (.iastore, 1) := by decide +kernel
theorem dX12_rope_77 : decode cX12_rope 77 = .ok (.aload_n 0, 1) := by decide +kernel
theorem dX12_rope_78 : decode cX12_rope 78 = .ok (.getfield 120, 3) := by decide +kernel
theorem dX12_rope_81 : decode cX12_rope 81 = .ok (.iconst 4, 1) := by decide +kernel
theorem dX12_rope_82 : decode cX12_rope 82 = .ok (.iload_n 1, 1) := by decide +kernel
theorem dX12_rope_83 : decode cX12_rope 83 = .ok (.imul, 1) := by decide +kernel
theorem dX12_rope_84 : decode cX12_rope 84 = .ok (.iload_n 2, 1) := by decide +kernel
theorem dX12_rope_85 : decode cX12_rope 85 = .ok (.iadd, 1) := by decide +kernel
theorem dX12_rope_86 : decode cX12_rope 86 = .ok (.iload 5, 2) := by decide +kernel
theorem dX12_rope_88 : decode cX12_rope 88 = .ok (.iastore, 1) := by decide +kernel
theorem dX12_rope_89 : decode cX12_rope 89 = .ok (.iconst 1, 1) := by decide +kernel
theorem dX12_rope_90 : decode cX12_rope 90 = .ok (.ireturn, 1) := by decide +kernel
theorem dX12_set_0 : decode cX12_set 0 = .ok (.iload_n 1, 1) := by decide +kernel
theorem dX12_set_1 : decode cX12_set 1 = .ok (.ifCond .ne 10, 3) := by decide +kernel
theorem dX12_set_4 : decode cX12_set 4 = .ok (.aload_n 0, 1) := by decide +kernel
theorem dX12_set_5 : decode cX12_set 5 = .ok (.getfield 123, 3) := by decide +kernel
theorem dX12_set_8 : decode cX12_set 8 = .ok (.goto 19, 3) := by decide +kernel
theorem dX12_set_11 : decode cX12_set 11 = .ok (.iload_n 1, 1) := by decide +kernel
theorem dX12_set_12 : decode cX12_set 12 = .ok (.iconst 1, 1) := by decide +kernel
theorem dX12_set_13 : decode cX12_set 13 = .ok (.if_icmp .ne 10, 3) := by decide +kernel
theorem dX12_set_16 : decode cX12_set 16 = .ok (.aload_n 0, 1) := by decide +kernel
theorem dX12_set_17 : decode cX12_set 17 = .ok (.getfield 126, 3) := by decide +kernel
theorem dX12_set_20 : decode cX12_set 20 = .ok (.goto 7, 3) := by decide +kernel
theorem dX12_set_23 : decode cX12_set 23 = .ok (.aload_n 0, 1) := by decide +kernel
theorem dX12_set_24 : decode cX12_set 24 = .ok (.getfield 129, 3) := by decide +kernel
theorem dX12_set_27 : decode cX12_set 27 = .ok (.istore_n 3, 1) := by decide +kernel
theorem dX12_set_28 : decode cX12_set 28 = .ok (.iload_n 1, 1) := by decide +kernel
theorem dX12_set_29 : decode cX12_set 29 = .ok (.iconst 0, 1) := by decide +kernel
theorem dX12_set_30 : decode cX12_set 30 = .ok (.iconst 2, 1) := by decide +kernel
theorem dX12_set_31 : decode cX12_set 31 = .ok (.invokestatic 217, 3) := by decide +kernel
theorem dX12_set_34 : decode cX12_set 34 = .ok (.ifCond .eq 41, 3) := by decide +kernel
theorem dX12_set_37 : decode cX12_set 37 = .ok (.iload_n 2, 1) := by decide +kernel
theorem dX12_set_38 : decode cX12_set 38 = .ok (.iload_n 1, 1) := by decide +kernel
theorem dX12_set_39 : decode cX12_set 39 = .ok (.iconst 1, 1) := by decide +kernel
theorem dX12_set_40 : decode cX12_set 40 = .ok (.if_icmp .ne 7, 3) := by decide +kernel
theorem dX12_set_43 : decode cX12_set 43 = .ok (.iconst 0, 1) := by decide +kernel
theorem dX12_set_44 : decode cX12_set 44 = .ok (.goto 4, 3) := by decide +kernel
theorem dX12_set_47 : decode cX12_set 47 = .ok (.iconst 1, 1) := by decide +kernel
theorem dX12_set_48 : decode cX12_set 48 = .ok (.iload_n 1, 1) := by decide +kernel
theorem dX12_set_49 : decode cX12_set 49 = .ok (.ifCond .ne 8, 3) := by decide +kernel
theorem dX12_set_52 : decode cX12_set 52 = .ok (.bipush 9, 2) := by decide +kernel
theorem dX12_set_54 : decode cX12_set 54 = .ok (.goto 15, 3) := by decide +kernel
theorem dX12_set_57 : decode cX12_set 57 = .ok (.iload_n 1, 1) := by decide +kernel
theorem dX12_set_58 : decode cX12_set 58 = .ok (.iconst 1, 1) := by decide +kernel
theorem dX12_set_59 : decode cX12_set 59 = .ok (.if_icmp .ne 8, 3) := by decide +kernel
theorem dX12_set_62 : decode cX12_set 62 = .ok (.bipush 100, 2) := by decide +kernel
theorem dX12_set_64 : decode cX12_set 64 = .ok (.goto 5, 3) := by decide +kernel
theorem dX12_set_67 : decode cX12_set 67 = .ok (.bipush 99, 2) := by decide +kernel
theorem dX12_set_69 : decode cX12_set 69 = .ok (.invokestatic 217, 3) := by decide +kernel
theorem dX12_set_72 : decode cX12_set 72 = .ok (.ifCond .ne 6, 3) := by decide +kernel
theorem dX12_set_75 : decode cX12_set 75 = .ok (.bipush (-2), 2) := by decide +kernel
theorem dX12_set_77 : decode cX12_set 77 = .ok (.ireturn, 1) := by decide +kernel
theorem dX12_set_78 : decode cX12_set 78 = .ok (.aload_n 0, 1) := by decide +kernel
theorem dX12_set_79 : decode cX12_set 79 = .ok (.iload_n 1, 1) := by decide +kernel
theorem dX12_set_80 : decode cX12_set 80 = .ok (.ifCond .ne 7, 3) := by decide +kernel
theorem dX12_set_83 : decode cX12_set 83 = .ok (.iload_n 2, 1) := by decide +kernel
theorem dX12_set_84 : decode cX12_set 84 = .ok (.goto 7, 3) := by decide +kernel
theorem dX12_set_87 : decode cX12_set 87 = .ok (.aload_n 0, 1) := by decide +kernel
theorem dX12_set_88 : decode cX12_set 88 = .ok (.getfield 123, 3) := by decide +kernel
theorem dX12_set_91 : decode cX12_set 91 = .ok (.putfield 123, 3) := by decide +kernel
theorem dX12_set_94 : decode cX12_set 94 = .ok (.aload_n 0, 1) := by decide +kernel
theorem dX12_set_95 : decode cX12_set 95 = .ok (.iload_n 1, 1) := by decide +kernel
theorem dX12_set_96 : decode cX12_set 96 = .ok (.iconst 1, 1) := by decide +kernel
theorem dX12_set_97 : decode cX12_set 97 = .ok (.if_icmp .ne 7, 3) := by decide +kernel
theorem dX12_set_100 : decode cX12_set 100 = .ok (.iload_n 2, 1) := by decide +kernel
theorem dX12_set_101 : decode cX12_set 101 = .ok (.goto 7, 3) := by decide +kernel
theorem dX12_set_104 : decode cX12_set 104 = .ok (.aload_n 0, 1) := by decide +kernel
theorem dX12_set_105 : decode cX12_set 105 = .ok (.getfield 126, 3) := by decide +kernel
theorem dX12_set_108 : decode cX12_set 108 = .ok (.putfield 126, 3) := by decide +kernel
theorem dX12_set_111 : decode cX12_set 111 = .ok (.aload_n 0, 1) := by decide +kernel
theorem dX12_set_112 : decode cX12_set 112 = .ok (.iload_n 1, 1) := by decide +kernel
theorem dX12_set_113 : decode cX12_set 113 = .ok (.iconst 2, 1) := by decide +kernel
theorem dX12_set_114 : decode cX12_set 114 = .ok (.if_icmp .ne 7, 3) := by decide +kernel
theorem dX12_set_117 : decode cX12_set 117 = .ok (.iload_n 2, 1) := by decide +kernel
theorem dX12_set_118 : decode cX12_set 118 = .ok (.goto 7, 3) := by decide +kernel
theorem dX12_set_121 : decode cX12_set 121 = .ok (.aload_n 0, 1) := by decide +kernel
theorem dX12_set_122 : decode cX12_set 122 = .ok (.getfield 129, 3) := by decide +kernel
theorem dX12_set_125 : decode cX12_set 125 = .ok (.putfield 129, 3) := by decide +kernel
theorem dX12_set_128 : decode cX12_set 128 = .ok (.iload_n 3, 1) := by decide +kernel
theorem dX12_set_129 : decode cX12_set 129 = .ok (.ireturn, 1) := by decide +kernel
theorem dX12_ropeHeading_0 : decode cX12_ropeHeading 0 = .ok (.aload_n 0, 1) := by decide +kernel
theorem dX12_ropeHeading_1 : decode cX12_ropeHeading 1 = .ok (.getfield 80, 3) := by decide +kernel
theorem dX12_ropeHeading_4 : decode cX12_ropeHeading 4 = .ok (.iload_n 1, 1) := by decide +kernel
theorem dX12_ropeHeading_5 : decode cX12_ropeHeading 5 = .ok (.iaload, 1) := by decide +kernel
theorem dX12_ropeHeading_6 : decode cX12_ropeHeading 6 = .ok (.iload_n 2, 1) := by decide +kernel
theorem dX12_ropeHeading_7 : decode cX12_ropeHeading 7 = .ok (.iconst 2, 1) := by decide +kernel
theorem dX12_ropeHeading_8 : decode cX12_ropeHeading 8 = .ok (.if_icmp .ge 7, 3) := by decide +kernel
theorem dX12_ropeHeading_11 : decode cX12_ropeHeading 11 = .ok (.iconst 0, 1) := by decide +kernel
theorem dX12_ropeHeading_12 : decode cX12_ropeHeading 12 = .ok (.goto 5, 3) := by decide +kernel
theorem dX12_ropeHeading_15 : decode cX12_ropeHeading 15 = .ok (.bipush 18, 2) := by decide +kernel
theorem dX12_ropeHeading_17 : decode cX12_ropeHeading 17 = .ok (.iadd, 1) := by decide +kernel
theorem dX12_ropeHeading_18 : decode cX12_ropeHeading 18 = .ok (.aload_n 0, 1) := by decide +kernel
theorem dX12_ropeHeading_19 : decode cX12_ropeHeading 19 = .ok (.getfield 120, 3) := by decide +kernel
theorem dX12_ropeHeading_22 : decode cX12_ropeHeading 22 = .ok (.iconst 4, 1) := by decide +kernel
theorem dX12_ropeHeading_23 : decode cX12_ropeHeading 23 = .ok (.iload_n 1, 1) := by decide +kernel
theorem dX12_ropeHeading_24 : decode cX12_ropeHeading 24 = .ok (.imul, 1) := by decide +kernel
theorem dX12_ropeHeading_25 : decode cX12_ropeHeading 25 = .ok (.iload_n 2, 1) := by decide +kernel
theorem dX12_ropeHeading_26 : decode cX12_ropeHeading 26 = .ok (.iadd, 1) := by decide +kernel
theorem dX12_ropeHeading_27 : decode cX12_ropeHeading 27 = .ok (.iaload, 1) := by decide +kernel
theorem dX12_ropeHeading_28 : decode cX12_ropeHeading 28 = .ok (.iadd, 1) := by decide +kernel
theorem dX12_ropeHeading_29 : decode cX12_ropeHeading 29 = .ok (.bipush 36, 2) := by decide +kernel
theorem dX12_ropeHeading_31 : decode cX12_ropeHeading 31 = .ok (.iadd, 1) := by decide +kernel
theorem dX12_ropeHeading_32 : decode cX12_ropeHeading 32 = .ok (.bipush 36, 2) := by decide +kernel
theorem dX12_ropeHeading_34 : decode cX12_ropeHeading 34 = .ok (.irem, 1) := by decide +kernel
theorem dX12_ropeHeading_35 : decode cX12_ropeHeading 35 = .ok (.ireturn, 1) := by decide +kernel
theorem dX12_cross_0 : decode cX12_cross 0 = .ok (.lload_n 0, 1) := by decide +kernel
theorem dX12_cross_1 : decode cX12_cross 1 = .ok (.lload 6, 2) := by decide +kernel
theorem dX12_cross_3 : decode cX12_cross 3 = .ok (.lmul, 1) := by decide +kernel
theorem dX12_cross_4 : decode cX12_cross 4 = .ok (.lload_n 2, 1) := by decide +kernel
theorem dX12_cross_5 : decode cX12_cross 5 = .ok (.lload 4, 2) := by decide +kernel
theorem dX12_cross_7 : decode cX12_cross 7 = .ok (.lmul, 1) := by decide +kernel
theorem dX12_cross_8 : decode cX12_cross 8 = .ok (.lsub, 1) := by decide +kernel
theorem dX12_cross_9 : decode cX12_cross 9 = .ok (.lreturn, 1) := by decide +kernel
def l_X12_meetsWire_2 (a1 : Int32) (a2 : Int32) (w : Wd) : Nat → Int32 → Option Int32
  | 0, _ => none
  | n_2 + 1, x3_2l =>
    q_ld w 80 4 a1 (fun v_8 =>
    if v_8 ≤ x3_2l then
    some (0 : Int32)
    else
    q_ld w 71 10 a2 (fun v_17 =>
    q_jn (fun (s0_60 : Int32) =>
    q_jn (q_lt (x3_2l + (1 : Int32)) (fun v_84 =>
    l_X12_meetsWire_2 a1 a2 w n_2 v_84)) (fun j_84 =>
    if s0_60 = 0 then
    j_84
    else
    q_bo (f_X12_touchesBox w a1 x3_2l 69 40 a2 (0 : Int32)) (fun v_76 =>
    if v_76 = 0 then
    j_84
    else
    some (1 : Int32)))) (fun j_60 =>
    q_jn (j_60 (0 : Int32)) (fun j_59 =>
    if v_17 = 0 then
    q_ld w 70 10 a2 (fun v_26 =>
    q_bo (f_X12_footOf w a1 x3_2l) (fun v_30 =>
    if v_26 ≤ v_30 then
    j_59
    else
    q_ld w 70 10 a2 (fun v_41 =>
    q_ld w 81 20 (((5 : Int32) * a1) + x3_2l) (fun v_51 =>
    if v_51 < v_41 then
    j_59
    else
    j_60 (1 : Int32)))))
    else
    j_59))))
def f_X12_meetsWire (w : Wd) (a1 : Int32) (a2 : Int32) : Option Int32 :=
l_X12_meetsWire_2 a1 a2 w FU (0 : Int32)
set_option maxRecDepth 100000 in
set_option maxHeartbeats 4000000 in
theorem c_X12_meetsWire (l : Launch) (D : va_G) (cT : Nat → ClassId) (lo : Nat) (w : Wd) (ad : Nat → Nat) (a1 : Int32) (a2 : Int32) (r : Int32) (h : f_X12_meetsWire w a1 a2 = some r) : Met l yX12_meetsWire (.code yX12_meetsWire cX12_meetsWire 5 (some .boolean) :: TW) { frames := 6, cells := 0, slots := 0, locals := 153 } (mPc D cT lo NB w ad [.ref (ad 63), .int a1, .int a2]) (mQz D cT lo NB w w ad r) 0 0 (fun q => lo ≤ q) := by
  unfold f_X12_meetsWire at h
  refine x_met (lv := [(0, .ref (ad 63)), (1, .int a1), (2, .int a2)]) (by decide +kernel) (Nat.le_of_ble_eq_true rfl) rfl ?_
  intro p e s m args below meth c ls F hr hlk hP hin hl
  have hx := F.1
  have hb := F.2.1
  have hS : va_S (fun q => lo ≤ q) s.heap s.heap [] := va_S.rf
  refine lv_iconst (v := 0) hx hb dX12_meetsWire_0 ic_0 ?_
  refine lv_istore_n (lv' := [(3, .int (0 : Int32)), (0, .ref (ad 63)), (1, .int a1), (2, .int a2)]) hx hb dX12_meetsWire_1 rfl hl (Nat.le_of_ble_eq_true rfl) rfl (fun ls hl => ?_)
  have L_2 : ∀ (n_2 : Nat) (x3_2l : Int32), l_X12_meetsWire_2 a1 a2 w n_2 x3_2l = some r → GG p l e { frames := 6, cells := 0, slots := 0, locals := 153 } s m args below meth c 0 0 (MQ below (mQz D cT lo NB w w ad r) args s 0 0 (fun q => lo ≤ q)) D cT lo NB 5 ad w 2 [(3, .int x3_2l), (0, .ref (ad 63)), (1, .int a1), (2, .int a2)] [] := by
    intro n_2
    induction n_2 with
    | zero =>
      intro x3_2l h
      exact absurd h (by unfold l_X12_meetsWire_2; exact fun z => by cases z)
    | succ n_2 ih_2 =>
      intro x3_2l h H locs ls hP hS hl
      unfold l_X12_meetsWire_2 at h
      refine lv_iload_n hx hb dX12_meetsWire_2 rfl (lv_at hl 0 rfl) ?_
      refine lv_aload_n hx hb dX12_meetsWire_3 rfl (lv_at hl 1 rfl) ?_
      refine x_getr F hP k_63 (hP.al 63 rfl) fl_X12_59 rfl r_63_21 dX12_meetsWire_4 ?_
      refine lv_iload_n hx hb dX12_meetsWire_7 rfl (lv_at hl 2 rfl) ?_
      refine y_iald h F hP k_80 (n2 (hP.al 80 rfl)) dX12_meetsWire_8 (fun v_8 h => ?_)
      refine lv_icmp_ge (tgt := 90) hx hb dX12_meetsWire_9 (by decide) (fun hc => ?_) (fun hc => ?_)
      · have h := if_t _ hc h
        refine lv_iconst (v := 0) hx hb dX12_meetsWire_90 ic_0 ?_
        exact y_zretO h F hr hP hS hlk rfl dX12_meetsWire_91
      · have h := if_f _ hc h
        refine lv_aload_n hx hb dX12_meetsWire_12 rfl (lv_at hl 1 rfl) ?_
        refine x_getr F hP k_63 (hP.al 63 rfl) fl_X12_31 rfl r_63_10 dX12_meetsWire_13 ?_
        refine lv_iload_n hx hb dX12_meetsWire_16 rfl (lv_at hl 3 rfl) ?_
        refine y_zald h F hP k_71 (n2 (hP.al 71 rfl)) dX12_meetsWire_17 (fun v_17 h => ?_)
        refine jn_use (fun (j_60 : Int32 → Option Int32) => ∀ (s0_60 : Int32), j_60 s0_60 = some r → GG p l e { frames := 6, cells := 0, slots := 0, locals := 153 } s m args below meth c 0 0 (MQ below (mQz D cT lo NB w w ad r) args s 0 0 (fun q => lo ≤ q)) D cT lo NB 5 ad w 60 [(3, .int x3_2l), (0, .ref (ad 63)), (1, .int a1), (2, .int a2)] [.int s0_60]) h (fun s0_60 h H locs ls hP hS hl => ?_) (fun j_60 J_60 h => ?_)
        · refine lv_istore (lv' := [(4, .int s0_60), (3, .int x3_2l), (0, .ref (ad 63)), (1, .int a1), (2, .int a2)]) hx hb dX12_meetsWire_60 hl (Nat.le_of_ble_eq_true rfl) rfl (fun ls hl => ?_)
          refine lv_iload hx hb dX12_meetsWire_62 (lv_at hl 0 rfl) ?_
          refine jn_use (fun (j_84 : Option Int32) => j_84 = some r → GG p l e { frames := 6, cells := 0, slots := 0, locals := 153 } s m args below meth c 0 0 (MQ below (mQz D cT lo NB w w ad r) args s 0 0 (fun q => lo ≤ q)) D cT lo NB 5 ad w 84 [(3, .int x3_2l), (0, .ref (ad 63)), (1, .int a1), (2, .int a2)] []) h (fun h H locs ls hP hS hl => ?_) (fun j_84 J_84 h => ?_)
          · refine y_iinc (lv' := fun (v_84 : Int32) => [(3, .int v_84), (0, .ref (ad 63)), (1, .int a1), (2, .int a2)]) h F ic_1 dX12_meetsWire_84 hl (kq := 0) rfl (Nat.le_of_ble_eq_true rfl) (fun _ => rfl) (fun v_84 ls hl h => ?_)
            refine lv_goto (tgt := 2) hx hb dX12_meetsWire_87 (by decide) ?_
            exact ih_2 v_84 h _ _ _ hP hS (lv_sub hl [0, 1, 2, 3] rfl)
          · refine lv_if_eq (tgt := 84) hx hb dX12_meetsWire_64 (by decide) (fun hc => ?_) (fun hc => ?_)
            · have h := if_t _ hc h
              exact J_84  h _ _ _ hP hS (lv_sub hl [1, 2, 3, 4] rfl)
            · have h := if_f _ hc h
              refine lv_aload_n hx hb dX12_meetsWire_67 rfl (lv_at hl 2 rfl) ?_
              refine lv_iload_n hx hb dX12_meetsWire_68 rfl (lv_at hl 3 rfl) ?_
              refine lv_iload_n hx hb dX12_meetsWire_69 rfl (lv_at hl 1 rfl) ?_
              refine lv_aload_n hx hb dX12_meetsWire_70 rfl (lv_at hl 2 rfl) ?_
              refine x_getr F hP k_63 (hP.al 63 rfl) fl_X12_25 rfl r_63_8 dX12_meetsWire_71 ?_
              refine lv_iload_n hx hb dX12_meetsWire_74 rfl (lv_at hl 4 rfl) ?_
              refine lv_iconst (v := 0) hx hb dX12_meetsWire_75 ic_0 ?_
              obtain ⟨v_76, hc_76, h⟩ := bo_s h
              refine x_goesZ (x_runV (As := [.int a1, .int x3_2l, .ref (ad 69), .int a2, .int (0 : Int32)]) (rest := []) F hP hS (c_X12_touchesBox l D cT lo w ad a1 x3_2l 69 40 k_69 (hP.al 69 rfl) a2 (0 : Int32) v_76 hc_76) cw_X12_touchesBox lk_X12_289 vi_X12_touchesBox k_63 (n2 (hP.al 63 rfl)) rfl ⟨rfl, rfl, Nat.le_of_ble_eq_true rfl, Nat.le_of_ble_eq_true rfl⟩ hl.1 rfl (Nat.le_of_ble_eq_true rfl) dX12_meetsWire_76 ⟨Nat.zero_le _, Nat.zero_le _⟩) hS (fun H locs hz_76 hP hS _ => ?_)
              refine lv_if_eq (tgt := 84) hx hb dX12_meetsWire_79 (by decide) (fun hc => ?_) (fun hc => ?_)
              · have h := if_t _ hc h
                exact J_84  h _ _ _ hP hS (lv_sub hl [1, 2, 3, 4] rfl)
              · have h := if_f _ hc h
                refine lv_iconst (v := 1) hx hb dX12_meetsWire_82 ic_1 ?_
                exact y_zretO h F hr hP hS hlk rfl dX12_meetsWire_83
        · refine jn_use (fun (j_59 : Option Int32) => j_59 = some r → GG p l e { frames := 6, cells := 0, slots := 0, locals := 153 } s m args below meth c 0 0 (MQ below (mQz D cT lo NB w w ad r) args s 0 0 (fun q => lo ≤ q)) D cT lo NB 5 ad w 59 [(3, .int x3_2l), (0, .ref (ad 63)), (1, .int a1), (2, .int a2)] []) h (fun h H locs ls hP hS hl => ?_) (fun j_59 J_59 h => ?_)
          · refine lv_iconst (v := 0) hx hb dX12_meetsWire_59 ic_0 ?_
            exact J_60 (0 : Int32) h _ _ _ hP hS (lv_sub hl [0, 1, 2, 3] rfl)
          · refine lv_if_ne (tgt := 59) hx hb dX12_meetsWire_18 (by decide) (fun hc => ?_) (fun hc => ?_)
            · have h := if_f _ hc h
              exact J_59  h _ _ _ hP hS (lv_sub hl [0, 1, 2, 3] rfl)
            · have h := if_t _ hc h
              refine lv_aload_n hx hb dX12_meetsWire_21 rfl (lv_at hl 1 rfl) ?_
              refine x_getr F hP k_63 (hP.al 63 rfl) fl_X12_28 rfl r_63_9 dX12_meetsWire_22 ?_
              refine lv_iload_n hx hb dX12_meetsWire_25 rfl (lv_at hl 3 rfl) ?_
              refine y_iald h F hP k_70 (n2 (hP.al 70 rfl)) dX12_meetsWire_26 (fun v_26 h => ?_)
              refine lv_aload_n hx hb dX12_meetsWire_27 rfl (lv_at hl 1 rfl) ?_
              refine lv_iload_n hx hb dX12_meetsWire_28 rfl (lv_at hl 2 rfl) ?_
              refine lv_iload_n hx hb dX12_meetsWire_29 rfl (lv_at hl 0 rfl) ?_
              obtain ⟨v_30, hc_30, h⟩ := bo_s h
              refine x_goes (x_runV (As := [.int a1, .int x3_2l]) (rest := [.int v_26]) F hP hS (c_X12_footOf l D cT lo w ad a1 x3_2l v_30 hc_30) cw_X12_footOf lk_X12_260 vi_X12_footOf k_63 (n2 (hP.al 63 rfl)) rfl ⟨rfl, rfl, Nat.le_of_ble_eq_true rfl, Nat.le_of_ble_eq_true rfl⟩ hl.1 rfl (Nat.le_of_ble_eq_true rfl) dX12_meetsWire_30 ⟨Nat.zero_le _, Nat.zero_le _⟩) hS (fun H locs hP hS _ => ?_)
              refine lv_icmp_le (tgt := 59) hx hb dX12_meetsWire_33 (by decide) (fun hc => ?_) (fun hc => ?_)
              · have h := if_t _ hc h
                exact J_59  h _ _ _ hP hS (lv_sub hl [0, 1, 2, 3] rfl)
              · have h := if_f _ hc h
                refine lv_aload_n hx hb dX12_meetsWire_36 rfl (lv_at hl 1 rfl) ?_
                refine x_getr F hP k_63 (hP.al 63 rfl) fl_X12_28 rfl r_63_9 dX12_meetsWire_37 ?_
                refine lv_iload_n hx hb dX12_meetsWire_40 rfl (lv_at hl 3 rfl) ?_
                refine y_iald h F hP k_70 (n2 (hP.al 70 rfl)) dX12_meetsWire_41 (fun v_41 h => ?_)
                refine lv_aload_n hx hb dX12_meetsWire_42 rfl (lv_at hl 1 rfl) ?_
                refine x_getr F hP k_63 (hP.al 63 rfl) fl_X12_62 rfl r_63_22 dX12_meetsWire_43 ?_
                refine lv_iconst (v := 5) hx hb dX12_meetsWire_46 ic_5 ?_
                refine lv_iload_n hx hb dX12_meetsWire_47 rfl (lv_at hl 2 rfl) ?_
                refine lv_imul hx hb dX12_meetsWire_48 ?_
                refine lv_iload_n hx hb dX12_meetsWire_49 rfl (lv_at hl 0 rfl) ?_
                refine lv_iadd hx hb dX12_meetsWire_50 ?_
                refine y_iald h F hP k_81 (n2 (hP.al 81 rfl)) dX12_meetsWire_51 (fun v_51 h => ?_)
                refine lv_icmp_gt (tgt := 59) hx hb dX12_meetsWire_52 (by decide) (fun hc => ?_) (fun hc => ?_)
                · have h := if_t _ hc h
                  exact J_59  h _ _ _ hP hS (lv_sub hl [0, 1, 2, 3] rfl)
                · have h := if_f _ hc h
                  refine lv_iconst (v := 1) hx hb dX12_meetsWire_55 ic_1 ?_
                  refine lv_goto (tgt := 60) hx hb dX12_meetsWire_56 (by decide) ?_
                  exact J_60 (1 : Int32) h _ _ _ hP hS (lv_sub hl [0, 1, 2, 3] rfl)
  exact L_2 FU (0 : Int32) h _ _ _ hP hS (lv_sub hl [0, 1, 2, 3] rfl)
def f_X12_signLong (a1 : Int32) : Int32 :=
if (2 : Int32) ≤ a1 then
(-1 : Int32)
else
(1 : Int32)
set_option maxRecDepth 100000 in
set_option maxHeartbeats 4000000 in
theorem c_X12_signLong (l : Launch) (D : va_G) (cT : Nat → ClassId) (lo nb : Nat) (w : Wd) (ad : Nat → Nat) (a1 : Int32) : Met l yX12_signLong (.code yX12_signLong cX12_signLong 1 (some .int) :: TW) { frames := 0, cells := 0, slots := 0, locals := 0 } (mPc D cT lo nb w ad [.int a1]) (mQ D cT lo nb w w ad (some (.int (f_X12_signLong a1)))) 0 0 (fun q => lo ≤ q) := by
  obtain ⟨r, h⟩ : ∃ r, f_X12_signLong a1 = r := ⟨_, rfl⟩
  rw [h]
  unfold f_X12_signLong at h
  refine x_met (lv := [(0, .int a1)]) (by decide +kernel) (Nat.le_of_ble_eq_true rfl) rfl ?_
  intro p e s m args below meth c ls F hr hlk hP hin hl
  have hx := F.1
  have hb := F.2.1
  have hS : va_S (fun q => lo ≤ q) s.heap s.heap [] := va_S.rf
  refine lv_iload_n hx hb dX12_signLong_0 rfl (lv_at hl 0 rfl) ?_
  refine lv_iconst (v := 2) hx hb dX12_signLong_1 ic_2 ?_
  refine lv_icmp_ge (tgt := 9) hx hb dX12_signLong_2 (by decide) (fun hc => ?_) (fun hc => ?_)
  · have h := if_t _ hc h
    refine lv_iconst (v := -1) hx hb dX12_signLong_9 ic_m1 ?_
    exact y_iretP h F hr hP hS hlk dX12_signLong_10
  · have h := if_f _ hc h
    refine lv_iconst (v := 1) hx hb dX12_signLong_5 ic_1 ?_
    refine lv_goto (tgt := 10) hx hb dX12_signLong_6 (by decide) ?_
    exact y_iretP h F hr hP hS hlk dX12_signLong_10
def f_X12_signBroad (a1 : Int32) : Int32 :=
if (a1 - a1 / (2 : Int32) * (2 : Int32)) = 0 then
(1 : Int32)
else
(-1 : Int32)
set_option maxRecDepth 100000 in
set_option maxHeartbeats 4000000 in
theorem c_X12_signBroad (l : Launch) (D : va_G) (cT : Nat → ClassId) (lo nb : Nat) (w : Wd) (ad : Nat → Nat) (a1 : Int32) : Met l yX12_signBroad (.code yX12_signBroad cX12_signBroad 1 (some .int) :: TW) { frames := 0, cells := 0, slots := 0, locals := 0 } (mPc D cT lo nb w ad [.int a1]) (mQ D cT lo nb w w ad (some (.int (f_X12_signBroad a1)))) 0 0 (fun q => lo ≤ q) := by
  obtain ⟨r, h⟩ : ∃ r, f_X12_signBroad a1 = r := ⟨_, rfl⟩
  rw [h]
  unfold f_X12_signBroad at h
  refine x_met (lv := [(0, .int a1)]) (by decide +kernel) (Nat.le_of_ble_eq_true rfl) rfl ?_
  intro p e s m args below meth c ls F hr hlk hP hin hl
  have hx := F.1
  have hb := F.2.1
  have hS : va_S (fun q => lo ≤ q) s.heap s.heap [] := va_S.rf
  refine lv_iload_n hx hb dX12_signBroad_0 rfl (lv_at hl 0 rfl) ?_
  refine lv_iconst (v := 2) hx hb dX12_signBroad_1 ic_2 ?_
  refine lv_irem hx hb dX12_signBroad_2 (by decide) ?_
  refine lv_if_ne (tgt := 10) hx hb dX12_signBroad_3 (by decide) (fun hc => ?_) (fun hc => ?_)
  · have h := if_f _ hc h
    refine lv_iconst (v := -1) hx hb dX12_signBroad_10 ic_m1 ?_
    exact y_iretP h F hr hP hS hlk dX12_signBroad_11
  · have h := if_t _ hc h
    refine lv_iconst (v := 1) hx hb dX12_signBroad_6 ic_1 ?_
    refine lv_goto (tgt := 11) hx hb dX12_signBroad_7 (by decide) ?_
    exact y_iretP h F hr hP hS hlk dX12_signBroad_11
def f_X12_wheelX (w : Wd) (a1 : Int32) (a2 : Int32) (a3 : Int32) (a4 : Int32) : Option Int32 :=
q_ld w 76 4 a1 (fun v_10 =>
q_ld w 77 4 a1 (fun v_28 =>
some ((a3 + (((f_X12_signLong a2) * v_10) * (f_X12_along a4))) - (((f_X12_signBroad a2) * v_28) * (f_X12_across a4)))))
set_option maxRecDepth 100000 in
set_option maxHeartbeats 4000000 in
theorem c_X12_wheelX (l : Launch) (D : va_G) (cT : Nat → ClassId) (lo : Nat) (w : Wd) (ad : Nat → Nat) (a1 : Int32) (a2 : Int32) (a3 : Int32) (a4 : Int32) (r : Int32) (h : f_X12_wheelX w a1 a2 a3 a4 = some r) : Met l yX12_wheelX (.code yX12_wheelX cX12_wheelX 5 (some .int) :: TW) { frames := 3, cells := 0, slots := 0, locals := 62 } (mPc D cT lo NB w ad [.ref (ad 63), .int a1, .int a2, .int a3, .int a4]) (mQ D cT lo NB w w ad (some (.int r))) 0 0 (fun q => lo ≤ q) := by
  unfold f_X12_wheelX at h
  refine x_met (lv := [(0, .ref (ad 63)), (1, .int a1), (2, .int a2), (3, .int a3), (4, .int a4)]) (by decide +kernel) (Nat.le_of_ble_eq_true rfl) rfl ?_
  intro p e s m args below meth c ls F hr hlk hP hin hl
  have hx := F.1
  have hb := F.2.1
  have hS : va_S (fun q => lo ≤ q) s.heap s.heap [] := va_S.rf
  refine lv_iload_n hx hb dX12_wheelX_0 rfl (lv_at hl 3 rfl) ?_
  refine lv_iload_n hx hb dX12_wheelX_1 rfl (lv_at hl 2 rfl) ?_
  refine x_goes (x_runS (As := [.int a2]) (rest := [.int a3]) F hP hS (c_X12_signLong l D cT lo NB w ad a2) cw_X12_signLong lk_X12_293 st_X12_signLong ⟨rfl, rfl, Nat.le_of_ble_eq_true rfl, Nat.le_of_ble_eq_true rfl⟩ hl.1 rfl (Nat.le_of_ble_eq_true rfl) dX12_wheelX_2 ⟨Nat.zero_le _, Nat.zero_le _⟩) hS (fun H locs hP hS _ => ?_)
  refine lv_aload_n hx hb dX12_wheelX_5 rfl (lv_at hl 0 rfl) ?_
  refine x_getr F hP k_63 (hP.al 63 rfl) fl_X12_47 rfl r_63_17 dX12_wheelX_6 ?_
  refine lv_iload_n hx hb dX12_wheelX_9 rfl (lv_at hl 1 rfl) ?_
  refine y_iald h F hP k_76 (n2 (hP.al 76 rfl)) dX12_wheelX_10 (fun v_10 h => ?_)
  refine lv_imul hx hb dX12_wheelX_11 ?_
  refine lv_iload hx hb dX12_wheelX_12 (lv_at hl 4 rfl) ?_
  refine x_goes (x_runS (As := [.int a4]) (rest := [.int ((f_X12_signLong a2) * v_10), .int a3]) F hP hS (c_X12_along l D cT lo NB w ad a4) cw_X12_along lk_X12_214 st_X12_along ⟨rfl, rfl, Nat.le_of_ble_eq_true rfl, Nat.le_of_ble_eq_true rfl⟩ hl.1 rfl (Nat.le_of_ble_eq_true rfl) dX12_wheelX_14 ⟨Nat.zero_le _, Nat.zero_le _⟩) hS (fun H locs hP hS _ => ?_)
  refine lv_imul hx hb dX12_wheelX_17 ?_
  refine lv_iadd hx hb dX12_wheelX_18 ?_
  refine lv_iload_n hx hb dX12_wheelX_19 rfl (lv_at hl 2 rfl) ?_
  refine x_goes (x_runS (As := [.int a2]) (rest := [.int (a3 + (((f_X12_signLong a2) * v_10) * (f_X12_along a4)))]) F hP hS (c_X12_signBroad l D cT lo NB w ad a2) cw_X12_signBroad lk_X12_296 st_X12_signBroad ⟨rfl, rfl, Nat.le_of_ble_eq_true rfl, Nat.le_of_ble_eq_true rfl⟩ hl.1 rfl (Nat.le_of_ble_eq_true rfl) dX12_wheelX_20 ⟨Nat.zero_le _, Nat.zero_le _⟩) hS (fun H locs hP hS _ => ?_)
  refine lv_aload_n hx hb dX12_wheelX_23 rfl (lv_at hl 0 rfl) ?_
  refine x_getr F hP k_63 (hP.al 63 rfl) fl_X12_50 rfl r_63_18 dX12_wheelX_24 ?_
  refine lv_iload_n hx hb dX12_wheelX_27 rfl (lv_at hl 1 rfl) ?_
  refine y_iald h F hP k_77 (n2 (hP.al 77 rfl)) dX12_wheelX_28 (fun v_28 h => ?_)
  refine lv_imul hx hb dX12_wheelX_29 ?_
  refine lv_iload hx hb dX12_wheelX_30 (lv_at hl 4 rfl) ?_
  refine x_goes (x_runS (As := [.int a4]) (rest := [.int ((f_X12_signBroad a2) * v_28), .int (a3 + (((f_X12_signLong a2) * v_10) * (f_X12_along a4)))]) F hP hS (c_X12_across l D cT lo NB w ad a4) cw_X12_across lk_X12_225 st_X12_across ⟨rfl, rfl, Nat.le_of_ble_eq_true rfl, Nat.le_of_ble_eq_true rfl⟩ hl.1 rfl (Nat.le_of_ble_eq_true rfl) dX12_wheelX_32 ⟨Nat.zero_le _, Nat.zero_le _⟩) hS (fun H locs hP hS _ => ?_)
  refine lv_imul hx hb dX12_wheelX_35 ?_
  refine lv_isub hx hb dX12_wheelX_36 ?_
  exact y_iretO h F hr hP hS hlk dX12_wheelX_37
def f_X12_wheelY (w : Wd) (a1 : Int32) (a2 : Int32) (a3 : Int32) (a4 : Int32) : Option Int32 :=
q_ld w 76 4 a1 (fun v_10 =>
q_ld w 77 4 a1 (fun v_28 =>
some ((a3 + (((f_X12_signLong a2) * v_10) * (f_X12_across a4))) + (((f_X12_signBroad a2) * v_28) * (f_X12_along a4)))))
set_option maxRecDepth 100000 in
set_option maxHeartbeats 4000000 in
theorem c_X12_wheelY (l : Launch) (D : va_G) (cT : Nat → ClassId) (lo : Nat) (w : Wd) (ad : Nat → Nat) (a1 : Int32) (a2 : Int32) (a3 : Int32) (a4 : Int32) (r : Int32) (h : f_X12_wheelY w a1 a2 a3 a4 = some r) : Met l yX12_wheelY (.code yX12_wheelY cX12_wheelY 5 (some .int) :: TW) { frames := 3, cells := 0, slots := 0, locals := 62 } (mPc D cT lo NB w ad [.ref (ad 63), .int a1, .int a2, .int a3, .int a4]) (mQ D cT lo NB w w ad (some (.int r))) 0 0 (fun q => lo ≤ q) := by
  unfold f_X12_wheelY at h
  refine x_met (lv := [(0, .ref (ad 63)), (1, .int a1), (2, .int a2), (3, .int a3), (4, .int a4)]) (by decide +kernel) (Nat.le_of_ble_eq_true rfl) rfl ?_
  intro p e s m args below meth c ls F hr hlk hP hin hl
  have hx := F.1
  have hb := F.2.1
  have hS : va_S (fun q => lo ≤ q) s.heap s.heap [] := va_S.rf
  refine lv_iload_n hx hb dX12_wheelY_0 rfl (lv_at hl 3 rfl) ?_
  refine lv_iload_n hx hb dX12_wheelY_1 rfl (lv_at hl 2 rfl) ?_
  refine x_goes (x_runS (As := [.int a2]) (rest := [.int a3]) F hP hS (c_X12_signLong l D cT lo NB w ad a2) cw_X12_signLong lk_X12_293 st_X12_signLong ⟨rfl, rfl, Nat.le_of_ble_eq_true rfl, Nat.le_of_ble_eq_true rfl⟩ hl.1 rfl (Nat.le_of_ble_eq_true rfl) dX12_wheelY_2 ⟨Nat.zero_le _, Nat.zero_le _⟩) hS (fun H locs hP hS _ => ?_)
  refine lv_aload_n hx hb dX12_wheelY_5 rfl (lv_at hl 0 rfl) ?_
  refine x_getr F hP k_63 (hP.al 63 rfl) fl_X12_47 rfl r_63_17 dX12_wheelY_6 ?_
  refine lv_iload_n hx hb dX12_wheelY_9 rfl (lv_at hl 1 rfl) ?_
  refine y_iald h F hP k_76 (n2 (hP.al 76 rfl)) dX12_wheelY_10 (fun v_10 h => ?_)
  refine lv_imul hx hb dX12_wheelY_11 ?_
  refine lv_iload hx hb dX12_wheelY_12 (lv_at hl 4 rfl) ?_
  refine x_goes (x_runS (As := [.int a4]) (rest := [.int ((f_X12_signLong a2) * v_10), .int a3]) F hP hS (c_X12_across l D cT lo NB w ad a4) cw_X12_across lk_X12_225 st_X12_across ⟨rfl, rfl, Nat.le_of_ble_eq_true rfl, Nat.le_of_ble_eq_true rfl⟩ hl.1 rfl (Nat.le_of_ble_eq_true rfl) dX12_wheelY_14 ⟨Nat.zero_le _, Nat.zero_le _⟩) hS (fun H locs hP hS _ => ?_)
  refine lv_imul hx hb dX12_wheelY_17 ?_
  refine lv_iadd hx hb dX12_wheelY_18 ?_
  refine lv_iload_n hx hb dX12_wheelY_19 rfl (lv_at hl 2 rfl) ?_
  refine x_goes (x_runS (As := [.int a2]) (rest := [.int (a3 + (((f_X12_signLong a2) * v_10) * (f_X12_across a4)))]) F hP hS (c_X12_signBroad l D cT lo NB w ad a2) cw_X12_signBroad lk_X12_296 st_X12_signBroad ⟨rfl, rfl, Nat.le_of_ble_eq_true rfl, Nat.le_of_ble_eq_true rfl⟩ hl.1 rfl (Nat.le_of_ble_eq_true rfl) dX12_wheelY_20 ⟨Nat.zero_le _, Nat.zero_le _⟩) hS (fun H locs hP hS _ => ?_)
  refine lv_aload_n hx hb dX12_wheelY_23 rfl (lv_at hl 0 rfl) ?_
  refine x_getr F hP k_63 (hP.al 63 rfl) fl_X12_50 rfl r_63_18 dX12_wheelY_24 ?_
  refine lv_iload_n hx hb dX12_wheelY_27 rfl (lv_at hl 1 rfl) ?_
  refine y_iald h F hP k_77 (n2 (hP.al 77 rfl)) dX12_wheelY_28 (fun v_28 h => ?_)
  refine lv_imul hx hb dX12_wheelY_29 ?_
  refine lv_iload hx hb dX12_wheelY_30 (lv_at hl 4 rfl) ?_
  refine x_goes (x_runS (As := [.int a4]) (rest := [.int ((f_X12_signBroad a2) * v_28), .int (a3 + (((f_X12_signLong a2) * v_10) * (f_X12_across a4)))]) F hP hS (c_X12_along l D cT lo NB w ad a4) cw_X12_along lk_X12_214 st_X12_along ⟨rfl, rfl, Nat.le_of_ble_eq_true rfl, Nat.le_of_ble_eq_true rfl⟩ hl.1 rfl (Nat.le_of_ble_eq_true rfl) dX12_wheelY_32 ⟨Nat.zero_le _, Nat.zero_le _⟩) hS (fun H locs hP hS _ => ?_)
  refine lv_imul hx hb dX12_wheelY_35 ?_
  refine lv_iadd hx hb dX12_wheelY_36 ?_
  exact y_iretO h F hr hP hS hlk dX12_wheelY_37
def l_X12_meetsKerb_7 (a1 : Int32) (w : Wd) (v_3 : Int32) : Nat → Int32 → Option Int32
  | 0, _ => none
  | n_7 + 1, x4_7l =>
    if (4 : Int32) ≤ x4_7l then
    some (0 : Int32)
    else
    q_gt w 63 31 (fun v_18 =>
    q_gt w 63 33 (fun v_22 =>
    q_bo (f_X12_wheelX w a1 x4_7l v_18 v_22) (fun v_25 =>
    q_gt w 63 32 (fun v_35 =>
    q_gt w 63 33 (fun v_39 =>
    q_bo (f_X12_wheelY w a1 x4_7l v_35 v_39) (fun v_42 =>
    q_ld w 68 40 v_3 (fun v_56 =>
    q_jn (q_lt (x4_7l + (1 : Int32)) (fun v_111 =>
    l_X12_meetsKerb_7 a1 w v_3 n_7 v_111)) (fun j_111 =>
    if v_25 ≤ ((65 : Int32) * v_56) then
    j_111
    else
    q_ld w 68 40 (v_3 + (2 : Int32)) (fun v_72 =>
    if ((65 : Int32) * v_72) ≤ v_25 then
    j_111
    else
    q_ld w 68 40 (v_3 + (1 : Int32)) (fun v_88 =>
    if v_42 ≤ ((65 : Int32) * v_88) then
    j_111
    else
    q_ld w 68 40 (v_3 + (3 : Int32)) (fun v_104 =>
    if ((65 : Int32) * v_104) ≤ v_42 then
    j_111
    else
    some (1 : Int32))))))))))))
def f_X12_meetsKerb (w : Wd) (a1 : Int32) (a2 : Int32) : Option Int32 :=
q_lt ((4 : Int32) * a2) (fun v_3 =>
l_X12_meetsKerb_7 a1 w v_3 FU (0 : Int32))
set_option maxRecDepth 100000 in
set_option maxHeartbeats 4000000 in
theorem c_X12_meetsKerb (l : Launch) (D : va_G) (cT : Nat → ClassId) (lo : Nat) (w : Wd) (ad : Nat → Nat) (a1 : Int32) (a2 : Int32) (r : Int32) (h : f_X12_meetsKerb w a1 a2 = some r) : Met l yX12_meetsKerb (.code yX12_meetsKerb cX12_meetsKerb 7 (some .boolean) :: TW) { frames := 4, cells := 0, slots := 0, locals := 86 } (mPc D cT lo NB w ad [.ref (ad 63), .int a1, .int a2]) (mQz D cT lo NB w w ad r) 0 0 (fun q => lo ≤ q) := by
  unfold f_X12_meetsKerb at h
  refine x_met (lv := [(0, .ref (ad 63)), (1, .int a1), (2, .int a2)]) (by decide +kernel) (Nat.le_of_ble_eq_true rfl) rfl ?_
  intro p e s m args below meth c ls F hr hlk hP hin hl
  have hx := F.1
  have hb := F.2.1
  have hS : va_S (fun q => lo ≤ q) s.heap s.heap [] := va_S.rf
  refine lv_iconst (v := 4) hx hb dX12_meetsKerb_0 ic_4 ?_
  refine lv_iload_n hx hb dX12_meetsKerb_1 rfl (lv_at hl 2 rfl) ?_
  refine lv_imul hx hb dX12_meetsKerb_2 ?_
  refine y_let h (fun v_3 h => ?_)
  refine lv_istore_n (lv' := [(3, .int v_3), (0, .ref (ad 63)), (1, .int a1), (2, .int a2)]) hx hb dX12_meetsKerb_3 rfl hl (Nat.le_of_ble_eq_true rfl) rfl (fun ls hl => ?_)
  refine lv_iconst (v := 0) hx hb dX12_meetsKerb_4 ic_0 ?_
  refine lv_istore (lv' := [(4, .int (0 : Int32)), (3, .int v_3), (0, .ref (ad 63)), (1, .int a1), (2, .int a2)]) hx hb dX12_meetsKerb_5 hl (Nat.le_of_ble_eq_true rfl) rfl (fun ls hl => ?_)
  have L_7 : ∀ (n_7 : Nat) (x4_7l : Int32), l_X12_meetsKerb_7 a1 w v_3 n_7 x4_7l = some r → GG p l e { frames := 4, cells := 0, slots := 0, locals := 86 } s m args below meth c 0 0 (MQ below (mQz D cT lo NB w w ad r) args s 0 0 (fun q => lo ≤ q)) D cT lo NB 7 ad w 7 [(4, .int x4_7l), (3, .int v_3), (0, .ref (ad 63)), (1, .int a1)] [] := by
    intro n_7
    induction n_7 with
    | zero =>
      intro x4_7l h
      exact absurd h (by unfold l_X12_meetsKerb_7; exact fun z => by cases z)
    | succ n_7 ih_7 =>
      intro x4_7l h H locs ls hP hS hl
      unfold l_X12_meetsKerb_7 at h
      refine lv_iload hx hb dX12_meetsKerb_7 (lv_at hl 0 rfl) ?_
      refine lv_iconst (v := 4) hx hb dX12_meetsKerb_9 ic_4 ?_
      refine lv_icmp_ge (tgt := 117) hx hb dX12_meetsKerb_10 (by decide) (fun hc => ?_) (fun hc => ?_)
      · have h := if_t _ hc h
        refine lv_iconst (v := 0) hx hb dX12_meetsKerb_117 ic_0 ?_
        exact y_zretO h F hr hP hS hlk rfl dX12_meetsKerb_118
      · have h := if_f _ hc h
        refine lv_aload_n hx hb dX12_meetsKerb_13 rfl (lv_at hl 2 rfl) ?_
        refine lv_iload_n hx hb dX12_meetsKerb_14 rfl (lv_at hl 3 rfl) ?_
        refine lv_iload hx hb dX12_meetsKerb_15 (lv_at hl 0 rfl) ?_
        refine lv_aload_n hx hb dX12_meetsKerb_17 rfl (lv_at hl 2 rfl) ?_
        refine y_geti h F hP k_63 (n2 (hP.al 63 rfl)) fl_X12_270 rfl dX12_meetsKerb_18 (fun v_18 h => ?_)
        refine lv_aload_n hx hb dX12_meetsKerb_21 rfl (lv_at hl 2 rfl) ?_
        refine y_geti h F hP k_63 (n2 (hP.al 63 rfl)) fl_X12_276 rfl dX12_meetsKerb_22 (fun v_22 h => ?_)
        obtain ⟨v_25, hc_25, h⟩ := bo_s h
        refine x_goes (x_runV (As := [.int a1, .int x4_7l, .int v_18, .int v_22]) (rest := []) F hP hS (c_X12_wheelX l D cT lo w ad a1 x4_7l v_18 v_22 v_25 hc_25) cw_X12_wheelX lk_X12_299 vi_X12_wheelX k_63 (n2 (hP.al 63 rfl)) rfl ⟨rfl, rfl, Nat.le_of_ble_eq_true rfl, Nat.le_of_ble_eq_true rfl⟩ hl.1 rfl (Nat.le_of_ble_eq_true rfl) dX12_meetsKerb_25 ⟨Nat.zero_le _, Nat.zero_le _⟩) hS (fun H locs hP hS _ => ?_)
        refine lv_istore (lv' := [(5, .int v_25), (4, .int x4_7l), (3, .int v_3), (0, .ref (ad 63)), (1, .int a1)]) hx hb dX12_meetsKerb_28 hl (Nat.le_of_ble_eq_true rfl) rfl (fun ls hl => ?_)
        refine lv_aload_n hx hb dX12_meetsKerb_30 rfl (lv_at hl 3 rfl) ?_
        refine lv_iload_n hx hb dX12_meetsKerb_31 rfl (lv_at hl 4 rfl) ?_
        refine lv_iload hx hb dX12_meetsKerb_32 (lv_at hl 1 rfl) ?_
        refine lv_aload_n hx hb dX12_meetsKerb_34 rfl (lv_at hl 3 rfl) ?_
        refine y_geti h F hP k_63 (n2 (hP.al 63 rfl)) fl_X12_273 rfl dX12_meetsKerb_35 (fun v_35 h => ?_)
        refine lv_aload_n hx hb dX12_meetsKerb_38 rfl (lv_at hl 3 rfl) ?_
        refine y_geti h F hP k_63 (n2 (hP.al 63 rfl)) fl_X12_276 rfl dX12_meetsKerb_39 (fun v_39 h => ?_)
        obtain ⟨v_42, hc_42, h⟩ := bo_s h
        refine x_goes (x_runV (As := [.int a1, .int x4_7l, .int v_35, .int v_39]) (rest := []) F hP hS (c_X12_wheelY l D cT lo w ad a1 x4_7l v_35 v_39 v_42 hc_42) cw_X12_wheelY lk_X12_303 vi_X12_wheelY k_63 (n2 (hP.al 63 rfl)) rfl ⟨rfl, rfl, Nat.le_of_ble_eq_true rfl, Nat.le_of_ble_eq_true rfl⟩ hl.1 rfl (Nat.le_of_ble_eq_true rfl) dX12_meetsKerb_42 ⟨Nat.zero_le _, Nat.zero_le _⟩) hS (fun H locs hP hS _ => ?_)
        refine lv_istore (lv' := [(6, .int v_42), (5, .int v_25), (4, .int x4_7l), (3, .int v_3), (0, .ref (ad 63)), (1, .int a1)]) hx hb dX12_meetsKerb_45 hl (Nat.le_of_ble_eq_true rfl) rfl (fun ls hl => ?_)
        refine lv_iload hx hb dX12_meetsKerb_47 (lv_at hl 1 rfl) ?_
        refine lv_bipush (v := 65) hx hb dX12_meetsKerb_49 ib_65 ?_
        refine lv_aload_n hx hb dX12_meetsKerb_51 rfl (lv_at hl 4 rfl) ?_
        refine x_getr F hP k_63 (hP.al 63 rfl) fl_X12_22 rfl r_63_6 dX12_meetsKerb_52 ?_
        refine lv_iload_n hx hb dX12_meetsKerb_55 rfl (lv_at hl 3 rfl) ?_
        refine y_iald h F hP k_68 (n2 (hP.al 68 rfl)) dX12_meetsKerb_56 (fun v_56 h => ?_)
        refine lv_imul hx hb dX12_meetsKerb_57 ?_
        refine jn_use (fun (j_111 : Option Int32) => j_111 = some r → GG p l e { frames := 4, cells := 0, slots := 0, locals := 86 } s m args below meth c 0 0 (MQ below (mQz D cT lo NB w w ad r) args s 0 0 (fun q => lo ≤ q)) D cT lo NB 7 ad w 111 [(4, .int x4_7l), (3, .int v_3), (0, .ref (ad 63)), (1, .int a1)] []) h (fun h H locs ls hP hS hl => ?_) (fun j_111 J_111 h => ?_)
        · refine y_iinc (lv' := fun (v_111 : Int32) => [(4, .int v_111), (3, .int v_3), (0, .ref (ad 63)), (1, .int a1)]) h F ic_1 dX12_meetsKerb_111 hl (kq := 0) rfl (Nat.le_of_ble_eq_true rfl) (fun _ => rfl) (fun v_111 ls hl h => ?_)
          refine lv_goto (tgt := 7) hx hb dX12_meetsKerb_114 (by decide) ?_
          exact ih_7 v_111 h _ _ _ hP hS (lv_sub hl [0, 1, 2, 3] rfl)
        · refine lv_icmp_le (tgt := 111) hx hb dX12_meetsKerb_58 (by decide) (fun hc => ?_) (fun hc => ?_)
          · have h := if_t _ hc h
            exact J_111  h _ _ _ hP hS (lv_sub hl [2, 3, 4, 5] rfl)
          · have h := if_f _ hc h
            refine lv_iload hx hb dX12_meetsKerb_61 (lv_at hl 1 rfl) ?_
            refine lv_bipush (v := 65) hx hb dX12_meetsKerb_63 ib_65 ?_
            refine lv_aload_n hx hb dX12_meetsKerb_65 rfl (lv_at hl 4 rfl) ?_
            refine x_getr F hP k_63 (hP.al 63 rfl) fl_X12_22 rfl r_63_6 dX12_meetsKerb_66 ?_
            refine lv_iload_n hx hb dX12_meetsKerb_69 rfl (lv_at hl 3 rfl) ?_
            refine lv_iconst (v := 2) hx hb dX12_meetsKerb_70 ic_2 ?_
            refine lv_iadd hx hb dX12_meetsKerb_71 ?_
            refine y_iald h F hP k_68 (n2 (hP.al 68 rfl)) dX12_meetsKerb_72 (fun v_72 h => ?_)
            refine lv_imul hx hb dX12_meetsKerb_73 ?_
            refine lv_icmp_ge (tgt := 111) hx hb dX12_meetsKerb_74 (by decide) (fun hc => ?_) (fun hc => ?_)
            · have h := if_t _ hc h
              exact J_111  h _ _ _ hP hS (lv_sub hl [2, 3, 4, 5] rfl)
            · have h := if_f _ hc h
              refine lv_iload hx hb dX12_meetsKerb_77 (lv_at hl 0 rfl) ?_
              refine lv_bipush (v := 65) hx hb dX12_meetsKerb_79 ib_65 ?_
              refine lv_aload_n hx hb dX12_meetsKerb_81 rfl (lv_at hl 4 rfl) ?_
              refine x_getr F hP k_63 (hP.al 63 rfl) fl_X12_22 rfl r_63_6 dX12_meetsKerb_82 ?_
              refine lv_iload_n hx hb dX12_meetsKerb_85 rfl (lv_at hl 3 rfl) ?_
              refine lv_iconst (v := 1) hx hb dX12_meetsKerb_86 ic_1 ?_
              refine lv_iadd hx hb dX12_meetsKerb_87 ?_
              refine y_iald h F hP k_68 (n2 (hP.al 68 rfl)) dX12_meetsKerb_88 (fun v_88 h => ?_)
              refine lv_imul hx hb dX12_meetsKerb_89 ?_
              refine lv_icmp_le (tgt := 111) hx hb dX12_meetsKerb_90 (by decide) (fun hc => ?_) (fun hc => ?_)
              · have h := if_t _ hc h
                exact J_111  h _ _ _ hP hS (lv_sub hl [2, 3, 4, 5] rfl)
              · have h := if_f _ hc h
                refine lv_iload hx hb dX12_meetsKerb_93 (lv_at hl 0 rfl) ?_
                refine lv_bipush (v := 65) hx hb dX12_meetsKerb_95 ib_65 ?_
                refine lv_aload_n hx hb dX12_meetsKerb_97 rfl (lv_at hl 4 rfl) ?_
                refine x_getr F hP k_63 (hP.al 63 rfl) fl_X12_22 rfl r_63_6 dX12_meetsKerb_98 ?_
                refine lv_iload_n hx hb dX12_meetsKerb_101 rfl (lv_at hl 3 rfl) ?_
                refine lv_iconst (v := 3) hx hb dX12_meetsKerb_102 ic_3 ?_
                refine lv_iadd hx hb dX12_meetsKerb_103 ?_
                refine y_iald h F hP k_68 (n2 (hP.al 68 rfl)) dX12_meetsKerb_104 (fun v_104 h => ?_)
                refine lv_imul hx hb dX12_meetsKerb_105 ?_
                refine lv_icmp_ge (tgt := 111) hx hb dX12_meetsKerb_106 (by decide) (fun hc => ?_) (fun hc => ?_)
                · have h := if_t _ hc h
                  exact J_111  h _ _ _ hP hS (lv_sub hl [2, 3, 4, 5] rfl)
                · have h := if_f _ hc h
                  refine lv_iconst (v := 1) hx hb dX12_meetsKerb_109 ic_1 ?_
                  exact y_zretO h F hr hP hS hlk rfl dX12_meetsKerb_110
  exact L_7 FU (0 : Int32) h _ _ _ hP hS (lv_sub hl [0, 1, 2, 3] rfl)
def l_X12_meetsCar_46 (a1 : Int32) (a2 : Int32) (w : Wd) (v_13 : Int32) (v_27 : Int32) (x5_32l : Int32) (j_174 : Option Int32) : Nat → Int32 → Option Int32
  | 0, _ => none
  | n_46 + 1, x6_46l =>
    q_ld w 80 4 a2 (fun v_53 =>
    if v_53 ≤ x6_46l then
    j_174
    else
    q_bo (f_X12_footOf w a1 x5_32l) (fun v_61 =>
    q_ld w 81 20 (((5 : Int32) * a2) + x6_46l) (fun v_74 =>
    q_jn (fun (s0_104 : Int32) =>
    q_jn (q_lt (x6_46l + (1 : Int32)) (fun v_168 =>
    l_X12_meetsCar_46 a1 a2 w v_13 v_27 x5_32l j_174 n_46 v_168)) (fun j_168 =>
    if s0_104 = 0 then
    j_168
    else
    q_gt w 63 33 (fun v_115 =>
    q_bo (f_X12_halfLong w a1 x5_32l) (fun v_123 =>
    q_bo (f_X12_halfBroad w a1 x5_32l) (fun v_132 =>
    q_ld w 87 4 a2 (fun v_141 =>
    q_bo (f_X12_halfLong w a2 x6_46l) (fun v_147 =>
    q_bo (f_X12_halfBroad w a2 x6_46l) (fun v_156 =>
    if (f_X12_touch v_13 v_27 v_115 ((2 : Int32) * v_123) ((2 : Int32) * v_132) v_141 ((2 : Int32) * v_147) ((2 : Int32) * v_156)) = 0 then
    j_168
    else
    some (1 : Int32))))))))) (fun j_104 =>
    q_jn (j_104 (0 : Int32)) (fun j_103 =>
    if v_74 ≤ v_61 then
    j_103
    else
    q_bo (f_X12_footOf w a2 x6_46l) (fun v_82 =>
    q_ld w 81 20 (((5 : Int32) * a1) + x5_32l) (fun v_95 =>
    if v_95 ≤ v_82 then
    j_103
    else
    j_104 (1 : Int32))))))))
def l_X12_meetsCar_32 (a1 : Int32) (a2 : Int32) (w : Wd) (v_13 : Int32) (v_27 : Int32) : Nat → Int32 → Option Int32
  | 0, _ => none
  | n_32 + 1, x5_32l =>
    q_ld w 80 4 a1 (fun v_39 =>
    if v_39 ≤ x5_32l then
    some (0 : Int32)
    else
    q_jn (q_lt (x5_32l + (1 : Int32)) (fun v_174 =>
    l_X12_meetsCar_32 a1 a2 w v_13 v_27 n_32 v_174)) (fun j_174 =>
    l_X12_meetsCar_46 a1 a2 w v_13 v_27 x5_32l j_174 FU (0 : Int32)))
def f_X12_meetsCar (w : Wd) (a1 : Int32) (a2 : Int32) : Option Int32 :=
q_ld w 85 4 a2 (fun v_6 =>
q_gt w 63 31 (fun v_8 =>
q_lt ((2 : Int32) * (v_6 - v_8)) (fun v_13 =>
q_ld w 86 4 a2 (fun v_20 =>
q_gt w 63 32 (fun v_22 =>
q_lt ((2 : Int32) * (v_20 - v_22)) (fun v_27 =>
l_X12_meetsCar_32 a1 a2 w v_13 v_27 FU (0 : Int32)))))))
set_option maxRecDepth 100000 in
set_option maxHeartbeats 4000000 in
theorem c_X12_meetsCar (l : Launch) (D : va_G) (cT : Nat → ClassId) (lo : Nat) (w : Wd) (ad : Nat → Nat) (a1 : Int32) (a2 : Int32) (r : Int32) (h : f_X12_meetsCar w a1 a2 = some r) : Met l yX12_meetsCar (.code yX12_meetsCar cX12_meetsCar 8 (some .boolean) :: TW) { frames := 5, cells := 0, slots := 0, locals := 123 } (mPc D cT lo NB w ad [.ref (ad 63), .int a1, .int a2]) (mQz D cT lo NB w w ad r) 0 0 (fun q => lo ≤ q) := by
  unfold f_X12_meetsCar at h
  refine x_met (lv := [(0, .ref (ad 63)), (1, .int a1), (2, .int a2)]) (by decide +kernel) (Nat.le_of_ble_eq_true rfl) rfl ?_
  intro p e s m args below meth c ls F hr hlk hP hin hl
  have hx := F.1
  have hb := F.2.1
  have hS : va_S (fun q => lo ≤ q) s.heap s.heap [] := va_S.rf
  refine lv_iconst (v := 2) hx hb dX12_meetsCar_0 ic_2 ?_
  refine lv_aload_n hx hb dX12_meetsCar_1 rfl (lv_at hl 0 rfl) ?_
  refine x_getr F hP k_63 (hP.al 63 rfl) fl_X12_74 rfl r_63_26 dX12_meetsCar_2 ?_
  refine lv_iload_n hx hb dX12_meetsCar_5 rfl (lv_at hl 2 rfl) ?_
  refine y_iald h F hP k_85 (n2 (hP.al 85 rfl)) dX12_meetsCar_6 (fun v_6 h => ?_)
  refine lv_aload_n hx hb dX12_meetsCar_7 rfl (lv_at hl 0 rfl) ?_
  refine y_geti h F hP k_63 (n2 (hP.al 63 rfl)) fl_X12_270 rfl dX12_meetsCar_8 (fun v_8 h => ?_)
  refine lv_isub hx hb dX12_meetsCar_11 ?_
  refine lv_imul hx hb dX12_meetsCar_12 ?_
  refine y_let h (fun v_13 h => ?_)
  refine lv_istore_n (lv' := [(3, .int v_13), (0, .ref (ad 63)), (1, .int a1), (2, .int a2)]) hx hb dX12_meetsCar_13 rfl hl (Nat.le_of_ble_eq_true rfl) rfl (fun ls hl => ?_)
  refine lv_iconst (v := 2) hx hb dX12_meetsCar_14 ic_2 ?_
  refine lv_aload_n hx hb dX12_meetsCar_15 rfl (lv_at hl 1 rfl) ?_
  refine x_getr F hP k_63 (hP.al 63 rfl) fl_X12_77 rfl r_63_27 dX12_meetsCar_16 ?_
  refine lv_iload_n hx hb dX12_meetsCar_19 rfl (lv_at hl 3 rfl) ?_
  refine y_iald h F hP k_86 (n2 (hP.al 86 rfl)) dX12_meetsCar_20 (fun v_20 h => ?_)
  refine lv_aload_n hx hb dX12_meetsCar_21 rfl (lv_at hl 1 rfl) ?_
  refine y_geti h F hP k_63 (n2 (hP.al 63 rfl)) fl_X12_273 rfl dX12_meetsCar_22 (fun v_22 h => ?_)
  refine lv_isub hx hb dX12_meetsCar_25 ?_
  refine lv_imul hx hb dX12_meetsCar_26 ?_
  refine y_let h (fun v_27 h => ?_)
  refine lv_istore (lv' := [(4, .int v_27), (3, .int v_13), (0, .ref (ad 63)), (1, .int a1), (2, .int a2)]) hx hb dX12_meetsCar_27 hl (Nat.le_of_ble_eq_true rfl) rfl (fun ls hl => ?_)
  refine lv_iconst (v := 0) hx hb dX12_meetsCar_29 ic_0 ?_
  refine lv_istore (lv' := [(5, .int (0 : Int32)), (4, .int v_27), (3, .int v_13), (0, .ref (ad 63)), (1, .int a1), (2, .int a2)]) hx hb dX12_meetsCar_30 hl (Nat.le_of_ble_eq_true rfl) rfl (fun ls hl => ?_)
  have L_32 : ∀ (n_32 : Nat) (x5_32l : Int32), l_X12_meetsCar_32 a1 a2 w v_13 v_27 n_32 x5_32l = some r → GG p l e { frames := 5, cells := 0, slots := 0, locals := 123 } s m args below meth c 0 0 (MQ below (mQz D cT lo NB w w ad r) args s 0 0 (fun q => lo ≤ q)) D cT lo NB 8 ad w 32 [(5, .int x5_32l), (4, .int v_27), (3, .int v_13), (0, .ref (ad 63)), (1, .int a1), (2, .int a2)] [] := by
    intro n_32
    induction n_32 with
    | zero =>
      intro x5_32l h
      exact absurd h (by unfold l_X12_meetsCar_32; exact fun z => by cases z)
    | succ n_32 ih_32 =>
      intro x5_32l h H locs ls hP hS hl
      unfold l_X12_meetsCar_32 at h
      refine lv_iload hx hb dX12_meetsCar_32 (lv_at hl 0 rfl) ?_
      refine lv_aload_n hx hb dX12_meetsCar_34 rfl (lv_at hl 3 rfl) ?_
      refine x_getr F hP k_63 (hP.al 63 rfl) fl_X12_59 rfl r_63_21 dX12_meetsCar_35 ?_
      refine lv_iload_n hx hb dX12_meetsCar_38 rfl (lv_at hl 4 rfl) ?_
      refine y_iald h F hP k_80 (n2 (hP.al 80 rfl)) dX12_meetsCar_39 (fun v_39 h => ?_)
      refine lv_icmp_ge (tgt := 180) hx hb dX12_meetsCar_40 (by decide) (fun hc => ?_) (fun hc => ?_)
      · have h := if_t _ hc h
        refine lv_iconst (v := 0) hx hb dX12_meetsCar_180 ic_0 ?_
        exact y_zretO h F hr hP hS hlk rfl dX12_meetsCar_181
      · have h := if_f _ hc h
        refine lv_iconst (v := 0) hx hb dX12_meetsCar_43 ic_0 ?_
        refine lv_istore (lv' := [(6, .int (0 : Int32)), (5, .int x5_32l), (4, .int v_27), (3, .int v_13), (0, .ref (ad 63)), (1, .int a1), (2, .int a2)]) hx hb dX12_meetsCar_44 hl (Nat.le_of_ble_eq_true rfl) rfl (fun ls hl => ?_)
        refine jn_use (fun (j_174 : Option Int32) => j_174 = some r → GG p l e { frames := 5, cells := 0, slots := 0, locals := 123 } s m args below meth c 0 0 (MQ below (mQz D cT lo NB w w ad r) args s 0 0 (fun q => lo ≤ q)) D cT lo NB 8 ad w 174 [(5, .int x5_32l), (4, .int v_27), (3, .int v_13), (0, .ref (ad 63)), (1, .int a1), (2, .int a2)] []) h (fun h H locs ls hP hS hl => ?_) (fun j_174 J_174 h => ?_)
        · refine y_iinc (lv' := fun (v_174 : Int32) => [(5, .int v_174), (4, .int v_27), (3, .int v_13), (0, .ref (ad 63)), (1, .int a1), (2, .int a2)]) h F ic_1 dX12_meetsCar_174 hl (kq := 0) rfl (Nat.le_of_ble_eq_true rfl) (fun _ => rfl) (fun v_174 ls hl h => ?_)
          refine lv_goto (tgt := 32) hx hb dX12_meetsCar_177 (by decide) ?_
          exact ih_32 v_174 h _ _ _ hP hS (lv_sub hl [0, 1, 2, 3, 4, 5] rfl)
        · have L_46 : ∀ (n_46 : Nat) (x6_46l : Int32), l_X12_meetsCar_46 a1 a2 w v_13 v_27 x5_32l j_174 n_46 x6_46l = some r → GG p l e { frames := 5, cells := 0, slots := 0, locals := 123 } s m args below meth c 0 0 (MQ below (mQz D cT lo NB w w ad r) args s 0 0 (fun q => lo ≤ q)) D cT lo NB 8 ad w 46 [(6, .int x6_46l), (5, .int x5_32l), (4, .int v_27), (3, .int v_13), (0, .ref (ad 63)), (1, .int a1), (2, .int a2)] [] := by
            intro n_46
            induction n_46 with
            | zero =>
              intro x6_46l h
              exact absurd h (by unfold l_X12_meetsCar_46; exact fun z => by cases z)
            | succ n_46 ih_46 =>
              intro x6_46l h H locs ls hP hS hl
              unfold l_X12_meetsCar_46 at h
              refine lv_iload hx hb dX12_meetsCar_46 (lv_at hl 0 rfl) ?_
              refine lv_aload_n hx hb dX12_meetsCar_48 rfl (lv_at hl 4 rfl) ?_
              refine x_getr F hP k_63 (hP.al 63 rfl) fl_X12_59 rfl r_63_21 dX12_meetsCar_49 ?_
              refine lv_iload_n hx hb dX12_meetsCar_52 rfl (lv_at hl 6 rfl) ?_
              refine y_iald h F hP k_80 (n2 (hP.al 80 rfl)) dX12_meetsCar_53 (fun v_53 h => ?_)
              refine lv_icmp_ge (tgt := 174) hx hb dX12_meetsCar_54 (by decide) (fun hc => ?_) (fun hc => ?_)
              · have h := if_t _ hc h
                exact J_174  h _ _ _ hP hS (lv_sub hl [1, 2, 3, 4, 5, 6] rfl)
              · have h := if_f _ hc h
                refine lv_aload_n hx hb dX12_meetsCar_57 rfl (lv_at hl 4 rfl) ?_
                refine lv_iload_n hx hb dX12_meetsCar_58 rfl (lv_at hl 5 rfl) ?_
                refine lv_iload hx hb dX12_meetsCar_59 (lv_at hl 1 rfl) ?_
                obtain ⟨v_61, hc_61, h⟩ := bo_s h
                refine x_goes (x_runV (As := [.int a1, .int x5_32l]) (rest := []) F hP hS (c_X12_footOf l D cT lo w ad a1 x5_32l v_61 hc_61) cw_X12_footOf lk_X12_260 vi_X12_footOf k_63 (n2 (hP.al 63 rfl)) rfl ⟨rfl, rfl, Nat.le_of_ble_eq_true rfl, Nat.le_of_ble_eq_true rfl⟩ hl.1 rfl (Nat.le_of_ble_eq_true rfl) dX12_meetsCar_61 ⟨Nat.zero_le _, Nat.zero_le _⟩) hS (fun H locs hP hS _ => ?_)
                refine lv_aload_n hx hb dX12_meetsCar_64 rfl (lv_at hl 4 rfl) ?_
                refine x_getr F hP k_63 (hP.al 63 rfl) fl_X12_62 rfl r_63_22 dX12_meetsCar_65 ?_
                refine lv_iconst (v := 5) hx hb dX12_meetsCar_68 ic_5 ?_
                refine lv_iload_n hx hb dX12_meetsCar_69 rfl (lv_at hl 6 rfl) ?_
                refine lv_imul hx hb dX12_meetsCar_70 ?_
                refine lv_iload hx hb dX12_meetsCar_71 (lv_at hl 0 rfl) ?_
                refine lv_iadd hx hb dX12_meetsCar_73 ?_
                refine y_iald h F hP k_81 (n2 (hP.al 81 rfl)) dX12_meetsCar_74 (fun v_74 h => ?_)
                refine jn_use (fun (j_104 : Int32 → Option Int32) => ∀ (s0_104 : Int32), j_104 s0_104 = some r → GG p l e { frames := 5, cells := 0, slots := 0, locals := 123 } s m args below meth c 0 0 (MQ below (mQz D cT lo NB w w ad r) args s 0 0 (fun q => lo ≤ q)) D cT lo NB 8 ad w 104 [(6, .int x6_46l), (5, .int x5_32l), (4, .int v_27), (3, .int v_13), (0, .ref (ad 63)), (1, .int a1), (2, .int a2)] [.int s0_104]) h (fun s0_104 h H locs ls hP hS hl => ?_) (fun j_104 J_104 h => ?_)
                · refine lv_istore (lv' := [(7, .int s0_104), (6, .int x6_46l), (5, .int x5_32l), (4, .int v_27), (3, .int v_13), (0, .ref (ad 63)), (1, .int a1), (2, .int a2)]) hx hb dX12_meetsCar_104 hl (Nat.le_of_ble_eq_true rfl) rfl (fun ls hl => ?_)
                  refine lv_iload hx hb dX12_meetsCar_106 (lv_at hl 0 rfl) ?_
                  refine jn_use (fun (j_168 : Option Int32) => j_168 = some r → GG p l e { frames := 5, cells := 0, slots := 0, locals := 123 } s m args below meth c 0 0 (MQ below (mQz D cT lo NB w w ad r) args s 0 0 (fun q => lo ≤ q)) D cT lo NB 8 ad w 168 [(6, .int x6_46l), (5, .int x5_32l), (4, .int v_27), (3, .int v_13), (0, .ref (ad 63)), (1, .int a1), (2, .int a2)] []) h (fun h H locs ls hP hS hl => ?_) (fun j_168 J_168 h => ?_)
                  · refine y_iinc (lv' := fun (v_168 : Int32) => [(6, .int v_168), (5, .int x5_32l), (4, .int v_27), (3, .int v_13), (0, .ref (ad 63)), (1, .int a1), (2, .int a2)]) h F ic_1 dX12_meetsCar_168 hl (kq := 0) rfl (Nat.le_of_ble_eq_true rfl) (fun _ => rfl) (fun v_168 ls hl h => ?_)
                    refine lv_goto (tgt := 46) hx hb dX12_meetsCar_171 (by decide) ?_
                    exact ih_46 v_168 h _ _ _ hP hS (lv_sub hl [0, 1, 2, 3, 4, 5, 6] rfl)
                  · refine lv_if_eq (tgt := 168) hx hb dX12_meetsCar_108 (by decide) (fun hc => ?_) (fun hc => ?_)
                    · have h := if_t _ hc h
                      exact J_168  h _ _ _ hP hS (lv_sub hl [1, 2, 3, 4, 5, 6, 7] rfl)
                    · have h := if_f _ hc h
                      refine lv_iload_n hx hb dX12_meetsCar_111 rfl (lv_at hl 4 rfl) ?_
                      refine lv_iload hx hb dX12_meetsCar_112 (lv_at hl 3 rfl) ?_
                      refine lv_aload_n hx hb dX12_meetsCar_114 rfl (lv_at hl 5 rfl) ?_
                      refine y_geti h F hP k_63 (n2 (hP.al 63 rfl)) fl_X12_276 rfl dX12_meetsCar_115 (fun v_115 h => ?_)
                      refine lv_iconst (v := 2) hx hb dX12_meetsCar_118 ic_2 ?_
                      refine lv_aload_n hx hb dX12_meetsCar_119 rfl (lv_at hl 5 rfl) ?_
                      refine lv_iload_n hx hb dX12_meetsCar_120 rfl (lv_at hl 6 rfl) ?_
                      refine lv_iload hx hb dX12_meetsCar_121 (lv_at hl 2 rfl) ?_
                      obtain ⟨v_123, hc_123, h⟩ := bo_s h
                      refine x_goes (x_runV (As := [.int a1, .int x5_32l]) (rest := [.int (2 : Int32), .int v_115, .int v_27, .int v_13]) F hP hS (c_X12_halfLong l D cT lo w ad a1 x5_32l v_123 hc_123) cw_X12_halfLong lk_X12_279 vi_X12_halfLong k_63 (n2 (hP.al 63 rfl)) rfl ⟨rfl, rfl, Nat.le_of_ble_eq_true rfl, Nat.le_of_ble_eq_true rfl⟩ hl.1 rfl (Nat.le_of_ble_eq_true rfl) dX12_meetsCar_123 ⟨Nat.zero_le _, Nat.zero_le _⟩) hS (fun H locs hP hS _ => ?_)
                      refine lv_imul hx hb dX12_meetsCar_126 ?_
                      refine lv_iconst (v := 2) hx hb dX12_meetsCar_127 ic_2 ?_
                      refine lv_aload_n hx hb dX12_meetsCar_128 rfl (lv_at hl 5 rfl) ?_
                      refine lv_iload_n hx hb dX12_meetsCar_129 rfl (lv_at hl 6 rfl) ?_
                      refine lv_iload hx hb dX12_meetsCar_130 (lv_at hl 2 rfl) ?_
                      obtain ⟨v_132, hc_132, h⟩ := bo_s h
                      refine x_goes (x_runV (As := [.int a1, .int x5_32l]) (rest := [.int (2 : Int32), .int ((2 : Int32) * v_123), .int v_115, .int v_27, .int v_13]) F hP hS (c_X12_halfBroad l D cT lo w ad a1 x5_32l v_132 hc_132) cw_X12_halfBroad lk_X12_282 vi_X12_halfBroad k_63 (n2 (hP.al 63 rfl)) rfl ⟨rfl, rfl, Nat.le_of_ble_eq_true rfl, Nat.le_of_ble_eq_true rfl⟩ hl.1 rfl (Nat.le_of_ble_eq_true rfl) dX12_meetsCar_132 ⟨Nat.zero_le _, Nat.zero_le _⟩) hS (fun H locs hP hS _ => ?_)
                      refine lv_imul hx hb dX12_meetsCar_135 ?_
                      refine lv_aload_n hx hb dX12_meetsCar_136 rfl (lv_at hl 5 rfl) ?_
                      refine x_getr F hP k_63 (hP.al 63 rfl) fl_X12_80 rfl r_63_28 dX12_meetsCar_137 ?_
                      refine lv_iload_n hx hb dX12_meetsCar_140 rfl (lv_at hl 7 rfl) ?_
                      refine y_iald h F hP k_87 (n2 (hP.al 87 rfl)) dX12_meetsCar_141 (fun v_141 h => ?_)
                      refine lv_iconst (v := 2) hx hb dX12_meetsCar_142 ic_2 ?_
                      refine lv_aload_n hx hb dX12_meetsCar_143 rfl (lv_at hl 5 rfl) ?_
                      refine lv_iload_n hx hb dX12_meetsCar_144 rfl (lv_at hl 7 rfl) ?_
                      refine lv_iload hx hb dX12_meetsCar_145 (lv_at hl 1 rfl) ?_
                      obtain ⟨v_147, hc_147, h⟩ := bo_s h
                      refine x_goes (x_runV (As := [.int a2, .int x6_46l]) (rest := [.int (2 : Int32), .int v_141, .int ((2 : Int32) * v_132), .int ((2 : Int32) * v_123), .int v_115, .int v_27, .int v_13]) F hP hS (c_X12_halfLong l D cT lo w ad a2 x6_46l v_147 hc_147) cw_X12_halfLong lk_X12_279 vi_X12_halfLong k_63 (n2 (hP.al 63 rfl)) rfl ⟨rfl, rfl, Nat.le_of_ble_eq_true rfl, Nat.le_of_ble_eq_true rfl⟩ hl.1 rfl (Nat.le_of_ble_eq_true rfl) dX12_meetsCar_147 ⟨Nat.zero_le _, Nat.zero_le _⟩) hS (fun H locs hP hS _ => ?_)
                      refine lv_imul hx hb dX12_meetsCar_150 ?_
                      refine lv_iconst (v := 2) hx hb dX12_meetsCar_151 ic_2 ?_
                      refine lv_aload_n hx hb dX12_meetsCar_152 rfl (lv_at hl 5 rfl) ?_
                      refine lv_iload_n hx hb dX12_meetsCar_153 rfl (lv_at hl 7 rfl) ?_
                      refine lv_iload hx hb dX12_meetsCar_154 (lv_at hl 1 rfl) ?_
                      obtain ⟨v_156, hc_156, h⟩ := bo_s h
                      refine x_goes (x_runV (As := [.int a2, .int x6_46l]) (rest := [.int (2 : Int32), .int ((2 : Int32) * v_147), .int v_141, .int ((2 : Int32) * v_132), .int ((2 : Int32) * v_123), .int v_115, .int v_27, .int v_13]) F hP hS (c_X12_halfBroad l D cT lo w ad a2 x6_46l v_156 hc_156) cw_X12_halfBroad lk_X12_282 vi_X12_halfBroad k_63 (n2 (hP.al 63 rfl)) rfl ⟨rfl, rfl, Nat.le_of_ble_eq_true rfl, Nat.le_of_ble_eq_true rfl⟩ hl.1 rfl (Nat.le_of_ble_eq_true rfl) dX12_meetsCar_156 ⟨Nat.zero_le _, Nat.zero_le _⟩) hS (fun H locs hP hS _ => ?_)
                      refine lv_imul hx hb dX12_meetsCar_159 ?_
                      refine x_goesZ (x_runS (As := [.int v_13, .int v_27, .int v_115, .int ((2 : Int32) * v_123), .int ((2 : Int32) * v_132), .int v_141, .int ((2 : Int32) * v_147), .int ((2 : Int32) * v_156)]) (rest := []) F hP hS (c_X12_touch l D cT lo NB w ad v_13 v_27 v_115 ((2 : Int32) * v_123) ((2 : Int32) * v_132) v_141 ((2 : Int32) * v_147) ((2 : Int32) * v_156)) cw_X12_touch lk_X12_285 st_X12_touch ⟨rfl, rfl, Nat.le_of_ble_eq_true rfl, Nat.le_of_ble_eq_true rfl⟩ hl.1 rfl (Nat.le_of_ble_eq_true rfl) dX12_meetsCar_160 ⟨Nat.zero_le _, Nat.zero_le _⟩) hS (fun H locs hz_160 hP hS _ => ?_)
                      refine lv_if_eq (tgt := 168) hx hb dX12_meetsCar_163 (by decide) (fun hc => ?_) (fun hc => ?_)
                      · have h := if_t _ hc h
                        exact J_168  h _ _ _ hP hS (lv_sub hl [1, 2, 3, 4, 5, 6, 7] rfl)
                      · have h := if_f _ hc h
                        refine lv_iconst (v := 1) hx hb dX12_meetsCar_166 ic_1 ?_
                        exact y_zretO h F hr hP hS hlk rfl dX12_meetsCar_167
                · refine jn_use (fun (j_103 : Option Int32) => j_103 = some r → GG p l e { frames := 5, cells := 0, slots := 0, locals := 123 } s m args below meth c 0 0 (MQ below (mQz D cT lo NB w w ad r) args s 0 0 (fun q => lo ≤ q)) D cT lo NB 8 ad w 103 [(6, .int x6_46l), (5, .int x5_32l), (4, .int v_27), (3, .int v_13), (0, .ref (ad 63)), (1, .int a1), (2, .int a2)] []) h (fun h H locs ls hP hS hl => ?_) (fun j_103 J_103 h => ?_)
                  · refine lv_iconst (v := 0) hx hb dX12_meetsCar_103 ic_0 ?_
                    exact J_104 (0 : Int32) h _ _ _ hP hS (lv_sub hl [0, 1, 2, 3, 4, 5, 6] rfl)
                  · refine lv_icmp_ge (tgt := 103) hx hb dX12_meetsCar_75 (by decide) (fun hc => ?_) (fun hc => ?_)
                    · have h := if_t _ hc h
                      exact J_103  h _ _ _ hP hS (lv_sub hl [0, 1, 2, 3, 4, 5, 6] rfl)
                    · have h := if_f _ hc h
                      refine lv_aload_n hx hb dX12_meetsCar_78 rfl (lv_at hl 4 rfl) ?_
                      refine lv_iload_n hx hb dX12_meetsCar_79 rfl (lv_at hl 6 rfl) ?_
                      refine lv_iload hx hb dX12_meetsCar_80 (lv_at hl 0 rfl) ?_
                      obtain ⟨v_82, hc_82, h⟩ := bo_s h
                      refine x_goes (x_runV (As := [.int a2, .int x6_46l]) (rest := []) F hP hS (c_X12_footOf l D cT lo w ad a2 x6_46l v_82 hc_82) cw_X12_footOf lk_X12_260 vi_X12_footOf k_63 (n2 (hP.al 63 rfl)) rfl ⟨rfl, rfl, Nat.le_of_ble_eq_true rfl, Nat.le_of_ble_eq_true rfl⟩ hl.1 rfl (Nat.le_of_ble_eq_true rfl) dX12_meetsCar_82 ⟨Nat.zero_le _, Nat.zero_le _⟩) hS (fun H locs hP hS _ => ?_)
                      refine lv_aload_n hx hb dX12_meetsCar_85 rfl (lv_at hl 4 rfl) ?_
                      refine x_getr F hP k_63 (hP.al 63 rfl) fl_X12_62 rfl r_63_22 dX12_meetsCar_86 ?_
                      refine lv_iconst (v := 5) hx hb dX12_meetsCar_89 ic_5 ?_
                      refine lv_iload_n hx hb dX12_meetsCar_90 rfl (lv_at hl 5 rfl) ?_
                      refine lv_imul hx hb dX12_meetsCar_91 ?_
                      refine lv_iload hx hb dX12_meetsCar_92 (lv_at hl 1 rfl) ?_
                      refine lv_iadd hx hb dX12_meetsCar_94 ?_
                      refine y_iald h F hP k_81 (n2 (hP.al 81 rfl)) dX12_meetsCar_95 (fun v_95 h => ?_)
                      refine lv_icmp_ge (tgt := 103) hx hb dX12_meetsCar_96 (by decide) (fun hc => ?_) (fun hc => ?_)
                      · have h := if_t _ hc h
                        exact J_103  h _ _ _ hP hS (lv_sub hl [0, 1, 2, 3, 4, 5, 6] rfl)
                      · have h := if_f _ hc h
                        refine lv_iconst (v := 1) hx hb dX12_meetsCar_99 ic_1 ?_
                        refine lv_goto (tgt := 104) hx hb dX12_meetsCar_100 (by decide) ?_
                        exact J_104 (1 : Int32) h _ _ _ hP hS (lv_sub hl [0, 1, 2, 3, 4, 5, 6] rfl)
          exact L_46 FU (0 : Int32) h _ _ _ hP hS (lv_sub hl [0, 1, 2, 3, 4, 5, 6] rfl)
  exact L_32 FU (0 : Int32) h _ _ _ hP hS (lv_sub hl [0, 1, 2, 3, 4, 5] rfl)
def l_X12_meetsNow_126 (a1 : Int32) (w : Wd) (j_169 : Option Int32) (j_157 : Int32 → Option Int32) : Nat → Int32 → Option Int32
  | 0, _ => none
  | n_126 + 1, x2_126l =>
    q_gt w 63 16 (fun v_128 =>
    if v_128 ≤ x2_126l then
    j_169
    else
    q_jn (q_lt (x2_126l + (1 : Int32)) (fun v_163 =>
    l_X12_meetsNow_126 a1 w j_169 j_157 n_126 v_163)) (fun j_163 =>
    if x2_126l = a1 then
    j_163
    else
    q_ld w 84 4 x2_126l (fun v_144 =>
    if v_144 = 0 then
    j_163
    else
    q_bo (f_X12_meetsCar w a1 x2_126l) (fun v_151 =>
    if v_151 = 0 then
    j_163
    else
    j_157 x2_126l))))
def l_X12_meetsNow_95 (a1 : Int32) (w : Wd) (j_124 : Option Int32) (j_112 : Int32 → Option Int32) : Nat → Int32 → Option Int32
  | 0, _ => none
  | n_95 + 1, x2_95l =>
    q_gt w 63 5 (fun v_97 =>
    if v_97 ≤ x2_95l then
    j_124
    else
    q_bo (f_X12_meetsKerb w a1 x2_95l) (fun v_106 =>
    if v_106 = 0 then
    q_lt (x2_95l + (1 : Int32)) (fun v_118 =>
    l_X12_meetsNow_95 a1 w j_124 j_112 n_95 v_118)
    else
    j_112 x2_95l))
def l_X12_meetsNow_64 (a1 : Int32) (w : Wd) (j_93 : Option Int32) (j_81 : Int32 → Option Int32) : Nat → Int32 → Option Int32
  | 0, _ => none
  | n_64 + 1, x2_64l =>
    q_gt w 63 7 (fun v_66 =>
    if v_66 ≤ x2_64l then
    j_93
    else
    q_bo (f_X12_meetsWire w a1 x2_64l) (fun v_75 =>
    if v_75 = 0 then
    q_lt (x2_64l + (1 : Int32)) (fun v_87 =>
    l_X12_meetsNow_64 a1 w j_93 j_81 n_64 v_87)
    else
    j_81 x2_64l))
def l_X12_meetsNow_33 (a1 : Int32) (w : Wd) (j_62 : Option Int32) (j_50 : Int32 → Option Int32) : Nat → Int32 → Option Int32
  | 0, _ => none
  | n_33 + 1, x2_33l =>
    q_gt w 63 0 (fun v_35 =>
    if v_35 ≤ x2_33l then
    j_62
    else
    q_bo (f_X12_meetsEaves w a1 x2_33l) (fun v_44 =>
    if v_44 = 0 then
    q_lt (x2_33l + (1 : Int32)) (fun v_56 =>
    l_X12_meetsNow_33 a1 w j_62 j_50 n_33 v_56)
    else
    j_50 x2_33l))
def l_X12_meetsNow_2 (a1 : Int32) (w : Wd) (j_31 : Option Int32) (j_19 : Int32 → Option Int32) : Nat → Int32 → Option Int32
  | 0, _ => none
  | n_2 + 1, x2_2l =>
    q_gt w 63 0 (fun v_4 =>
    if v_4 ≤ x2_2l then
    j_31
    else
    q_bo (f_X12_meetsHouse w a1 x2_2l) (fun v_13 =>
    if v_13 = 0 then
    q_lt (x2_2l + (1 : Int32)) (fun v_25 =>
    l_X12_meetsNow_2 a1 w j_31 j_19 n_2 v_25)
    else
    j_19 x2_2l))
def f_X12_meetsNow (w : Wd) (a1 : Int32) : Option Int32 :=
q_jn (q_jn (q_jn (q_jn (q_jn (q_gt w 63 31 (fun v_170 =>
if (f_X12_in v_170 (-40000 : Int32) (40000 : Int32)) = 0 then
some (6000 : Int32)
else
q_gt w 63 32 (fun v_184 =>
if (f_X12_in v_184 (-40000 : Int32) (40000 : Int32)) = 0 then
some (6000 : Int32)
else
some (0 : Int32)))) (fun j_169 =>
q_jn (fun (x2_157 : Int32) =>
some ((5000 : Int32) + x2_157)) (fun j_157 =>
l_X12_meetsNow_126 a1 w j_169 j_157 FU (0 : Int32)))) (fun j_124 =>
q_jn (fun (x2_112 : Int32) =>
some ((4000 : Int32) + x2_112)) (fun j_112 =>
l_X12_meetsNow_95 a1 w j_124 j_112 FU (0 : Int32)))) (fun j_93 =>
q_jn (fun (x2_81 : Int32) =>
some ((3000 : Int32) + x2_81)) (fun j_81 =>
l_X12_meetsNow_64 a1 w j_93 j_81 FU (0 : Int32)))) (fun j_62 =>
q_jn (fun (x2_50 : Int32) =>
some ((2000 : Int32) + x2_50)) (fun j_50 =>
l_X12_meetsNow_33 a1 w j_62 j_50 FU (0 : Int32)))) (fun j_31 =>
q_jn (fun (x2_19 : Int32) =>
some ((1000 : Int32) + x2_19)) (fun j_19 =>
l_X12_meetsNow_2 a1 w j_31 j_19 FU (0 : Int32)))
set_option maxRecDepth 100000 in
set_option maxHeartbeats 4000000 in
theorem c_X12_meetsNow (l : Launch) (D : va_G) (cT : Nat → ClassId) (lo : Nat) (w : Wd) (ad : Nat → Nat) (a1 : Int32) (r : Int32) (h : f_X12_meetsNow w a1 = some r) : Met l yX12_meetsNow (.code yX12_meetsNow cX12_meetsNow 3 (some .int) :: TW) { frames := 7, cells := 0, slots := 0, locals := 177 } (mPc D cT lo NB w ad [.ref (ad 63), .int a1]) (mQ D cT lo NB w w ad (some (.int r))) 0 0 (fun q => lo ≤ q) := by
  unfold f_X12_meetsNow at h
  refine x_met (lv := [(0, .ref (ad 63)), (1, .int a1)]) (by decide +kernel) (Nat.le_of_ble_eq_true rfl) rfl ?_
  intro p e s m args below meth c ls F hr hlk hP hin hl
  have hx := F.1
  have hb := F.2.1
  have hS : va_S (fun q => lo ≤ q) s.heap s.heap [] := va_S.rf
  refine lv_iconst (v := 0) hx hb dX12_meetsNow_0 ic_0 ?_
  refine lv_istore_n (lv' := [(2, .int (0 : Int32)), (0, .ref (ad 63)), (1, .int a1)]) hx hb dX12_meetsNow_1 rfl hl (Nat.le_of_ble_eq_true rfl) rfl (fun ls hl => ?_)
  refine jn_use (fun (j_31 : Option Int32) => j_31 = some r → GG p l e { frames := 7, cells := 0, slots := 0, locals := 177 } s m args below meth c 0 0 (MQ below (mQ D cT lo NB w w ad (some (.int r))) args s 0 0 (fun q => lo ≤ q)) D cT lo NB 3 ad w 31 [(0, .ref (ad 63)), (1, .int a1)] []) h (fun h H locs ls hP hS hl => ?_) (fun j_31 J_31 h => ?_)
  · refine lv_iconst (v := 0) hx hb dX12_meetsNow_31 ic_0 ?_
    refine lv_istore_n (lv' := [(2, .int (0 : Int32)), (0, .ref (ad 63)), (1, .int a1)]) hx hb dX12_meetsNow_32 rfl hl (Nat.le_of_ble_eq_true rfl) rfl (fun ls hl => ?_)
    refine jn_use (fun (j_62 : Option Int32) => j_62 = some r → GG p l e { frames := 7, cells := 0, slots := 0, locals := 177 } s m args below meth c 0 0 (MQ below (mQ D cT lo NB w w ad (some (.int r))) args s 0 0 (fun q => lo ≤ q)) D cT lo NB 3 ad w 62 [(0, .ref (ad 63)), (1, .int a1)] []) h (fun h H locs ls hP hS hl => ?_) (fun j_62 J_62 h => ?_)
    · refine lv_iconst (v := 0) hx hb dX12_meetsNow_62 ic_0 ?_
      refine lv_istore_n (lv' := [(2, .int (0 : Int32)), (0, .ref (ad 63)), (1, .int a1)]) hx hb dX12_meetsNow_63 rfl hl (Nat.le_of_ble_eq_true rfl) rfl (fun ls hl => ?_)
      refine jn_use (fun (j_93 : Option Int32) => j_93 = some r → GG p l e { frames := 7, cells := 0, slots := 0, locals := 177 } s m args below meth c 0 0 (MQ below (mQ D cT lo NB w w ad (some (.int r))) args s 0 0 (fun q => lo ≤ q)) D cT lo NB 3 ad w 93 [(0, .ref (ad 63)), (1, .int a1)] []) h (fun h H locs ls hP hS hl => ?_) (fun j_93 J_93 h => ?_)
      · refine lv_iconst (v := 0) hx hb dX12_meetsNow_93 ic_0 ?_
        refine lv_istore_n (lv' := [(2, .int (0 : Int32)), (0, .ref (ad 63)), (1, .int a1)]) hx hb dX12_meetsNow_94 rfl hl (Nat.le_of_ble_eq_true rfl) rfl (fun ls hl => ?_)
        refine jn_use (fun (j_124 : Option Int32) => j_124 = some r → GG p l e { frames := 7, cells := 0, slots := 0, locals := 177 } s m args below meth c 0 0 (MQ below (mQ D cT lo NB w w ad (some (.int r))) args s 0 0 (fun q => lo ≤ q)) D cT lo NB 3 ad w 124 [(0, .ref (ad 63)), (1, .int a1)] []) h (fun h H locs ls hP hS hl => ?_) (fun j_124 J_124 h => ?_)
        · refine lv_iconst (v := 0) hx hb dX12_meetsNow_124 ic_0 ?_
          refine lv_istore_n (lv' := [(2, .int (0 : Int32)), (0, .ref (ad 63)), (1, .int a1)]) hx hb dX12_meetsNow_125 rfl hl (Nat.le_of_ble_eq_true rfl) rfl (fun ls hl => ?_)
          refine jn_use (fun (j_169 : Option Int32) => j_169 = some r → GG p l e { frames := 7, cells := 0, slots := 0, locals := 177 } s m args below meth c 0 0 (MQ below (mQ D cT lo NB w w ad (some (.int r))) args s 0 0 (fun q => lo ≤ q)) D cT lo NB 3 ad w 169 [(0, .ref (ad 63))] []) h (fun h H locs ls hP hS hl => ?_) (fun j_169 J_169 h => ?_)
          · refine lv_aload_n hx hb dX12_meetsNow_169 rfl (lv_at hl 0 rfl) ?_
            refine y_geti h F hP k_63 (n2 (hP.al 63 rfl)) fl_X12_270 rfl dX12_meetsNow_170 (fun v_170 h => ?_)
            refine lv_ldc F.1 F.2.1 F.2.2.1 (F.2.2.2.1 _ ct_X12_248) dX12_meetsNow_173 ?_
            refine lv_ldc F.1 F.2.1 F.2.2.1 (F.2.2.2.1 _ ct_X12_249) dX12_meetsNow_175 ?_
            refine x_goesZ (x_runS (As := [.int v_170, .int (-40000 : Int32), .int (40000 : Int32)]) (rest := []) F hP hS (c_X12_in l D cT lo NB w ad v_170 (-40000 : Int32) (40000 : Int32)) cw_X12_in lk_X12_217 st_X12_in ⟨rfl, rfl, Nat.le_of_ble_eq_true rfl, Nat.le_of_ble_eq_true rfl⟩ hl.1 rfl (Nat.le_of_ble_eq_true rfl) dX12_meetsNow_177 ⟨Nat.zero_le _, Nat.zero_le _⟩) hS (fun H locs hz_177 hP hS _ => ?_)
            refine lv_if_eq (tgt := 201) hx hb dX12_meetsNow_180 (by decide) (fun hc => ?_) (fun hc => ?_)
            · have h := if_t _ hc h
              refine lv_sipush (v := 6000) hx hb dX12_meetsNow_201 is_6000 ?_
              exact y_iretO h F hr hP hS hlk dX12_meetsNow_204
            · have h := if_f _ hc h
              refine lv_aload_n hx hb dX12_meetsNow_183 rfl (lv_at hl 0 rfl) ?_
              refine y_geti h F hP k_63 (n2 (hP.al 63 rfl)) fl_X12_273 rfl dX12_meetsNow_184 (fun v_184 h => ?_)
              refine lv_ldc F.1 F.2.1 F.2.2.1 (F.2.2.2.1 _ ct_X12_248) dX12_meetsNow_187 ?_
              refine lv_ldc F.1 F.2.1 F.2.2.1 (F.2.2.2.1 _ ct_X12_249) dX12_meetsNow_189 ?_
              refine x_goesZ (x_runS (As := [.int v_184, .int (-40000 : Int32), .int (40000 : Int32)]) (rest := []) F hP hS (c_X12_in l D cT lo NB w ad v_184 (-40000 : Int32) (40000 : Int32)) cw_X12_in lk_X12_217 st_X12_in ⟨rfl, rfl, Nat.le_of_ble_eq_true rfl, Nat.le_of_ble_eq_true rfl⟩ hl.1 rfl (Nat.le_of_ble_eq_true rfl) dX12_meetsNow_191 ⟨Nat.zero_le _, Nat.zero_le _⟩) hS (fun H locs hz_191 hP hS _ => ?_)
              refine lv_if_eq (tgt := 201) hx hb dX12_meetsNow_194 (by decide) (fun hc => ?_) (fun hc => ?_)
              · have h := if_t _ hc h
                refine lv_sipush (v := 6000) hx hb dX12_meetsNow_201 is_6000 ?_
                exact y_iretO h F hr hP hS hlk dX12_meetsNow_204
              · have h := if_f _ hc h
                refine lv_iconst (v := 0) hx hb dX12_meetsNow_197 ic_0 ?_
                refine lv_goto (tgt := 204) hx hb dX12_meetsNow_198 (by decide) ?_
                exact y_iretO h F hr hP hS hlk dX12_meetsNow_204
          · refine jn_use (fun (j_157 : Int32 → Option Int32) => ∀ (x2_157 : Int32), j_157 x2_157 = some r → GG p l e { frames := 7, cells := 0, slots := 0, locals := 177 } s m args below meth c 0 0 (MQ below (mQ D cT lo NB w w ad (some (.int r))) args s 0 0 (fun q => lo ≤ q)) D cT lo NB 3 ad w 157 [(2, .int x2_157)] []) h (fun x2_157 h H locs ls hP hS hl => ?_) (fun j_157 J_157 h => ?_)
            · refine lv_sipush (v := 5000) hx hb dX12_meetsNow_157 is_5000 ?_
              refine lv_iload_n hx hb dX12_meetsNow_160 rfl (lv_at hl 0 rfl) ?_
              refine lv_iadd hx hb dX12_meetsNow_161 ?_
              exact y_iretO h F hr hP hS hlk dX12_meetsNow_162
            · have L_126 : ∀ (n_126 : Nat) (x2_126l : Int32), l_X12_meetsNow_126 a1 w j_169 j_157 n_126 x2_126l = some r → GG p l e { frames := 7, cells := 0, slots := 0, locals := 177 } s m args below meth c 0 0 (MQ below (mQ D cT lo NB w w ad (some (.int r))) args s 0 0 (fun q => lo ≤ q)) D cT lo NB 3 ad w 126 [(2, .int x2_126l), (0, .ref (ad 63)), (1, .int a1)] [] := by
                intro n_126
                induction n_126 with
                | zero =>
                  intro x2_126l h
                  exact absurd h (by unfold l_X12_meetsNow_126; exact fun z => by cases z)
                | succ n_126 ih_126 =>
                  intro x2_126l h H locs ls hP hS hl
                  unfold l_X12_meetsNow_126 at h
                  refine lv_iload_n hx hb dX12_meetsNow_126 rfl (lv_at hl 0 rfl) ?_
                  refine lv_aload_n hx hb dX12_meetsNow_127 rfl (lv_at hl 1 rfl) ?_
                  refine y_geti h F hP k_63 (n2 (hP.al 63 rfl)) fl_X12_254 rfl dX12_meetsNow_128 (fun v_128 h => ?_)
                  refine lv_icmp_ge (tgt := 169) hx hb dX12_meetsNow_131 (by decide) (fun hc => ?_) (fun hc => ?_)
                  · have h := if_t _ hc h
                    exact J_169  h _ _ _ hP hS (lv_sub hl [1] rfl)
                  · have h := if_f _ hc h
                    refine lv_iload_n hx hb dX12_meetsNow_134 rfl (lv_at hl 0 rfl) ?_
                    refine lv_iload_n hx hb dX12_meetsNow_135 rfl (lv_at hl 2 rfl) ?_
                    refine jn_use (fun (j_163 : Option Int32) => j_163 = some r → GG p l e { frames := 7, cells := 0, slots := 0, locals := 177 } s m args below meth c 0 0 (MQ below (mQ D cT lo NB w w ad (some (.int r))) args s 0 0 (fun q => lo ≤ q)) D cT lo NB 3 ad w 163 [(2, .int x2_126l), (0, .ref (ad 63)), (1, .int a1)] []) h (fun h H locs ls hP hS hl => ?_) (fun j_163 J_163 h => ?_)
                    · refine y_iinc (lv' := fun (v_163 : Int32) => [(2, .int v_163), (0, .ref (ad 63)), (1, .int a1)]) h F ic_1 dX12_meetsNow_163 hl (kq := 0) rfl (Nat.le_of_ble_eq_true rfl) (fun _ => rfl) (fun v_163 ls hl h => ?_)
                      refine lv_goto (tgt := 126) hx hb dX12_meetsNow_166 (by decide) ?_
                      exact ih_126 v_163 h _ _ _ hP hS (lv_sub hl [0, 1, 2] rfl)
                    · refine lv_icmp_eq (tgt := 163) hx hb dX12_meetsNow_136 (by decide) (fun hc => ?_) (fun hc => ?_)
                      · have h := if_t _ hc h
                        exact J_163  h _ _ _ hP hS (lv_sub hl [0, 1, 2] rfl)
                      · have h := if_f _ hc h
                        refine lv_aload_n hx hb dX12_meetsNow_139 rfl (lv_at hl 1 rfl) ?_
                        refine x_getr F hP k_63 (hP.al 63 rfl) fl_X12_71 rfl r_63_25 dX12_meetsNow_140 ?_
                        refine lv_iload_n hx hb dX12_meetsNow_143 rfl (lv_at hl 0 rfl) ?_
                        refine y_zald h F hP k_84 (n2 (hP.al 84 rfl)) dX12_meetsNow_144 (fun v_144 h => ?_)
                        refine lv_if_eq (tgt := 163) hx hb dX12_meetsNow_145 (by decide) (fun hc => ?_) (fun hc => ?_)
                        · have h := if_t _ hc h
                          exact J_163  h _ _ _ hP hS (lv_sub hl [0, 1, 2] rfl)
                        · have h := if_f _ hc h
                          refine lv_aload_n hx hb dX12_meetsNow_148 rfl (lv_at hl 1 rfl) ?_
                          refine lv_iload_n hx hb dX12_meetsNow_149 rfl (lv_at hl 2 rfl) ?_
                          refine lv_iload_n hx hb dX12_meetsNow_150 rfl (lv_at hl 0 rfl) ?_
                          obtain ⟨v_151, hc_151, h⟩ := bo_s h
                          refine x_goesZ (x_runV (As := [.int a1, .int x2_126l]) (rest := []) F hP hS (c_X12_meetsCar l D cT lo w ad a1 x2_126l v_151 hc_151) cw_X12_meetsCar lk_X12_319 vi_X12_meetsCar k_63 (n2 (hP.al 63 rfl)) rfl ⟨rfl, rfl, Nat.le_of_ble_eq_true rfl, Nat.le_of_ble_eq_true rfl⟩ hl.1 rfl (Nat.le_of_ble_eq_true rfl) dX12_meetsNow_151 ⟨Nat.zero_le _, Nat.zero_le _⟩) hS (fun H locs hz_151 hP hS _ => ?_)
                          refine lv_if_eq (tgt := 163) hx hb dX12_meetsNow_154 (by decide) (fun hc => ?_) (fun hc => ?_)
                          · have h := if_t _ hc h
                            exact J_163  h _ _ _ hP hS (lv_sub hl [0, 1, 2] rfl)
                          · have h := if_f _ hc h
                            exact J_157 x2_126l h _ _ _ hP hS (lv_sub hl [0] rfl)
              exact L_126 FU (0 : Int32) h _ _ _ hP hS (lv_sub hl [0, 1, 2] rfl)
        · refine jn_use (fun (j_112 : Int32 → Option Int32) => ∀ (x2_112 : Int32), j_112 x2_112 = some r → GG p l e { frames := 7, cells := 0, slots := 0, locals := 177 } s m args below meth c 0 0 (MQ below (mQ D cT lo NB w w ad (some (.int r))) args s 0 0 (fun q => lo ≤ q)) D cT lo NB 3 ad w 112 [(2, .int x2_112)] []) h (fun x2_112 h H locs ls hP hS hl => ?_) (fun j_112 J_112 h => ?_)
          · refine lv_sipush (v := 4000) hx hb dX12_meetsNow_112 is_4000 ?_
            refine lv_iload_n hx hb dX12_meetsNow_115 rfl (lv_at hl 0 rfl) ?_
            refine lv_iadd hx hb dX12_meetsNow_116 ?_
            exact y_iretO h F hr hP hS hlk dX12_meetsNow_117
          · have L_95 : ∀ (n_95 : Nat) (x2_95l : Int32), l_X12_meetsNow_95 a1 w j_124 j_112 n_95 x2_95l = some r → GG p l e { frames := 7, cells := 0, slots := 0, locals := 177 } s m args below meth c 0 0 (MQ below (mQ D cT lo NB w w ad (some (.int r))) args s 0 0 (fun q => lo ≤ q)) D cT lo NB 3 ad w 95 [(2, .int x2_95l), (0, .ref (ad 63)), (1, .int a1)] [] := by
              intro n_95
              induction n_95 with
              | zero =>
                intro x2_95l h
                exact absurd h (by unfold l_X12_meetsNow_95; exact fun z => by cases z)
              | succ n_95 ih_95 =>
                intro x2_95l h H locs ls hP hS hl
                unfold l_X12_meetsNow_95 at h
                refine lv_iload_n hx hb dX12_meetsNow_95 rfl (lv_at hl 0 rfl) ?_
                refine lv_aload_n hx hb dX12_meetsNow_96 rfl (lv_at hl 1 rfl) ?_
                refine y_geti h F hP k_63 (n2 (hP.al 63 rfl)) fl_X12_239 rfl dX12_meetsNow_97 (fun v_97 h => ?_)
                refine lv_icmp_ge (tgt := 124) hx hb dX12_meetsNow_100 (by decide) (fun hc => ?_) (fun hc => ?_)
                · have h := if_t _ hc h
                  exact J_124  h _ _ _ hP hS (lv_sub hl [1, 2] rfl)
                · have h := if_f _ hc h
                  refine lv_aload_n hx hb dX12_meetsNow_103 rfl (lv_at hl 1 rfl) ?_
                  refine lv_iload_n hx hb dX12_meetsNow_104 rfl (lv_at hl 2 rfl) ?_
                  refine lv_iload_n hx hb dX12_meetsNow_105 rfl (lv_at hl 0 rfl) ?_
                  obtain ⟨v_106, hc_106, h⟩ := bo_s h
                  refine x_goesZ (x_runV (As := [.int a1, .int x2_95l]) (rest := []) F hP hS (c_X12_meetsKerb l D cT lo w ad a1 x2_95l v_106 hc_106) cw_X12_meetsKerb lk_X12_316 vi_X12_meetsKerb k_63 (n2 (hP.al 63 rfl)) rfl ⟨rfl, rfl, Nat.le_of_ble_eq_true rfl, Nat.le_of_ble_eq_true rfl⟩ hl.1 rfl (Nat.le_of_ble_eq_true rfl) dX12_meetsNow_106 ⟨Nat.zero_le _, Nat.zero_le _⟩) hS (fun H locs hz_106 hP hS _ => ?_)
                  refine lv_if_eq (tgt := 118) hx hb dX12_meetsNow_109 (by decide) (fun hc => ?_) (fun hc => ?_)
                  · have h := if_t _ hc h
                    refine y_iinc (lv' := fun (v_118 : Int32) => [(2, .int v_118), (0, .ref (ad 63)), (1, .int a1)]) h F ic_1 dX12_meetsNow_118 hl (kq := 0) rfl (Nat.le_of_ble_eq_true rfl) (fun _ => rfl) (fun v_118 ls hl h => ?_)
                    refine lv_goto (tgt := 95) hx hb dX12_meetsNow_121 (by decide) ?_
                    exact ih_95 v_118 h _ _ _ hP hS (lv_sub hl [0, 1, 2] rfl)
                  · have h := if_f _ hc h
                    exact J_112 x2_95l h _ _ _ hP hS (lv_sub hl [0] rfl)
            exact L_95 FU (0 : Int32) h _ _ _ hP hS (lv_sub hl [0, 1, 2] rfl)
      · refine jn_use (fun (j_81 : Int32 → Option Int32) => ∀ (x2_81 : Int32), j_81 x2_81 = some r → GG p l e { frames := 7, cells := 0, slots := 0, locals := 177 } s m args below meth c 0 0 (MQ below (mQ D cT lo NB w w ad (some (.int r))) args s 0 0 (fun q => lo ≤ q)) D cT lo NB 3 ad w 81 [(2, .int x2_81)] []) h (fun x2_81 h H locs ls hP hS hl => ?_) (fun j_81 J_81 h => ?_)
        · refine lv_sipush (v := 3000) hx hb dX12_meetsNow_81 is_3000 ?_
          refine lv_iload_n hx hb dX12_meetsNow_84 rfl (lv_at hl 0 rfl) ?_
          refine lv_iadd hx hb dX12_meetsNow_85 ?_
          exact y_iretO h F hr hP hS hlk dX12_meetsNow_86
        · have L_64 : ∀ (n_64 : Nat) (x2_64l : Int32), l_X12_meetsNow_64 a1 w j_93 j_81 n_64 x2_64l = some r → GG p l e { frames := 7, cells := 0, slots := 0, locals := 177 } s m args below meth c 0 0 (MQ below (mQ D cT lo NB w w ad (some (.int r))) args s 0 0 (fun q => lo ≤ q)) D cT lo NB 3 ad w 64 [(2, .int x2_64l), (0, .ref (ad 63)), (1, .int a1)] [] := by
            intro n_64
            induction n_64 with
            | zero =>
              intro x2_64l h
              exact absurd h (by unfold l_X12_meetsNow_64; exact fun z => by cases z)
            | succ n_64 ih_64 =>
              intro x2_64l h H locs ls hP hS hl
              unfold l_X12_meetsNow_64 at h
              refine lv_iload_n hx hb dX12_meetsNow_64 rfl (lv_at hl 0 rfl) ?_
              refine lv_aload_n hx hb dX12_meetsNow_65 rfl (lv_at hl 1 rfl) ?_
              refine y_geti h F hP k_63 (n2 (hP.al 63 rfl)) fl_X12_242 rfl dX12_meetsNow_66 (fun v_66 h => ?_)
              refine lv_icmp_ge (tgt := 93) hx hb dX12_meetsNow_69 (by decide) (fun hc => ?_) (fun hc => ?_)
              · have h := if_t _ hc h
                exact J_93  h _ _ _ hP hS (lv_sub hl [1, 2] rfl)
              · have h := if_f _ hc h
                refine lv_aload_n hx hb dX12_meetsNow_72 rfl (lv_at hl 1 rfl) ?_
                refine lv_iload_n hx hb dX12_meetsNow_73 rfl (lv_at hl 2 rfl) ?_
                refine lv_iload_n hx hb dX12_meetsNow_74 rfl (lv_at hl 0 rfl) ?_
                obtain ⟨v_75, hc_75, h⟩ := bo_s h
                refine x_goesZ (x_runV (As := [.int a1, .int x2_64l]) (rest := []) F hP hS (c_X12_meetsWire l D cT lo w ad a1 x2_64l v_75 hc_75) cw_X12_meetsWire lk_X12_313 vi_X12_meetsWire k_63 (n2 (hP.al 63 rfl)) rfl ⟨rfl, rfl, Nat.le_of_ble_eq_true rfl, Nat.le_of_ble_eq_true rfl⟩ hl.1 rfl (Nat.le_of_ble_eq_true rfl) dX12_meetsNow_75 ⟨Nat.zero_le _, Nat.zero_le _⟩) hS (fun H locs hz_75 hP hS _ => ?_)
                refine lv_if_eq (tgt := 87) hx hb dX12_meetsNow_78 (by decide) (fun hc => ?_) (fun hc => ?_)
                · have h := if_t _ hc h
                  refine y_iinc (lv' := fun (v_87 : Int32) => [(2, .int v_87), (0, .ref (ad 63)), (1, .int a1)]) h F ic_1 dX12_meetsNow_87 hl (kq := 0) rfl (Nat.le_of_ble_eq_true rfl) (fun _ => rfl) (fun v_87 ls hl h => ?_)
                  refine lv_goto (tgt := 64) hx hb dX12_meetsNow_90 (by decide) ?_
                  exact ih_64 v_87 h _ _ _ hP hS (lv_sub hl [0, 1, 2] rfl)
                · have h := if_f _ hc h
                  exact J_81 x2_64l h _ _ _ hP hS (lv_sub hl [0] rfl)
          exact L_64 FU (0 : Int32) h _ _ _ hP hS (lv_sub hl [0, 1, 2] rfl)
    · refine jn_use (fun (j_50 : Int32 → Option Int32) => ∀ (x2_50 : Int32), j_50 x2_50 = some r → GG p l e { frames := 7, cells := 0, slots := 0, locals := 177 } s m args below meth c 0 0 (MQ below (mQ D cT lo NB w w ad (some (.int r))) args s 0 0 (fun q => lo ≤ q)) D cT lo NB 3 ad w 50 [(2, .int x2_50)] []) h (fun x2_50 h H locs ls hP hS hl => ?_) (fun j_50 J_50 h => ?_)
      · refine lv_sipush (v := 2000) hx hb dX12_meetsNow_50 is_2000 ?_
        refine lv_iload_n hx hb dX12_meetsNow_53 rfl (lv_at hl 0 rfl) ?_
        refine lv_iadd hx hb dX12_meetsNow_54 ?_
        exact y_iretO h F hr hP hS hlk dX12_meetsNow_55
      · have L_33 : ∀ (n_33 : Nat) (x2_33l : Int32), l_X12_meetsNow_33 a1 w j_62 j_50 n_33 x2_33l = some r → GG p l e { frames := 7, cells := 0, slots := 0, locals := 177 } s m args below meth c 0 0 (MQ below (mQ D cT lo NB w w ad (some (.int r))) args s 0 0 (fun q => lo ≤ q)) D cT lo NB 3 ad w 33 [(2, .int x2_33l), (0, .ref (ad 63)), (1, .int a1)] [] := by
          intro n_33
          induction n_33 with
          | zero =>
            intro x2_33l h
            exact absurd h (by unfold l_X12_meetsNow_33; exact fun z => by cases z)
          | succ n_33 ih_33 =>
            intro x2_33l h H locs ls hP hS hl
            unfold l_X12_meetsNow_33 at h
            refine lv_iload_n hx hb dX12_meetsNow_33 rfl (lv_at hl 0 rfl) ?_
            refine lv_aload_n hx hb dX12_meetsNow_34 rfl (lv_at hl 1 rfl) ?_
            refine y_geti h F hP k_63 (n2 (hP.al 63 rfl)) fl_X12_232 rfl dX12_meetsNow_35 (fun v_35 h => ?_)
            refine lv_icmp_ge (tgt := 62) hx hb dX12_meetsNow_38 (by decide) (fun hc => ?_) (fun hc => ?_)
            · have h := if_t _ hc h
              exact J_62  h _ _ _ hP hS (lv_sub hl [1, 2] rfl)
            · have h := if_f _ hc h
              refine lv_aload_n hx hb dX12_meetsNow_41 rfl (lv_at hl 1 rfl) ?_
              refine lv_iload_n hx hb dX12_meetsNow_42 rfl (lv_at hl 2 rfl) ?_
              refine lv_iload_n hx hb dX12_meetsNow_43 rfl (lv_at hl 0 rfl) ?_
              obtain ⟨v_44, hc_44, h⟩ := bo_s h
              refine x_goesZ (x_runV (As := [.int a1, .int x2_33l]) (rest := []) F hP hS (c_X12_meetsEaves l D cT lo w ad a1 x2_33l v_44 hc_44) cw_X12_meetsEaves lk_X12_310 vi_X12_meetsEaves k_63 (n2 (hP.al 63 rfl)) rfl ⟨rfl, rfl, Nat.le_of_ble_eq_true rfl, Nat.le_of_ble_eq_true rfl⟩ hl.1 rfl (Nat.le_of_ble_eq_true rfl) dX12_meetsNow_44 ⟨Nat.zero_le _, Nat.zero_le _⟩) hS (fun H locs hz_44 hP hS _ => ?_)
              refine lv_if_eq (tgt := 56) hx hb dX12_meetsNow_47 (by decide) (fun hc => ?_) (fun hc => ?_)
              · have h := if_t _ hc h
                refine y_iinc (lv' := fun (v_56 : Int32) => [(2, .int v_56), (0, .ref (ad 63)), (1, .int a1)]) h F ic_1 dX12_meetsNow_56 hl (kq := 0) rfl (Nat.le_of_ble_eq_true rfl) (fun _ => rfl) (fun v_56 ls hl h => ?_)
                refine lv_goto (tgt := 33) hx hb dX12_meetsNow_59 (by decide) ?_
                exact ih_33 v_56 h _ _ _ hP hS (lv_sub hl [0, 1, 2] rfl)
              · have h := if_f _ hc h
                exact J_50 x2_33l h _ _ _ hP hS (lv_sub hl [0] rfl)
        exact L_33 FU (0 : Int32) h _ _ _ hP hS (lv_sub hl [0, 1, 2] rfl)
  · refine jn_use (fun (j_19 : Int32 → Option Int32) => ∀ (x2_19 : Int32), j_19 x2_19 = some r → GG p l e { frames := 7, cells := 0, slots := 0, locals := 177 } s m args below meth c 0 0 (MQ below (mQ D cT lo NB w w ad (some (.int r))) args s 0 0 (fun q => lo ≤ q)) D cT lo NB 3 ad w 19 [(2, .int x2_19)] []) h (fun x2_19 h H locs ls hP hS hl => ?_) (fun j_19 J_19 h => ?_)
    · refine lv_sipush (v := 1000) hx hb dX12_meetsNow_19 is_1000 ?_
      refine lv_iload_n hx hb dX12_meetsNow_22 rfl (lv_at hl 0 rfl) ?_
      refine lv_iadd hx hb dX12_meetsNow_23 ?_
      exact y_iretO h F hr hP hS hlk dX12_meetsNow_24
    · have L_2 : ∀ (n_2 : Nat) (x2_2l : Int32), l_X12_meetsNow_2 a1 w j_31 j_19 n_2 x2_2l = some r → GG p l e { frames := 7, cells := 0, slots := 0, locals := 177 } s m args below meth c 0 0 (MQ below (mQ D cT lo NB w w ad (some (.int r))) args s 0 0 (fun q => lo ≤ q)) D cT lo NB 3 ad w 2 [(2, .int x2_2l), (0, .ref (ad 63)), (1, .int a1)] [] := by
        intro n_2
        induction n_2 with
        | zero =>
          intro x2_2l h
          exact absurd h (by unfold l_X12_meetsNow_2; exact fun z => by cases z)
        | succ n_2 ih_2 =>
          intro x2_2l h H locs ls hP hS hl
          unfold l_X12_meetsNow_2 at h
          refine lv_iload_n hx hb dX12_meetsNow_2 rfl (lv_at hl 0 rfl) ?_
          refine lv_aload_n hx hb dX12_meetsNow_3 rfl (lv_at hl 1 rfl) ?_
          refine y_geti h F hP k_63 (n2 (hP.al 63 rfl)) fl_X12_232 rfl dX12_meetsNow_4 (fun v_4 h => ?_)
          refine lv_icmp_ge (tgt := 31) hx hb dX12_meetsNow_7 (by decide) (fun hc => ?_) (fun hc => ?_)
          · have h := if_t _ hc h
            exact J_31  h _ _ _ hP hS (lv_sub hl [1, 2] rfl)
          · have h := if_f _ hc h
            refine lv_aload_n hx hb dX12_meetsNow_10 rfl (lv_at hl 1 rfl) ?_
            refine lv_iload_n hx hb dX12_meetsNow_11 rfl (lv_at hl 2 rfl) ?_
            refine lv_iload_n hx hb dX12_meetsNow_12 rfl (lv_at hl 0 rfl) ?_
            obtain ⟨v_13, hc_13, h⟩ := bo_s h
            refine x_goesZ (x_runV (As := [.int a1, .int x2_2l]) (rest := []) F hP hS (c_X12_meetsHouse l D cT lo w ad a1 x2_2l v_13 hc_13) cw_X12_meetsHouse lk_X12_306 vi_X12_meetsHouse k_63 (n2 (hP.al 63 rfl)) rfl ⟨rfl, rfl, Nat.le_of_ble_eq_true rfl, Nat.le_of_ble_eq_true rfl⟩ hl.1 rfl (Nat.le_of_ble_eq_true rfl) dX12_meetsNow_13 ⟨Nat.zero_le _, Nat.zero_le _⟩) hS (fun H locs hz_13 hP hS _ => ?_)
            refine lv_if_eq (tgt := 25) hx hb dX12_meetsNow_16 (by decide) (fun hc => ?_) (fun hc => ?_)
            · have h := if_t _ hc h
              refine y_iinc (lv' := fun (v_25 : Int32) => [(2, .int v_25), (0, .ref (ad 63)), (1, .int a1)]) h F ic_1 dX12_meetsNow_25 hl (kq := 0) rfl (Nat.le_of_ble_eq_true rfl) (fun _ => rfl) (fun v_25 ls hl h => ?_)
              refine lv_goto (tgt := 2) hx hb dX12_meetsNow_28 (by decide) ?_
              exact ih_2 v_25 h _ _ _ hP hS (lv_sub hl [0, 1, 2] rfl)
            · have h := if_f _ hc h
              exact J_19 x2_2l h _ _ _ hP hS (lv_sub hl [0] rfl)
      exact L_2 FU (0 : Int32) h _ _ _ hP hS (lv_sub hl [0, 1, 2] rfl)
def f_X12_settles (w : Wd) (a1 : Int32) : Option Wd :=
q_gt w 63 31 (fun v_6 =>
q_st w 85 4 a1 v_6 (fun w_9 =>
q_gt w_9 63 32 (fun v_16 =>
q_st w_9 86 4 a1 v_16 (fun w_19 =>
q_gt w_19 63 33 (fun v_26 =>
q_st w_19 87 4 a1 v_26 (fun w_29 =>
some w_29))))))
set_option maxRecDepth 100000 in
set_option maxHeartbeats 4000000 in
theorem c_X12_settles (l : Launch) (D : va_G) (cT : Nat → ClassId) (lo : Nat) (w : Wd) (ad : Nat → Nat) (a1 : Int32) (w9 : Wd) (h : f_X12_settles w a1 = some w9) : Met l yX12_settles (.code yX12_settles cX12_settles 2 none :: TW) { frames := 0, cells := 0, slots := 0, locals := 0 } (mPc D cT lo NB w ad [.ref (ad 63), .int a1]) (mQ D cT lo NB w w9 ad none) 0 0 (fun q => lo ≤ q) := by
  unfold f_X12_settles at h
  refine x_met (lv := [(0, .ref (ad 63)), (1, .int a1)]) (by decide +kernel) (Nat.le_of_ble_eq_true rfl) rfl ?_
  intro p e s m args below meth c ls F hr hlk hP hin hl
  have hx := F.1
  have hb := F.2.1
  have hS : va_S (fun q => lo ≤ q) s.heap s.heap [] := va_S.rf
  have hM_w : mono w w := mono.refl
  refine lv_aload_n hx hb dX12_settles_0 rfl (lv_at hl 0 rfl) ?_
  refine x_getr F hP k_63 (hP.al 63 rfl) fl_X12_74 rfl r_63_26 dX12_settles_1 ?_
  refine lv_iload_n hx hb dX12_settles_4 rfl (lv_at hl 1 rfl) ?_
  refine lv_aload_n hx hb dX12_settles_5 rfl (lv_at hl 0 rfl) ?_
  refine y_geti h F hP k_63 (n2 (hP.al 63 rfl)) fl_X12_270 rfl dX12_settles_6 (fun v_6 h => ?_)
  refine y_iast h F hP hS k_85 (n2 (hP.al 85 rfl)) dX12_settles_9 (fun w_9 H locs hm h hP hS => ?_)
  have hM_w := hm
  refine lv_aload_n hx hb dX12_settles_10 rfl (lv_at hl 0 rfl) ?_
  refine x_getr F hP k_63 (hP.al 63 rfl) fl_X12_77 rfl r_63_27 dX12_settles_11 ?_
  refine lv_iload_n hx hb dX12_settles_14 rfl (lv_at hl 1 rfl) ?_
  refine lv_aload_n hx hb dX12_settles_15 rfl (lv_at hl 0 rfl) ?_
  refine y_geti h F hP k_63 (n2 (hP.al 63 rfl)) fl_X12_273 rfl dX12_settles_16 (fun v_16 h => ?_)
  refine y_iast h F hP hS k_86 (n2 (hP.al 86 rfl)) dX12_settles_19 (fun w_19 H locs hm h hP hS => ?_)
  have hM_w := hM_w.trans hm
  refine lv_aload_n hx hb dX12_settles_20 rfl (lv_at hl 0 rfl) ?_
  refine x_getr F hP k_63 (hP.al 63 rfl) fl_X12_80 rfl r_63_28 dX12_settles_21 ?_
  refine lv_iload_n hx hb dX12_settles_24 rfl (lv_at hl 1 rfl) ?_
  refine lv_aload_n hx hb dX12_settles_25 rfl (lv_at hl 0 rfl) ?_
  refine y_geti h F hP k_63 (n2 (hP.al 63 rfl)) fl_X12_276 rfl dX12_settles_26 (fun v_26 h => ?_)
  refine y_iast h F hP hS k_87 (n2 (hP.al 87 rfl)) dX12_settles_29 (fun w_29 H locs hm h hP hS => ?_)
  have hM_w := hM_w.trans hm
  exact y_vret h F hr hP hS hM_w hlk dX12_settles_30
def f_X12_stand (w : Wd) (a1 : Int32) (a2 : Int32) (a3 : Int32) (a4 : Int32) : Option (Int32 × Wd) :=
if (f_X12_isCar w a1) = 0 then
some ((-2 : Int32), w)
else
if (f_X12_in a2 (-500 : Int32) (500 : Int32)) = 0 then
some ((-2 : Int32), w)
else
if (f_X12_in a3 (-500 : Int32) (500 : Int32)) = 0 then
some ((-2 : Int32), w)
else
if (f_X12_isHeading a4) = 0 then
some ((-2 : Int32), w)
else
q_pt w 63 31 ((65 : Int32) * a2) (fun w_50 =>
q_pt w_50 63 32 ((65 : Int32) * a3) (fun w_58 =>
q_pt w_58 63 33 a4 (fun w_64 =>
q_bo (f_X12_meetsNow w_64 a1) (fun v_69 =>
if v_69 = 0 then
q_sz w_64 84 4 a1 (1 : Int32) (fun w_84 =>
q_bo (f_X12_settles w_84 a1) (fun w_87 =>
some ((1 : Int32), w_87)))
else
some ((-3 : Int32), w_64)))))
set_option maxRecDepth 100000 in
set_option maxHeartbeats 4000000 in
theorem c_X12_stand (l : Launch) (D : va_G) (cT : Nat → ClassId) (lo : Nat) (w : Wd) (ad : Nat → Nat) (a1 : Int32) (a2 : Int32) (a3 : Int32) (a4 : Int32) (r : Int32) (w9 : Wd) (h : f_X12_stand w a1 a2 a3 a4 = some (r, w9)) : Met l yX12_stand (.code yX12_stand cX12_stand 5 (some .int) :: TW) { frames := 8, cells := 0, slots := 0, locals := 199 } (mPc D cT lo NB w ad [.ref (ad 63), .int a1, .int a2, .int a3, .int a4]) (mQ D cT lo NB w w9 ad (some (.int r))) 0 0 (fun q => lo ≤ q) := by
  unfold f_X12_stand at h
  refine x_met (lv := [(0, .ref (ad 63)), (1, .int a1), (2, .int a2), (3, .int a3), (4, .int a4)]) (by decide +kernel) (Nat.le_of_ble_eq_true rfl) rfl ?_
  intro p e s m args below meth c ls F hr hlk hP hin hl
  have hx := F.1
  have hb := F.2.1
  have hS : va_S (fun q => lo ≤ q) s.heap s.heap [] := va_S.rf
  have hM_w : mono w w := mono.refl
  refine lv_aload_n hx hb dX12_stand_0 rfl (lv_at hl 0 rfl) ?_
  refine lv_iload_n hx hb dX12_stand_1 rfl (lv_at hl 1 rfl) ?_
  refine x_goesZ (x_runV (As := [.int a1]) (rest := []) F hP hS (c_X12_isCar l D cT lo w ad a1) cw_X12_isCar lk_X12_257 vi_X12_isCar k_63 (n2 (hP.al 63 rfl)) rfl ⟨rfl, rfl, Nat.le_of_ble_eq_true rfl, Nat.le_of_ble_eq_true rfl⟩ hl.1 rfl (Nat.le_of_ble_eq_true rfl) dX12_stand_2 ⟨Nat.zero_le _, Nat.zero_le _⟩) hS (fun H locs hz_2 hP hS _ => ?_)
  refine lv_if_eq (tgt := 42) hx hb dX12_stand_5 (by decide) (fun hc => ?_) (fun hc => ?_)
  · have h := if_t _ hc h
    refine lv_bipush (v := -2) hx hb dX12_stand_42 ib_m2 ?_
    exact y_iretM h F hr hP hS mono.refl hlk dX12_stand_44
  · have h := if_f _ hc h
    refine lv_iload_n hx hb dX12_stand_8 rfl (lv_at hl 2 rfl) ?_
    refine lv_sipush (v := -500) hx hb dX12_stand_9 is_m500 ?_
    refine lv_sipush (v := 500) hx hb dX12_stand_12 is_500 ?_
    refine x_goesZ (x_runS (As := [.int a2, .int (-500 : Int32), .int (500 : Int32)]) (rest := []) F hP hS (c_X12_in l D cT lo NB w ad a2 (-500 : Int32) (500 : Int32)) cw_X12_in lk_X12_217 st_X12_in ⟨rfl, rfl, Nat.le_of_ble_eq_true rfl, Nat.le_of_ble_eq_true rfl⟩ hl.1 rfl (Nat.le_of_ble_eq_true rfl) dX12_stand_15 ⟨Nat.zero_le _, Nat.zero_le _⟩) hS (fun H locs hz_15 hP hS _ => ?_)
    refine lv_if_eq (tgt := 42) hx hb dX12_stand_18 (by decide) (fun hc => ?_) (fun hc => ?_)
    · have h := if_t _ hc h
      refine lv_bipush (v := -2) hx hb dX12_stand_42 ib_m2 ?_
      exact y_iretM h F hr hP hS mono.refl hlk dX12_stand_44
    · have h := if_f _ hc h
      refine lv_iload_n hx hb dX12_stand_21 rfl (lv_at hl 3 rfl) ?_
      refine lv_sipush (v := -500) hx hb dX12_stand_22 is_m500 ?_
      refine lv_sipush (v := 500) hx hb dX12_stand_25 is_500 ?_
      refine x_goesZ (x_runS (As := [.int a3, .int (-500 : Int32), .int (500 : Int32)]) (rest := []) F hP hS (c_X12_in l D cT lo NB w ad a3 (-500 : Int32) (500 : Int32)) cw_X12_in lk_X12_217 st_X12_in ⟨rfl, rfl, Nat.le_of_ble_eq_true rfl, Nat.le_of_ble_eq_true rfl⟩ hl.1 rfl (Nat.le_of_ble_eq_true rfl) dX12_stand_28 ⟨Nat.zero_le _, Nat.zero_le _⟩) hS (fun H locs hz_28 hP hS _ => ?_)
      refine lv_if_eq (tgt := 42) hx hb dX12_stand_31 (by decide) (fun hc => ?_) (fun hc => ?_)
      · have h := if_t _ hc h
        refine lv_bipush (v := -2) hx hb dX12_stand_42 ib_m2 ?_
        exact y_iretM h F hr hP hS mono.refl hlk dX12_stand_44
      · have h := if_f _ hc h
        refine lv_iload hx hb dX12_stand_34 (lv_at hl 4 rfl) ?_
        refine x_goesZ (x_runS (As := [.int a4]) (rest := []) F hP hS (c_X12_isHeading l D cT lo NB w ad a4) cw_X12_isHeading lk_X12_221 st_X12_isHeading ⟨rfl, rfl, Nat.le_of_ble_eq_true rfl, Nat.le_of_ble_eq_true rfl⟩ hl.1 rfl (Nat.le_of_ble_eq_true rfl) dX12_stand_36 ⟨Nat.zero_le _, Nat.zero_le _⟩) hS (fun H locs hz_36 hP hS _ => ?_)
        refine lv_if_ne (tgt := 45) hx hb dX12_stand_39 (by decide) (fun hc => ?_) (fun hc => ?_)
        · have h := if_f _ hc h
          refine lv_aload_n hx hb dX12_stand_45 rfl (lv_at hl 0 rfl) ?_
          refine lv_bipush (v := 65) hx hb dX12_stand_46 ib_65 ?_
          refine lv_iload_n hx hb dX12_stand_48 rfl (lv_at hl 2 rfl) ?_
          refine lv_imul hx hb dX12_stand_49 ?_
          refine y_puti h F hP hS k_63 (n2 (hP.al 63 rfl)) fl_X12_270 rfl dX12_stand_50 (fun w_50 H locs hm h hP hS => ?_)
          have hM_w := hm
          refine lv_aload_n hx hb dX12_stand_53 rfl (lv_at hl 0 rfl) ?_
          refine lv_bipush (v := 65) hx hb dX12_stand_54 ib_65 ?_
          refine lv_iload_n hx hb dX12_stand_56 rfl (lv_at hl 3 rfl) ?_
          refine lv_imul hx hb dX12_stand_57 ?_
          refine y_puti h F hP hS k_63 (n2 (hP.al 63 rfl)) fl_X12_273 rfl dX12_stand_58 (fun w_58 H locs hm h hP hS => ?_)
          have hM_w := hM_w.trans hm
          refine lv_aload_n hx hb dX12_stand_61 rfl (lv_at hl 0 rfl) ?_
          refine lv_iload hx hb dX12_stand_62 (lv_at hl 4 rfl) ?_
          refine y_puti h F hP hS k_63 (n2 (hP.al 63 rfl)) fl_X12_276 rfl dX12_stand_64 (fun w_64 H locs hm h hP hS => ?_)
          have hM_w := hM_w.trans hm
          refine lv_aload_n hx hb dX12_stand_67 rfl (lv_at hl 0 rfl) ?_
          refine lv_iload_n hx hb dX12_stand_68 rfl (lv_at hl 1 rfl) ?_
          obtain ⟨v_69, hc_69, h⟩ := bo_s h
          refine x_goes (x_runV (As := [.int a1]) (rest := []) F hP hS (c_X12_meetsNow l D cT lo w_64 ad a1 v_69 hc_69) cw_X12_meetsNow lk_X12_322 vi_X12_meetsNow k_63 (n2 (hP.al 63 rfl)) rfl ⟨rfl, rfl, Nat.le_of_ble_eq_true rfl, Nat.le_of_ble_eq_true rfl⟩ hl.1 rfl (Nat.le_of_ble_eq_true rfl) dX12_stand_69 ⟨Nat.zero_le _, Nat.zero_le _⟩) hS (fun H locs hP hS _ => ?_)
          refine lv_if_eq (tgt := 78) hx hb dX12_stand_72 (by decide) (fun hc => ?_) (fun hc => ?_)
          · have h := if_t _ hc h
            refine lv_aload_n hx hb dX12_stand_78 rfl (lv_at hl 0 rfl) ?_
            refine x_getr F hP k_63 (hP.al 63 rfl) fl_X12_71 rfl r_63_25 dX12_stand_79 ?_
            refine lv_iload_n hx hb dX12_stand_82 rfl (lv_at hl 1 rfl) ?_
            refine lv_iconst (v := 1) hx hb dX12_stand_83 ic_1 ?_
            refine y_zast h F hP hS k_84 (n2 (hP.al 84 rfl)) dX12_stand_84 (fun w_84 H locs hm h hP hS => ?_)
            have hM_w := hM_w.trans hm
            refine lv_aload_n hx hb dX12_stand_85 rfl (lv_at hl 0 rfl) ?_
            refine lv_iload_n hx hb dX12_stand_86 rfl (lv_at hl 1 rfl) ?_
            obtain ⟨w_87, hc_87, h⟩ := bo_s h
            refine x_goes (x_runV (As := [.int a1]) (rest := []) F hP hS (c_X12_settles l D cT lo w_84 ad a1 w_87 hc_87) cw_X12_settles lk_X12_325 vi_X12_settles k_63 (n2 (hP.al 63 rfl)) rfl ⟨rfl, rfl, Nat.le_of_ble_eq_true rfl, Nat.le_of_ble_eq_true rfl⟩ hl.1 rfl (Nat.le_of_ble_eq_true rfl) dX12_stand_87 ⟨Nat.zero_le _, Nat.zero_le _⟩) hS (fun H locs hP hS hm => ?_)
            have hM_w := hM_w.trans hm
            refine lv_iconst (v := 1) hx hb dX12_stand_90 ic_1 ?_
            exact y_iretM h F hr hP hS hM_w hlk dX12_stand_91
          · have h := if_f _ hc h
            refine lv_bipush (v := -3) hx hb dX12_stand_75 ib_m3 ?_
            exact y_iretM h F hr hP hS hM_w hlk dX12_stand_77
        · have h := if_t _ hc h
          refine lv_bipush (v := -2) hx hb dX12_stand_42 ib_m2 ?_
          exact y_iretM h F hr hP hS mono.refl hlk dX12_stand_44
def f_X12_leave (w : Wd) (a1 : Int32) : Option (Int32 × Wd) :=
if (f_X12_isCar w a1) = 0 then
some ((-2 : Int32), w)
else
q_ld w 84 4 a1 (fun v_16 =>
q_jn (fun (s0_25 : Int32) =>
q_sz w 84 4 a1 (0 : Int32) (fun w_32 =>
some (s0_25, w_32))) (fun j_25 =>
if v_16 = 0 then
j_25 (0 : Int32)
else
j_25 (1 : Int32)))
set_option maxRecDepth 100000 in
set_option maxHeartbeats 4000000 in
theorem c_X12_leave (l : Launch) (D : va_G) (cT : Nat → ClassId) (lo : Nat) (w : Wd) (ad : Nat → Nat) (a1 : Int32) (r : Int32) (w9 : Wd) (h : f_X12_leave w a1 = some (r, w9)) : Met l yX12_leave (.code yX12_leave cX12_leave 3 (some .int) :: TW) { frames := 2, cells := 0, slots := 0, locals := 43 } (mPc D cT lo NB w ad [.ref (ad 63), .int a1]) (mQ D cT lo NB w w9 ad (some (.int r))) 0 0 (fun q => lo ≤ q) := by
  unfold f_X12_leave at h
  refine x_met (lv := [(0, .ref (ad 63)), (1, .int a1)]) (by decide +kernel) (Nat.le_of_ble_eq_true rfl) rfl ?_
  intro p e s m args below meth c ls F hr hlk hP hin hl
  have hx := F.1
  have hb := F.2.1
  have hS : va_S (fun q => lo ≤ q) s.heap s.heap [] := va_S.rf
  have hM_w : mono w w := mono.refl
  refine lv_aload_n hx hb dX12_leave_0 rfl (lv_at hl 0 rfl) ?_
  refine lv_iload_n hx hb dX12_leave_1 rfl (lv_at hl 1 rfl) ?_
  refine x_goesZ (x_runV (As := [.int a1]) (rest := []) F hP hS (c_X12_isCar l D cT lo w ad a1) cw_X12_isCar lk_X12_257 vi_X12_isCar k_63 (n2 (hP.al 63 rfl)) rfl ⟨rfl, rfl, Nat.le_of_ble_eq_true rfl, Nat.le_of_ble_eq_true rfl⟩ hl.1 rfl (Nat.le_of_ble_eq_true rfl) dX12_leave_2 ⟨Nat.zero_le _, Nat.zero_le _⟩) hS (fun H locs hz_2 hP hS _ => ?_)
  refine lv_if_ne (tgt := 11) hx hb dX12_leave_5 (by decide) (fun hc => ?_) (fun hc => ?_)
  · have h := if_f _ hc h
    refine lv_aload_n hx hb dX12_leave_11 rfl (lv_at hl 0 rfl) ?_
    refine x_getr F hP k_63 (hP.al 63 rfl) fl_X12_71 rfl r_63_25 dX12_leave_12 ?_
    refine lv_iload_n hx hb dX12_leave_15 rfl (lv_at hl 1 rfl) ?_
    refine y_zald h F hP k_84 (n2 (hP.al 84 rfl)) dX12_leave_16 (fun v_16 h => ?_)
    refine jn_use (fun (j_25 : Int32 → Option (Int32 × Wd)) => ∀ (s0_25 : Int32), j_25 s0_25 = some (r, w9) → GG p l e { frames := 2, cells := 0, slots := 0, locals := 43 } s m args below meth c 0 0 (MQ below (mQ D cT lo NB w w9 ad (some (.int r))) args s 0 0 (fun q => lo ≤ q)) D cT lo NB 3 ad w 25 [(0, .ref (ad 63)), (1, .int a1)] [.int s0_25]) h (fun s0_25 h H locs ls hP hS hl => ?_) (fun j_25 J_25 h => ?_)
    · refine lv_istore_n (lv' := [(2, .int s0_25), (0, .ref (ad 63)), (1, .int a1)]) hx hb dX12_leave_25 rfl hl (Nat.le_of_ble_eq_true rfl) rfl (fun ls hl => ?_)
      refine lv_aload_n hx hb dX12_leave_26 rfl (lv_at hl 1 rfl) ?_
      refine x_getr F hP k_63 (hP.al 63 rfl) fl_X12_71 rfl r_63_25 dX12_leave_27 ?_
      refine lv_iload_n hx hb dX12_leave_30 rfl (lv_at hl 2 rfl) ?_
      refine lv_iconst (v := 0) hx hb dX12_leave_31 ic_0 ?_
      refine y_zast h F hP hS k_84 (n2 (hP.al 84 rfl)) dX12_leave_32 (fun w_32 H locs hm h hP hS => ?_)
      have hM_w := hm
      refine lv_iload_n hx hb dX12_leave_33 rfl (lv_at hl 0 rfl) ?_
      exact y_iretM h F hr hP hS hM_w hlk dX12_leave_34
    · refine lv_if_eq (tgt := 24) hx hb dX12_leave_17 (by decide) (fun hc => ?_) (fun hc => ?_)
      · have h := if_t _ hc h
        refine lv_iconst (v := 0) hx hb dX12_leave_24 ic_0 ?_
        exact J_25 (0 : Int32) h _ _ _ hP hS (lv_sub hl [0, 1] rfl)
      · have h := if_f _ hc h
        refine lv_iconst (v := 1) hx hb dX12_leave_20 ic_1 ?_
        refine lv_goto (tgt := 25) hx hb dX12_leave_21 (by decide) ?_
        exact J_25 (1 : Int32) h _ _ _ hP hS (lv_sub hl [0, 1] rfl)
  · have h := if_t _ hc h
    refine lv_bipush (v := -2) hx hb dX12_leave_8 ib_m2 ?_
    exact y_iretM h F hr hP hS mono.refl hlk dX12_leave_10
def f_X12_aboutOf (w : Wd) (a1 : Int32) (a2 : Int32) : Option Int32 :=
if a2 = 0 then
q_ld w 76 4 a1 (fun v_61 =>
some v_61)
else if a2 = 1 then
q_ld w 77 4 a1 (fun v_68 =>
some v_68)
else if a2 = 2 then
q_ld w 78 4 a1 (fun v_75 =>
some v_75)
else if a2 = 3 then
q_ld w 79 4 a1 (fun v_82 =>
some v_82)
else if a2 = 4 then
q_ld w 80 4 a1 (fun v_89 =>
some v_89)
else if a2 = 5 then
q_ld w 84 4 a1 (fun v_96 =>
if v_96 = 0 then
some (-2147483648 : Int32)
else
q_ld w 85 4 a1 (fun v_105 =>
some v_105))
else if a2 = 6 then
q_ld w 84 4 a1 (fun v_118 =>
if v_118 = 0 then
some (-2147483648 : Int32)
else
q_ld w 86 4 a1 (fun v_127 =>
some v_127))
else if a2 = 7 then
q_ld w 84 4 a1 (fun v_140 =>
if v_140 = 0 then
some (-2147483648 : Int32)
else
q_ld w 87 4 a1 (fun v_149 =>
some v_149))
else if a2 = 8 then
q_ld w 88 4 a1 (fun v_162 =>
some v_162)
else if a2 = 9 then
q_ld w 84 4 a1 (fun v_169 =>
if v_169 = 0 then
some (0 : Int32)
else
some (1 : Int32))
else 
some (-2147483648 : Int32)
set_option maxRecDepth 100000 in
set_option maxHeartbeats 4000000 in
theorem c_X12_aboutOf (l : Launch) (D : va_G) (cT : Nat → ClassId) (lo : Nat) (w : Wd) (ad : Nat → Nat) (a1 : Int32) (a2 : Int32) (r : Int32) (h : f_X12_aboutOf w a1 a2 = some r) : Met l yX12_aboutOf (.code yX12_aboutOf cX12_aboutOf 3 (some .int) :: TW) { frames := 0, cells := 0, slots := 0, locals := 0 } (mPc D cT lo NB w ad [.ref (ad 63), .int a1, .int a2]) (mQ D cT lo NB w w ad (some (.int r))) 0 0 (fun q => lo ≤ q) := by
  unfold f_X12_aboutOf at h
  refine x_met (lv := [(0, .ref (ad 63)), (1, .int a1), (2, .int a2)]) (by decide +kernel) (Nat.le_of_ble_eq_true rfl) rfl ?_
  intro p e s m args below meth c ls F hr hlk hP hin hl
  have hx := F.1
  have hb := F.2.1
  have hS : va_S (fun q => lo ≤ q) s.heap s.heap [] := va_S.rf
  refine lv_iload_n hx hb dX12_aboutOf_0 rfl (lv_at hl 2 rfl) ?_
  by_cases hc0 : a2 = 0
  · have h := if_t _ hc0 h
    refine lv_tableIn (off := 55) (tgt := 56) hx hb dX12_aboutOf_1 (by rw [hc0]; decide) (by rw [hc0]; decide) (by rw [hc0]; rfl) (by decide) ?_
    refine lv_aload_n hx hb dX12_aboutOf_56 rfl (lv_at hl 0 rfl) ?_
    refine x_getr F hP k_63 (hP.al 63 rfl) fl_X12_47 rfl r_63_17 dX12_aboutOf_57 ?_
    refine lv_iload_n hx hb dX12_aboutOf_60 rfl (lv_at hl 1 rfl) ?_
    refine y_iald h F hP k_76 (n2 (hP.al 76 rfl)) dX12_aboutOf_61 (fun v_61 h => ?_)
    exact y_iretO h F hr hP hS hlk dX12_aboutOf_62
  have h := if_f _ hc0 h
  by_cases hc1 : a2 = 1
  · have h := if_t _ hc1 h
    refine lv_tableIn (off := 62) (tgt := 63) hx hb dX12_aboutOf_1 (by rw [hc1]; decide) (by rw [hc1]; decide) (by rw [hc1]; rfl) (by decide) ?_
    refine lv_aload_n hx hb dX12_aboutOf_63 rfl (lv_at hl 0 rfl) ?_
    refine x_getr F hP k_63 (hP.al 63 rfl) fl_X12_50 rfl r_63_18 dX12_aboutOf_64 ?_
    refine lv_iload_n hx hb dX12_aboutOf_67 rfl (lv_at hl 1 rfl) ?_
    refine y_iald h F hP k_77 (n2 (hP.al 77 rfl)) dX12_aboutOf_68 (fun v_68 h => ?_)
    exact y_iretO h F hr hP hS hlk dX12_aboutOf_69
  have h := if_f _ hc1 h
  by_cases hc2 : a2 = 2
  · have h := if_t _ hc2 h
    refine lv_tableIn (off := 69) (tgt := 70) hx hb dX12_aboutOf_1 (by rw [hc2]; decide) (by rw [hc2]; decide) (by rw [hc2]; rfl) (by decide) ?_
    refine lv_aload_n hx hb dX12_aboutOf_70 rfl (lv_at hl 0 rfl) ?_
    refine x_getr F hP k_63 (hP.al 63 rfl) fl_X12_53 rfl r_63_19 dX12_aboutOf_71 ?_
    refine lv_iload_n hx hb dX12_aboutOf_74 rfl (lv_at hl 1 rfl) ?_
    refine y_iald h F hP k_78 (n2 (hP.al 78 rfl)) dX12_aboutOf_75 (fun v_75 h => ?_)
    exact y_iretO h F hr hP hS hlk dX12_aboutOf_76
  have h := if_f _ hc2 h
  by_cases hc3 : a2 = 3
  · have h := if_t _ hc3 h
    refine lv_tableIn (off := 76) (tgt := 77) hx hb dX12_aboutOf_1 (by rw [hc3]; decide) (by rw [hc3]; decide) (by rw [hc3]; rfl) (by decide) ?_
    refine lv_aload_n hx hb dX12_aboutOf_77 rfl (lv_at hl 0 rfl) ?_
    refine x_getr F hP k_63 (hP.al 63 rfl) fl_X12_56 rfl r_63_20 dX12_aboutOf_78 ?_
    refine lv_iload_n hx hb dX12_aboutOf_81 rfl (lv_at hl 1 rfl) ?_
    refine y_iald h F hP k_79 (n2 (hP.al 79 rfl)) dX12_aboutOf_82 (fun v_82 h => ?_)
    exact y_iretO h F hr hP hS hlk dX12_aboutOf_83
  have h := if_f _ hc3 h
  by_cases hc4 : a2 = 4
  · have h := if_t _ hc4 h
    refine lv_tableIn (off := 83) (tgt := 84) hx hb dX12_aboutOf_1 (by rw [hc4]; decide) (by rw [hc4]; decide) (by rw [hc4]; rfl) (by decide) ?_
    refine lv_aload_n hx hb dX12_aboutOf_84 rfl (lv_at hl 0 rfl) ?_
    refine x_getr F hP k_63 (hP.al 63 rfl) fl_X12_59 rfl r_63_21 dX12_aboutOf_85 ?_
    refine lv_iload_n hx hb dX12_aboutOf_88 rfl (lv_at hl 1 rfl) ?_
    refine y_iald h F hP k_80 (n2 (hP.al 80 rfl)) dX12_aboutOf_89 (fun v_89 h => ?_)
    exact y_iretO h F hr hP hS hlk dX12_aboutOf_90
  have h := if_f _ hc4 h
  by_cases hc5 : a2 = 5
  · have h := if_t _ hc5 h
    refine lv_tableIn (off := 90) (tgt := 91) hx hb dX12_aboutOf_1 (by rw [hc5]; decide) (by rw [hc5]; decide) (by rw [hc5]; rfl) (by decide) ?_
    refine lv_aload_n hx hb dX12_aboutOf_91 rfl (lv_at hl 0 rfl) ?_
    refine x_getr F hP k_63 (hP.al 63 rfl) fl_X12_71 rfl r_63_25 dX12_aboutOf_92 ?_
    refine lv_iload_n hx hb dX12_aboutOf_95 rfl (lv_at hl 1 rfl) ?_
    refine y_zald h F hP k_84 (n2 (hP.al 84 rfl)) dX12_aboutOf_96 (fun v_96 h => ?_)
    refine lv_if_eq (tgt := 109) hx hb dX12_aboutOf_97 (by decide) (fun hc => ?_) (fun hc => ?_)
    · have h := if_t _ hc h
      refine lv_ldcw F.1 F.2.1 F.2.2.1 (F.2.2.2.1 _ ct_X12_329) dX12_aboutOf_109 ?_
      exact y_iretO h F hr hP hS hlk dX12_aboutOf_112
    · have h := if_f _ hc h
      refine lv_aload_n hx hb dX12_aboutOf_100 rfl (lv_at hl 0 rfl) ?_
      refine x_getr F hP k_63 (hP.al 63 rfl) fl_X12_74 rfl r_63_26 dX12_aboutOf_101 ?_
      refine lv_iload_n hx hb dX12_aboutOf_104 rfl (lv_at hl 1 rfl) ?_
      refine y_iald h F hP k_85 (n2 (hP.al 85 rfl)) dX12_aboutOf_105 (fun v_105 h => ?_)
      refine lv_goto (tgt := 112) hx hb dX12_aboutOf_106 (by decide) ?_
      exact y_iretO h F hr hP hS hlk dX12_aboutOf_112
  have h := if_f _ hc5 h
  by_cases hc6 : a2 = 6
  · have h := if_t _ hc6 h
    refine lv_tableIn (off := 112) (tgt := 113) hx hb dX12_aboutOf_1 (by rw [hc6]; decide) (by rw [hc6]; decide) (by rw [hc6]; rfl) (by decide) ?_
    refine lv_aload_n hx hb dX12_aboutOf_113 rfl (lv_at hl 0 rfl) ?_
    refine x_getr F hP k_63 (hP.al 63 rfl) fl_X12_71 rfl r_63_25 dX12_aboutOf_114 ?_
    refine lv_iload_n hx hb dX12_aboutOf_117 rfl (lv_at hl 1 rfl) ?_
    refine y_zald h F hP k_84 (n2 (hP.al 84 rfl)) dX12_aboutOf_118 (fun v_118 h => ?_)
    refine lv_if_eq (tgt := 131) hx hb dX12_aboutOf_119 (by decide) (fun hc => ?_) (fun hc => ?_)
    · have h := if_t _ hc h
      refine lv_ldcw F.1 F.2.1 F.2.2.1 (F.2.2.2.1 _ ct_X12_329) dX12_aboutOf_131 ?_
      exact y_iretO h F hr hP hS hlk dX12_aboutOf_134
    · have h := if_f _ hc h
      refine lv_aload_n hx hb dX12_aboutOf_122 rfl (lv_at hl 0 rfl) ?_
      refine x_getr F hP k_63 (hP.al 63 rfl) fl_X12_77 rfl r_63_27 dX12_aboutOf_123 ?_
      refine lv_iload_n hx hb dX12_aboutOf_126 rfl (lv_at hl 1 rfl) ?_
      refine y_iald h F hP k_86 (n2 (hP.al 86 rfl)) dX12_aboutOf_127 (fun v_127 h => ?_)
      refine lv_goto (tgt := 134) hx hb dX12_aboutOf_128 (by decide) ?_
      exact y_iretO h F hr hP hS hlk dX12_aboutOf_134
  have h := if_f _ hc6 h
  by_cases hc7 : a2 = 7
  · have h := if_t _ hc7 h
    refine lv_tableIn (off := 134) (tgt := 135) hx hb dX12_aboutOf_1 (by rw [hc7]; decide) (by rw [hc7]; decide) (by rw [hc7]; rfl) (by decide) ?_
    refine lv_aload_n hx hb dX12_aboutOf_135 rfl (lv_at hl 0 rfl) ?_
    refine x_getr F hP k_63 (hP.al 63 rfl) fl_X12_71 rfl r_63_25 dX12_aboutOf_136 ?_
    refine lv_iload_n hx hb dX12_aboutOf_139 rfl (lv_at hl 1 rfl) ?_
    refine y_zald h F hP k_84 (n2 (hP.al 84 rfl)) dX12_aboutOf_140 (fun v_140 h => ?_)
    refine lv_if_eq (tgt := 153) hx hb dX12_aboutOf_141 (by decide) (fun hc => ?_) (fun hc => ?_)
    · have h := if_t _ hc h
      refine lv_ldcw F.1 F.2.1 F.2.2.1 (F.2.2.2.1 _ ct_X12_329) dX12_aboutOf_153 ?_
      exact y_iretO h F hr hP hS hlk dX12_aboutOf_156
    · have h := if_f _ hc h
      refine lv_aload_n hx hb dX12_aboutOf_144 rfl (lv_at hl 0 rfl) ?_
      refine x_getr F hP k_63 (hP.al 63 rfl) fl_X12_80 rfl r_63_28 dX12_aboutOf_145 ?_
      refine lv_iload_n hx hb dX12_aboutOf_148 rfl (lv_at hl 1 rfl) ?_
      refine y_iald h F hP k_87 (n2 (hP.al 87 rfl)) dX12_aboutOf_149 (fun v_149 h => ?_)
      refine lv_goto (tgt := 156) hx hb dX12_aboutOf_150 (by decide) ?_
      exact y_iretO h F hr hP hS hlk dX12_aboutOf_156
  have h := if_f _ hc7 h
  by_cases hc8 : a2 = 8
  · have h := if_t _ hc8 h
    refine lv_tableIn (off := 156) (tgt := 157) hx hb dX12_aboutOf_1 (by rw [hc8]; decide) (by rw [hc8]; decide) (by rw [hc8]; rfl) (by decide) ?_
    refine lv_aload_n hx hb dX12_aboutOf_157 rfl (lv_at hl 0 rfl) ?_
    refine x_getr F hP k_63 (hP.al 63 rfl) fl_X12_83 rfl r_63_29 dX12_aboutOf_158 ?_
    refine lv_iload_n hx hb dX12_aboutOf_161 rfl (lv_at hl 1 rfl) ?_
    refine y_iald h F hP k_88 (n2 (hP.al 88 rfl)) dX12_aboutOf_162 (fun v_162 h => ?_)
    exact y_iretO h F hr hP hS hlk dX12_aboutOf_163
  have h := if_f _ hc8 h
  by_cases hc9 : a2 = 9
  · have h := if_t _ hc9 h
    refine lv_tableIn (off := 163) (tgt := 164) hx hb dX12_aboutOf_1 (by rw [hc9]; decide) (by rw [hc9]; decide) (by rw [hc9]; rfl) (by decide) ?_
    refine lv_aload_n hx hb dX12_aboutOf_164 rfl (lv_at hl 0 rfl) ?_
    refine x_getr F hP k_63 (hP.al 63 rfl) fl_X12_71 rfl r_63_25 dX12_aboutOf_165 ?_
    refine lv_iload_n hx hb dX12_aboutOf_168 rfl (lv_at hl 1 rfl) ?_
    refine y_zald h F hP k_84 (n2 (hP.al 84 rfl)) dX12_aboutOf_169 (fun v_169 h => ?_)
    refine lv_if_eq (tgt := 177) hx hb dX12_aboutOf_170 (by decide) (fun hc => ?_) (fun hc => ?_)
    · have h := if_t _ hc h
      refine lv_iconst (v := 0) hx hb dX12_aboutOf_177 ic_0 ?_
      exact y_iretO h F hr hP hS hlk dX12_aboutOf_178
    · have h := if_f _ hc h
      refine lv_iconst (v := 1) hx hb dX12_aboutOf_173 ic_1 ?_
      refine lv_goto (tgt := 178) hx hb dX12_aboutOf_174 (by decide) ?_
      exact y_iretO h F hr hP hS hlk dX12_aboutOf_178
  have h := if_f _ hc9 h
  refine lv_tableOut (tgt := 179) hx hb dX12_aboutOf_1 (tab_out [(0 : Int32), (1 : Int32), (2 : Int32), (3 : Int32), (4 : Int32), (5 : Int32), (6 : Int32), (7 : Int32), (8 : Int32), (9 : Int32)] (by decide) (by simp [hc0, hc1, hc2, hc3, hc4, hc5, hc6, hc7, hc8, hc9])) (by decide) ?_
  refine lv_ldcw F.1 F.2.1 F.2.2.1 (F.2.2.2.1 _ ct_X12_329) dX12_aboutOf_179 ?_
  exact y_iretO h F hr hP hS hlk dX12_aboutOf_182
def f_X12_about (w : Wd) (a1 : Int32) (a2 : Int32) : Option Int32 :=
if (f_X12_isCar w a1) = 0 then
some (-2147483648 : Int32)
else
q_bo (f_X12_aboutOf w a1 a2) (fun v_11 =>
some v_11)
set_option maxRecDepth 100000 in
set_option maxHeartbeats 4000000 in
theorem c_X12_about (l : Launch) (D : va_G) (cT : Nat → ClassId) (lo : Nat) (w : Wd) (ad : Nat → Nat) (a1 : Int32) (a2 : Int32) (r : Int32) (h : f_X12_about w a1 a2 = some r) : Met l yX12_about (.code yX12_about cX12_about 3 (some .int) :: TW) { frames := 2, cells := 0, slots := 0, locals := 43 } (mPc D cT lo NB w ad [.ref (ad 63), .int a1, .int a2]) (mQ D cT lo NB w w ad (some (.int r))) 0 0 (fun q => lo ≤ q) := by
  unfold f_X12_about at h
  refine x_met (lv := [(0, .ref (ad 63)), (1, .int a1), (2, .int a2)]) (by decide +kernel) (Nat.le_of_ble_eq_true rfl) rfl ?_
  intro p e s m args below meth c ls F hr hlk hP hin hl
  have hx := F.1
  have hb := F.2.1
  have hS : va_S (fun q => lo ≤ q) s.heap s.heap [] := va_S.rf
  refine lv_aload_n hx hb dX12_about_0 rfl (lv_at hl 0 rfl) ?_
  refine lv_iload_n hx hb dX12_about_1 rfl (lv_at hl 1 rfl) ?_
  refine x_goesZ (x_runV (As := [.int a1]) (rest := []) F hP hS (c_X12_isCar l D cT lo w ad a1) cw_X12_isCar lk_X12_257 vi_X12_isCar k_63 (n2 (hP.al 63 rfl)) rfl ⟨rfl, rfl, Nat.le_of_ble_eq_true rfl, Nat.le_of_ble_eq_true rfl⟩ hl.1 rfl (Nat.le_of_ble_eq_true rfl) dX12_about_2 ⟨Nat.zero_le _, Nat.zero_le _⟩) hS (fun H locs hz_2 hP hS _ => ?_)
  refine lv_if_eq (tgt := 17) hx hb dX12_about_5 (by decide) (fun hc => ?_) (fun hc => ?_)
  · have h := if_t _ hc h
    refine lv_ldcw F.1 F.2.1 F.2.2.1 (F.2.2.2.1 _ ct_X12_329) dX12_about_17 ?_
    exact y_iretO h F hr hP hS hlk dX12_about_20
  · have h := if_f _ hc h
    refine lv_aload_n hx hb dX12_about_8 rfl (lv_at hl 0 rfl) ?_
    refine lv_iload_n hx hb dX12_about_9 rfl (lv_at hl 1 rfl) ?_
    refine lv_iload_n hx hb dX12_about_10 rfl (lv_at hl 2 rfl) ?_
    obtain ⟨v_11, hc_11, h⟩ := bo_s h
    refine x_goes (x_runV (As := [.int a1, .int a2]) (rest := []) F hP hS (c_X12_aboutOf l D cT lo w ad a1 a2 v_11 hc_11) cw_X12_aboutOf lk_X12_330 vi_X12_aboutOf k_63 (n2 (hP.al 63 rfl)) rfl ⟨rfl, rfl, Nat.le_of_ble_eq_true rfl, Nat.le_of_ble_eq_true rfl⟩ hl.1 rfl (Nat.le_of_ble_eq_true rfl) dX12_about_11 ⟨Nat.zero_le _, Nat.zero_le _⟩) hS (fun H locs hP hS _ => ?_)
    refine lv_goto (tgt := 20) hx hb dX12_about_14 (by decide) ?_
    exact y_iretO h F hr hP hS hlk dX12_about_20
def f_X12_wheel (w : Wd) (a1 : Int32) (a2 : Int32) (a3 : Int32) : Option Int32 :=
q_jn (some (-2147483648 : Int32)) (fun j_35 =>
if (f_X12_isCar w a1) = 0 then
j_35
else
if (f_X12_in a2 (0 : Int32) (3 : Int32)) = 0 then
j_35
else
if (f_X12_in a3 (0 : Int32) (1 : Int32)) = 0 then
j_35
else
q_ld w 84 4 a1 (fun v_31 =>
if v_31 = 0 then
j_35
else
if a3 = 0 then
q_ld w 85 4 a1 (fun v_51 =>
q_ld w 87 4 a1 (fun v_57 =>
q_bo (f_X12_wheelX w a1 a2 v_51 v_57) (fun v_58 =>
some v_58)))
else
q_ld w 86 4 a1 (fun v_72 =>
q_ld w 87 4 a1 (fun v_78 =>
q_bo (f_X12_wheelY w a1 a2 v_72 v_78) (fun v_79 =>
some v_79)))))
set_option maxRecDepth 100000 in
set_option maxHeartbeats 4000000 in
theorem c_X12_wheel (l : Launch) (D : va_G) (cT : Nat → ClassId) (lo : Nat) (w : Wd) (ad : Nat → Nat) (a1 : Int32) (a2 : Int32) (a3 : Int32) (r : Int32) (h : f_X12_wheel w a1 a2 a3 = some r) : Met l yX12_wheel (.code yX12_wheel cX12_wheel 4 (some .int) :: TW) { frames := 4, cells := 0, slots := 0, locals := 86 } (mPc D cT lo NB w ad [.ref (ad 63), .int a1, .int a2, .int a3]) (mQ D cT lo NB w w ad (some (.int r))) 0 0 (fun q => lo ≤ q) := by
  unfold f_X12_wheel at h
  refine x_met (lv := [(0, .ref (ad 63)), (1, .int a1), (2, .int a2), (3, .int a3)]) (by decide +kernel) (Nat.le_of_ble_eq_true rfl) rfl ?_
  intro p e s m args below meth c ls F hr hlk hP hin hl
  have hx := F.1
  have hb := F.2.1
  have hS : va_S (fun q => lo ≤ q) s.heap s.heap [] := va_S.rf
  refine lv_aload_n hx hb dX12_wheel_0 rfl (lv_at hl 0 rfl) ?_
  refine lv_iload_n hx hb dX12_wheel_1 rfl (lv_at hl 1 rfl) ?_
  refine x_goesZ (x_runV (As := [.int a1]) (rest := []) F hP hS (c_X12_isCar l D cT lo w ad a1) cw_X12_isCar lk_X12_257 vi_X12_isCar k_63 (n2 (hP.al 63 rfl)) rfl ⟨rfl, rfl, Nat.le_of_ble_eq_true rfl, Nat.le_of_ble_eq_true rfl⟩ hl.1 rfl (Nat.le_of_ble_eq_true rfl) dX12_wheel_2 ⟨Nat.zero_le _, Nat.zero_le _⟩) hS (fun H locs hz_2 hP hS _ => ?_)
  refine jn_use (fun (j_35 : Option Int32) => j_35 = some r → GG p l e { frames := 4, cells := 0, slots := 0, locals := 86 } s m args below meth c 0 0 (MQ below (mQ D cT lo NB w w ad (some (.int r))) args s 0 0 (fun q => lo ≤ q)) D cT lo NB 4 ad w 35 [] []) h (fun h H locs ls hP hS hl => ?_) (fun j_35 J_35 h => ?_)
  · refine lv_ldcw F.1 F.2.1 F.2.2.1 (F.2.2.2.1 _ ct_X12_329) dX12_wheel_35 ?_
    exact y_iretO h F hr hP hS hlk dX12_wheel_38
  · refine lv_if_eq (tgt := 35) hx hb dX12_wheel_5 (by decide) (fun hc => ?_) (fun hc => ?_)
    · have h := if_t _ hc h
      exact J_35  h _ _ _ hP hS (lv_sub hl [] rfl)
    · have h := if_f _ hc h
      refine lv_iload_n hx hb dX12_wheel_8 rfl (lv_at hl 2 rfl) ?_
      refine lv_iconst (v := 0) hx hb dX12_wheel_9 ic_0 ?_
      refine lv_iconst (v := 3) hx hb dX12_wheel_10 ic_3 ?_
      refine x_goesZ (x_runS (As := [.int a2, .int (0 : Int32), .int (3 : Int32)]) (rest := []) F hP hS (c_X12_in l D cT lo NB w ad a2 (0 : Int32) (3 : Int32)) cw_X12_in lk_X12_217 st_X12_in ⟨rfl, rfl, Nat.le_of_ble_eq_true rfl, Nat.le_of_ble_eq_true rfl⟩ hl.1 rfl (Nat.le_of_ble_eq_true rfl) dX12_wheel_11 ⟨Nat.zero_le _, Nat.zero_le _⟩) hS (fun H locs hz_11 hP hS _ => ?_)
      refine lv_if_eq (tgt := 35) hx hb dX12_wheel_14 (by decide) (fun hc => ?_) (fun hc => ?_)
      · have h := if_t _ hc h
        exact J_35  h _ _ _ hP hS (lv_sub hl [] rfl)
      · have h := if_f _ hc h
        refine lv_iload_n hx hb dX12_wheel_17 rfl (lv_at hl 3 rfl) ?_
        refine lv_iconst (v := 0) hx hb dX12_wheel_18 ic_0 ?_
        refine lv_iconst (v := 1) hx hb dX12_wheel_19 ic_1 ?_
        refine x_goesZ (x_runS (As := [.int a3, .int (0 : Int32), .int (1 : Int32)]) (rest := []) F hP hS (c_X12_in l D cT lo NB w ad a3 (0 : Int32) (1 : Int32)) cw_X12_in lk_X12_217 st_X12_in ⟨rfl, rfl, Nat.le_of_ble_eq_true rfl, Nat.le_of_ble_eq_true rfl⟩ hl.1 rfl (Nat.le_of_ble_eq_true rfl) dX12_wheel_20 ⟨Nat.zero_le _, Nat.zero_le _⟩) hS (fun H locs hz_20 hP hS _ => ?_)
        refine lv_if_eq (tgt := 35) hx hb dX12_wheel_23 (by decide) (fun hc => ?_) (fun hc => ?_)
        · have h := if_t _ hc h
          exact J_35  h _ _ _ hP hS (lv_sub hl [] rfl)
        · have h := if_f _ hc h
          refine lv_aload_n hx hb dX12_wheel_26 rfl (lv_at hl 0 rfl) ?_
          refine x_getr F hP k_63 (hP.al 63 rfl) fl_X12_71 rfl r_63_25 dX12_wheel_27 ?_
          refine lv_iload_n hx hb dX12_wheel_30 rfl (lv_at hl 1 rfl) ?_
          refine y_zald h F hP k_84 (n2 (hP.al 84 rfl)) dX12_wheel_31 (fun v_31 h => ?_)
          refine lv_if_ne (tgt := 39) hx hb dX12_wheel_32 (by decide) (fun hc => ?_) (fun hc => ?_)
          · have h := if_f _ hc h
            refine lv_iload_n hx hb dX12_wheel_39 rfl (lv_at hl 3 rfl) ?_
            refine lv_if_ne (tgt := 64) hx hb dX12_wheel_40 (by decide) (fun hc => ?_) (fun hc => ?_)
            · have h := if_f _ hc h
              refine lv_aload_n hx hb dX12_wheel_64 rfl (lv_at hl 0 rfl) ?_
              refine lv_iload_n hx hb dX12_wheel_65 rfl (lv_at hl 1 rfl) ?_
              refine lv_iload_n hx hb dX12_wheel_66 rfl (lv_at hl 2 rfl) ?_
              refine lv_aload_n hx hb dX12_wheel_67 rfl (lv_at hl 0 rfl) ?_
              refine x_getr F hP k_63 (hP.al 63 rfl) fl_X12_77 rfl r_63_27 dX12_wheel_68 ?_
              refine lv_iload_n hx hb dX12_wheel_71 rfl (lv_at hl 1 rfl) ?_
              refine y_iald h F hP k_86 (n2 (hP.al 86 rfl)) dX12_wheel_72 (fun v_72 h => ?_)
              refine lv_aload_n hx hb dX12_wheel_73 rfl (lv_at hl 0 rfl) ?_
              refine x_getr F hP k_63 (hP.al 63 rfl) fl_X12_80 rfl r_63_28 dX12_wheel_74 ?_
              refine lv_iload_n hx hb dX12_wheel_77 rfl (lv_at hl 1 rfl) ?_
              refine y_iald h F hP k_87 (n2 (hP.al 87 rfl)) dX12_wheel_78 (fun v_78 h => ?_)
              obtain ⟨v_79, hc_79, h⟩ := bo_s h
              refine x_goes (x_runV (As := [.int a1, .int a2, .int v_72, .int v_78]) (rest := []) F hP hS (c_X12_wheelY l D cT lo w ad a1 a2 v_72 v_78 v_79 hc_79) cw_X12_wheelY lk_X12_303 vi_X12_wheelY k_63 (n2 (hP.al 63 rfl)) rfl ⟨rfl, rfl, Nat.le_of_ble_eq_true rfl, Nat.le_of_ble_eq_true rfl⟩ hl.1 rfl (Nat.le_of_ble_eq_true rfl) dX12_wheel_79 ⟨Nat.zero_le _, Nat.zero_le _⟩) hS (fun H locs hP hS _ => ?_)
              exact y_iretO h F hr hP hS hlk dX12_wheel_82
            · have h := if_t _ hc h
              refine lv_aload_n hx hb dX12_wheel_43 rfl (lv_at hl 0 rfl) ?_
              refine lv_iload_n hx hb dX12_wheel_44 rfl (lv_at hl 1 rfl) ?_
              refine lv_iload_n hx hb dX12_wheel_45 rfl (lv_at hl 2 rfl) ?_
              refine lv_aload_n hx hb dX12_wheel_46 rfl (lv_at hl 0 rfl) ?_
              refine x_getr F hP k_63 (hP.al 63 rfl) fl_X12_74 rfl r_63_26 dX12_wheel_47 ?_
              refine lv_iload_n hx hb dX12_wheel_50 rfl (lv_at hl 1 rfl) ?_
              refine y_iald h F hP k_85 (n2 (hP.al 85 rfl)) dX12_wheel_51 (fun v_51 h => ?_)
              refine lv_aload_n hx hb dX12_wheel_52 rfl (lv_at hl 0 rfl) ?_
              refine x_getr F hP k_63 (hP.al 63 rfl) fl_X12_80 rfl r_63_28 dX12_wheel_53 ?_
              refine lv_iload_n hx hb dX12_wheel_56 rfl (lv_at hl 1 rfl) ?_
              refine y_iald h F hP k_87 (n2 (hP.al 87 rfl)) dX12_wheel_57 (fun v_57 h => ?_)
              obtain ⟨v_58, hc_58, h⟩ := bo_s h
              refine x_goes (x_runV (As := [.int a1, .int a2, .int v_51, .int v_57]) (rest := []) F hP hS (c_X12_wheelX l D cT lo w ad a1 a2 v_51 v_57 v_58 hc_58) cw_X12_wheelX lk_X12_299 vi_X12_wheelX k_63 (n2 (hP.al 63 rfl)) rfl ⟨rfl, rfl, Nat.le_of_ble_eq_true rfl, Nat.le_of_ble_eq_true rfl⟩ hl.1 rfl (Nat.le_of_ble_eq_true rfl) dX12_wheel_58 ⟨Nat.zero_le _, Nat.zero_le _⟩) hS (fun H locs hP hS _ => ?_)
              refine lv_goto (tgt := 82) hx hb dX12_wheel_61 (by decide) ?_
              exact y_iretO h F hr hP hS hlk dX12_wheel_82
          · have h := if_t _ hc h
            exact J_35  h _ _ _ hP hS (lv_sub hl [] rfl)
def f_X12_feet (w : Wd) (a1 : Int32) : Option (Int32 × Wd) :=
if (f_X12_in a1 (1 : Int32) (20 : Int32)) = 0 then
some ((-2 : Int32), w)
else
q_gt w 63 30 (fun v_14 =>
q_pt w 63 30 a1 (fun w_20 =>
some (v_14, w_20)))
set_option maxRecDepth 100000 in
set_option maxHeartbeats 4000000 in
theorem c_X12_feet (l : Launch) (D : va_G) (cT : Nat → ClassId) (lo : Nat) (w : Wd) (ad : Nat → Nat) (a1 : Int32) (r : Int32) (w9 : Wd) (h : f_X12_feet w a1 = some (r, w9)) : Met l yX12_feet (.code yX12_feet cX12_feet 3 (some .int) :: TW) { frames := 1, cells := 0, slots := 0, locals := 22 } (mPc D cT lo NB w ad [.ref (ad 63), .int a1]) (mQ D cT lo NB w w9 ad (some (.int r))) 0 0 (fun q => lo ≤ q) := by
  unfold f_X12_feet at h
  refine x_met (lv := [(0, .ref (ad 63)), (1, .int a1)]) (by decide +kernel) (Nat.le_of_ble_eq_true rfl) rfl ?_
  intro p e s m args below meth c ls F hr hlk hP hin hl
  have hx := F.1
  have hb := F.2.1
  have hS : va_S (fun q => lo ≤ q) s.heap s.heap [] := va_S.rf
  have hM_w : mono w w := mono.refl
  refine lv_iload_n hx hb dX12_feet_0 rfl (lv_at hl 1 rfl) ?_
  refine lv_iconst (v := 1) hx hb dX12_feet_1 ic_1 ?_
  refine lv_bipush (v := 20) hx hb dX12_feet_2 ib_20 ?_
  refine x_goesZ (x_runS (As := [.int a1, .int (1 : Int32), .int (20 : Int32)]) (rest := []) F hP hS (c_X12_in l D cT lo NB w ad a1 (1 : Int32) (20 : Int32)) cw_X12_in lk_X12_217 st_X12_in ⟨rfl, rfl, Nat.le_of_ble_eq_true rfl, Nat.le_of_ble_eq_true rfl⟩ hl.1 rfl (Nat.le_of_ble_eq_true rfl) dX12_feet_4 ⟨Nat.zero_le _, Nat.zero_le _⟩) hS (fun H locs hz_4 hP hS _ => ?_)
  refine lv_if_ne (tgt := 13) hx hb dX12_feet_7 (by decide) (fun hc => ?_) (fun hc => ?_)
  · have h := if_f _ hc h
    refine lv_aload_n hx hb dX12_feet_13 rfl (lv_at hl 0 rfl) ?_
    refine y_geti h F hP k_63 (n2 (hP.al 63 rfl)) fl_X12_86 rfl dX12_feet_14 (fun v_14 h => ?_)
    refine lv_istore_n (lv' := [(2, .int v_14), (0, .ref (ad 63)), (1, .int a1)]) hx hb dX12_feet_17 rfl hl (Nat.le_of_ble_eq_true rfl) rfl (fun ls hl => ?_)
    refine lv_aload_n hx hb dX12_feet_18 rfl (lv_at hl 1 rfl) ?_
    refine lv_iload_n hx hb dX12_feet_19 rfl (lv_at hl 2 rfl) ?_
    refine y_puti h F hP hS k_63 (n2 (hP.al 63 rfl)) fl_X12_86 rfl dX12_feet_20 (fun w_20 H locs hm h hP hS => ?_)
    have hM_w := hm
    refine lv_iload_n hx hb dX12_feet_23 rfl (lv_at hl 0 rfl) ?_
    exact y_iretM h F hr hP hS hM_w hlk dX12_feet_24
  · have h := if_t _ hc h
    refine lv_bipush (v := -2) hx hb dX12_feet_10 ib_m2 ?_
    exact y_iretM h F hr hP hS mono.refl hlk dX12_feet_12
def f_X12_goes (w : Wd) (a1 : Int32) (a2 : Int32) (a3 : Int32) (a4 : Int32) (a5 : Int32) : Option Wd :=
q_pt w 63 31 a2 (fun w_2 =>
q_pt w_2 63 32 a3 (fun w_7 =>
q_pt w_7 63 33 a4 (fun w_13 =>
if (2 : Int32) ≤ a5 then
if (10 : Int32) ≤ a5 then
some w_13
else
q_lt ((a5 - (2 : Int32)) - (a5 - (2 : Int32)) / (4 : Int32) * (4 : Int32)) (fun v_85 =>
q_bo (f_X12_wheelX w_13 a1 v_85 a2 a4) (fun v_94 =>
q_bo (f_X12_wheelY w_13 a1 v_85 a3 a4) (fun v_106 =>
q_jn (fun (s0_127 : Int32) =>
q_pt w_13 63 33 ((a4 + s0_127) - (a4 + s0_127) / (36 : Int32) * (36 : Int32)) (fun w_131 =>
q_gt w_131 63 33 (fun v_143 =>
q_bo (f_X12_wheelX w_131 a1 v_85 (0 : Int32) v_143) (fun v_146 =>
q_pt w_131 63 31 (v_94 - v_146) (fun w_150 =>
q_gt w_150 63 33 (fun v_162 =>
q_bo (f_X12_wheelY w_150 a1 v_85 (0 : Int32) v_162) (fun v_165 =>
q_pt w_150 63 32 (v_106 - v_165) (fun w_169 =>
some w_169)))))))) (fun j_127 =>
if (6 : Int32) ≤ a5 then
j_127 (35 : Int32)
else
j_127 (1 : Int32)))))
else
q_jn (fun (s0_39 : Int32) =>
q_pt w_13 63 31 (a2 + (s0_39 * (f_X12_along a4))) (fun w_52 =>
q_pt w_52 63 32 (a3 + (s0_39 * (f_X12_across a4))) (fun w_66 =>
some w_66))) (fun j_39 =>
if a5 = 0 then
q_gt w_13 63 30 (fun v_28 =>
j_39 v_28)
else
q_gt w_13 63 30 (fun v_35 =>
j_39 (-v_35))))))
set_option maxRecDepth 100000 in
set_option maxHeartbeats 4000000 in
theorem c_X12_goes (l : Launch) (D : va_G) (cT : Nat → ClassId) (lo : Nat) (w : Wd) (ad : Nat → Nat) (a1 : Int32) (a2 : Int32) (a3 : Int32) (a4 : Int32) (a5 : Int32) (w9 : Wd) (h : f_X12_goes w a1 a2 a3 a4 a5 = some w9) : Met l yX12_goes (.code yX12_goes cX12_goes 9 none :: TW) { frames := 4, cells := 0, slots := 0, locals := 86 } (mPc D cT lo NB w ad [.ref (ad 63), .int a1, .int a2, .int a3, .int a4, .int a5]) (mQ D cT lo NB w w9 ad none) 0 0 (fun q => lo ≤ q) := by
  unfold f_X12_goes at h
  refine x_met (lv := [(0, .ref (ad 63)), (1, .int a1), (2, .int a2), (3, .int a3), (4, .int a4), (5, .int a5)]) (by decide +kernel) (Nat.le_of_ble_eq_true rfl) rfl ?_
  intro p e s m args below meth c ls F hr hlk hP hin hl
  have hx := F.1
  have hb := F.2.1
  have hS : va_S (fun q => lo ≤ q) s.heap s.heap [] := va_S.rf
  have hM_w : mono w w := mono.refl
  refine lv_aload_n hx hb dX12_goes_0 rfl (lv_at hl 0 rfl) ?_
  refine lv_iload_n hx hb dX12_goes_1 rfl (lv_at hl 2 rfl) ?_
  refine y_puti h F hP hS k_63 (n2 (hP.al 63 rfl)) fl_X12_270 rfl dX12_goes_2 (fun w_2 H locs hm h hP hS => ?_)
  have hM_w := hm
  refine lv_aload_n hx hb dX12_goes_5 rfl (lv_at hl 0 rfl) ?_
  refine lv_iload_n hx hb dX12_goes_6 rfl (lv_at hl 3 rfl) ?_
  refine y_puti h F hP hS k_63 (n2 (hP.al 63 rfl)) fl_X12_273 rfl dX12_goes_7 (fun w_7 H locs hm h hP hS => ?_)
  have hM_w := hM_w.trans hm
  refine lv_aload_n hx hb dX12_goes_10 rfl (lv_at hl 0 rfl) ?_
  refine lv_iload hx hb dX12_goes_11 (lv_at hl 4 rfl) ?_
  refine y_puti h F hP hS k_63 (n2 (hP.al 63 rfl)) fl_X12_276 rfl dX12_goes_13 (fun w_13 H locs hm h hP hS => ?_)
  have hM_w := hM_w.trans hm
  refine lv_iload hx hb dX12_goes_16 (lv_at hl 5 rfl) ?_
  refine lv_iconst (v := 2) hx hb dX12_goes_18 ic_2 ?_
  refine lv_icmp_ge (tgt := 72) hx hb dX12_goes_19 (by decide) (fun hc => ?_) (fun hc => ?_)
  · have h := if_t _ hc h
    refine lv_iload hx hb dX12_goes_72 (lv_at hl 5 rfl) ?_
    refine lv_bipush (v := 10) hx hb dX12_goes_74 ib_10 ?_
    refine lv_icmp_ge (tgt := 172) hx hb dX12_goes_76 (by decide) (fun hc => ?_) (fun hc => ?_)
    · have h := if_t _ hc h
      exact y_vret h F hr hP hS hM_w hlk dX12_goes_172
    · have h := if_f _ hc h
      refine lv_iload hx hb dX12_goes_79 (lv_at hl 5 rfl) ?_
      refine lv_iconst (v := 2) hx hb dX12_goes_81 ic_2 ?_
      refine lv_isub hx hb dX12_goes_82 ?_
      refine lv_iconst (v := 4) hx hb dX12_goes_83 ic_4 ?_
      refine lv_irem hx hb dX12_goes_84 (by decide) ?_
      refine y_let h (fun v_85 h => ?_)
      refine lv_istore (lv' := [(6, .int v_85), (0, .ref (ad 63)), (1, .int a1), (2, .int a2), (3, .int a3), (4, .int a4), (5, .int a5)]) hx hb dX12_goes_85 hl (Nat.le_of_ble_eq_true rfl) rfl (fun ls hl => ?_)
      refine lv_aload_n hx hb dX12_goes_87 rfl (lv_at hl 1 rfl) ?_
      refine lv_iload_n hx hb dX12_goes_88 rfl (lv_at hl 2 rfl) ?_
      refine lv_iload hx hb dX12_goes_89 (lv_at hl 0 rfl) ?_
      refine lv_iload_n hx hb dX12_goes_91 rfl (lv_at hl 3 rfl) ?_
      refine lv_iload hx hb dX12_goes_92 (lv_at hl 5 rfl) ?_
      obtain ⟨v_94, hc_94, h⟩ := bo_s h
      refine x_goes (x_runV (As := [.int a1, .int v_85, .int a2, .int a4]) (rest := []) F hP hS (c_X12_wheelX l D cT lo w_13 ad a1 v_85 a2 a4 v_94 hc_94) cw_X12_wheelX lk_X12_299 vi_X12_wheelX k_63 (n2 (hP.al 63 rfl)) rfl ⟨rfl, rfl, Nat.le_of_ble_eq_true rfl, Nat.le_of_ble_eq_true rfl⟩ hl.1 rfl (Nat.le_of_ble_eq_true rfl) dX12_goes_94 ⟨Nat.zero_le _, Nat.zero_le _⟩) hS (fun H locs hP hS _ => ?_)
      refine lv_istore (lv' := [(7, .int v_94), (6, .int v_85), (0, .ref (ad 63)), (1, .int a1), (2, .int a2), (3, .int a3), (4, .int a4), (5, .int a5)]) hx hb dX12_goes_97 hl (Nat.le_of_ble_eq_true rfl) rfl (fun ls hl => ?_)
      refine lv_aload_n hx hb dX12_goes_99 rfl (lv_at hl 2 rfl) ?_
      refine lv_iload_n hx hb dX12_goes_100 rfl (lv_at hl 3 rfl) ?_
      refine lv_iload hx hb dX12_goes_101 (lv_at hl 1 rfl) ?_
      refine lv_iload_n hx hb dX12_goes_103 rfl (lv_at hl 5 rfl) ?_
      refine lv_iload hx hb dX12_goes_104 (lv_at hl 6 rfl) ?_
      obtain ⟨v_106, hc_106, h⟩ := bo_s h
      refine x_goes (x_runV (As := [.int a1, .int v_85, .int a3, .int a4]) (rest := []) F hP hS (c_X12_wheelY l D cT lo w_13 ad a1 v_85 a3 a4 v_106 hc_106) cw_X12_wheelY lk_X12_303 vi_X12_wheelY k_63 (n2 (hP.al 63 rfl)) rfl ⟨rfl, rfl, Nat.le_of_ble_eq_true rfl, Nat.le_of_ble_eq_true rfl⟩ hl.1 rfl (Nat.le_of_ble_eq_true rfl) dX12_goes_106 ⟨Nat.zero_le _, Nat.zero_le _⟩) hS (fun H locs hP hS _ => ?_)
      refine lv_istore (lv' := [(8, .int v_106), (7, .int v_94), (6, .int v_85), (0, .ref (ad 63)), (1, .int a1), (2, .int a2), (3, .int a3), (4, .int a4), (5, .int a5)]) hx hb dX12_goes_109 hl (Nat.le_of_ble_eq_true rfl) rfl (fun ls hl => ?_)
      refine lv_aload_n hx hb dX12_goes_111 rfl (lv_at hl 3 rfl) ?_
      refine lv_iload hx hb dX12_goes_112 (lv_at hl 7 rfl) ?_
      refine lv_iload hx hb dX12_goes_114 (lv_at hl 8 rfl) ?_
      refine lv_bipush (v := 6) hx hb dX12_goes_116 ib_6 ?_
      refine jn_use (fun (j_127 : Int32 → Option Wd) => ∀ (s0_127 : Int32), j_127 s0_127 = some w9 → GG p l e { frames := 4, cells := 0, slots := 0, locals := 86 } s m args below meth c 0 0 (MQ below (mQ D cT lo NB w w9 ad none) args s 0 0 (fun q => lo ≤ q)) D cT lo NB 9 ad w_13 127 [(8, .int v_106), (7, .int v_94), (6, .int v_85), (0, .ref (ad 63)), (1, .int a1)] [.int s0_127, .int a4, .ref (ad 63)]) h (fun s0_127 h H locs ls hP hS hl => ?_) (fun j_127 J_127 h => ?_)
      · refine lv_iadd hx hb dX12_goes_127 ?_
        refine lv_bipush (v := 36) hx hb dX12_goes_128 ib_36 ?_
        refine lv_irem hx hb dX12_goes_130 (by decide) ?_
        refine y_puti h F hP hS k_63 (n2 (hP.al 63 rfl)) fl_X12_276 rfl dX12_goes_131 (fun w_131 H locs hm h hP hS => ?_)
        have hM_w := hM_w.trans hm
        refine lv_aload_n hx hb dX12_goes_134 rfl (lv_at hl 3 rfl) ?_
        refine lv_iload hx hb dX12_goes_135 (lv_at hl 1 rfl) ?_
        refine lv_aload_n hx hb dX12_goes_137 rfl (lv_at hl 3 rfl) ?_
        refine lv_iload_n hx hb dX12_goes_138 rfl (lv_at hl 4 rfl) ?_
        refine lv_iload hx hb dX12_goes_139 (lv_at hl 2 rfl) ?_
        refine lv_iconst (v := 0) hx hb dX12_goes_141 ic_0 ?_
        refine lv_aload_n hx hb dX12_goes_142 rfl (lv_at hl 3 rfl) ?_
        refine y_geti h F hP k_63 (n2 (hP.al 63 rfl)) fl_X12_276 rfl dX12_goes_143 (fun v_143 h => ?_)
        obtain ⟨v_146, hc_146, h⟩ := bo_s h
        refine x_goes (x_runV (As := [.int a1, .int v_85, .int (0 : Int32), .int v_143]) (rest := [.int v_94, .ref (ad 63)]) F hP hS (c_X12_wheelX l D cT lo w_131 ad a1 v_85 (0 : Int32) v_143 v_146 hc_146) cw_X12_wheelX lk_X12_299 vi_X12_wheelX k_63 (n2 (hP.al 63 rfl)) rfl ⟨rfl, rfl, Nat.le_of_ble_eq_true rfl, Nat.le_of_ble_eq_true rfl⟩ hl.1 rfl (Nat.le_of_ble_eq_true rfl) dX12_goes_146 ⟨Nat.zero_le _, Nat.zero_le _⟩) hS (fun H locs hP hS _ => ?_)
        refine lv_isub hx hb dX12_goes_149 ?_
        refine y_puti h F hP hS k_63 (n2 (hP.al 63 rfl)) fl_X12_270 rfl dX12_goes_150 (fun w_150 H locs hm h hP hS => ?_)
        have hM_w := hM_w.trans hm
        refine lv_aload_n hx hb dX12_goes_153 rfl (lv_at hl 3 rfl) ?_
        refine lv_iload hx hb dX12_goes_154 (lv_at hl 0 rfl) ?_
        refine lv_aload_n hx hb dX12_goes_156 rfl (lv_at hl 3 rfl) ?_
        refine lv_iload_n hx hb dX12_goes_157 rfl (lv_at hl 4 rfl) ?_
        refine lv_iload hx hb dX12_goes_158 (lv_at hl 2 rfl) ?_
        refine lv_iconst (v := 0) hx hb dX12_goes_160 ic_0 ?_
        refine lv_aload_n hx hb dX12_goes_161 rfl (lv_at hl 3 rfl) ?_
        refine y_geti h F hP k_63 (n2 (hP.al 63 rfl)) fl_X12_276 rfl dX12_goes_162 (fun v_162 h => ?_)
        obtain ⟨v_165, hc_165, h⟩ := bo_s h
        refine x_goes (x_runV (As := [.int a1, .int v_85, .int (0 : Int32), .int v_162]) (rest := [.int v_106, .ref (ad 63)]) F hP hS (c_X12_wheelY l D cT lo w_150 ad a1 v_85 (0 : Int32) v_162 v_165 hc_165) cw_X12_wheelY lk_X12_303 vi_X12_wheelY k_63 (n2 (hP.al 63 rfl)) rfl ⟨rfl, rfl, Nat.le_of_ble_eq_true rfl, Nat.le_of_ble_eq_true rfl⟩ hl.1 rfl (Nat.le_of_ble_eq_true rfl) dX12_goes_165 ⟨Nat.zero_le _, Nat.zero_le _⟩) hS (fun H locs hP hS _ => ?_)
        refine lv_isub hx hb dX12_goes_168 ?_
        refine y_puti h F hP hS k_63 (n2 (hP.al 63 rfl)) fl_X12_273 rfl dX12_goes_169 (fun w_169 H locs hm h hP hS => ?_)
        have hM_w := hM_w.trans hm
        exact y_vret h F hr hP hS hM_w hlk dX12_goes_172
      · refine lv_icmp_ge (tgt := 125) hx hb dX12_goes_118 (by decide) (fun hc => ?_) (fun hc => ?_)
        · have h := if_t _ hc h
          refine lv_bipush (v := 35) hx hb dX12_goes_125 ib_35 ?_
          exact J_127 (35 : Int32) h _ _ _ hP hS (lv_sub hl [0, 1, 2, 3, 4] rfl)
        · have h := if_f _ hc h
          refine lv_iconst (v := 1) hx hb dX12_goes_121 ic_1 ?_
          refine lv_goto (tgt := 127) hx hb dX12_goes_122 (by decide) ?_
          exact J_127 (1 : Int32) h _ _ _ hP hS (lv_sub hl [0, 1, 2, 3, 4] rfl)
  · have h := if_f _ hc h
    refine lv_iload hx hb dX12_goes_22 (lv_at hl 5 rfl) ?_
    refine jn_use (fun (j_39 : Int32 → Option Wd) => ∀ (s0_39 : Int32), j_39 s0_39 = some w9 → GG p l e { frames := 4, cells := 0, slots := 0, locals := 86 } s m args below meth c 0 0 (MQ below (mQ D cT lo NB w w9 ad none) args s 0 0 (fun q => lo ≤ q)) D cT lo NB 9 ad w_13 39 [(0, .ref (ad 63)), (2, .int a2), (3, .int a3), (4, .int a4)] [.int s0_39]) h (fun s0_39 h H locs ls hP hS hl => ?_) (fun j_39 J_39 h => ?_)
    · refine lv_istore (lv' := [(6, .int s0_39), (0, .ref (ad 63)), (2, .int a2), (3, .int a3), (4, .int a4)]) hx hb dX12_goes_39 hl (Nat.le_of_ble_eq_true rfl) rfl (fun ls hl => ?_)
      refine lv_aload_n hx hb dX12_goes_41 rfl (lv_at hl 1 rfl) ?_
      refine lv_iload_n hx hb dX12_goes_42 rfl (lv_at hl 2 rfl) ?_
      refine lv_iload hx hb dX12_goes_43 (lv_at hl 0 rfl) ?_
      refine lv_iload hx hb dX12_goes_45 (lv_at hl 4 rfl) ?_
      refine x_goes (x_runS (As := [.int a4]) (rest := [.int s0_39, .int a2, .ref (ad 63)]) F hP hS (c_X12_along l D cT lo NB w_13 ad a4) cw_X12_along lk_X12_214 st_X12_along ⟨rfl, rfl, Nat.le_of_ble_eq_true rfl, Nat.le_of_ble_eq_true rfl⟩ hl.1 rfl (Nat.le_of_ble_eq_true rfl) dX12_goes_47 ⟨Nat.zero_le _, Nat.zero_le _⟩) hS (fun H locs hP hS _ => ?_)
      refine lv_imul hx hb dX12_goes_50 ?_
      refine lv_iadd hx hb dX12_goes_51 ?_
      refine y_puti h F hP hS k_63 (n2 (hP.al 63 rfl)) fl_X12_270 rfl dX12_goes_52 (fun w_52 H locs hm h hP hS => ?_)
      have hM_w := hM_w.trans hm
      refine lv_aload_n hx hb dX12_goes_55 rfl (lv_at hl 1 rfl) ?_
      refine lv_iload_n hx hb dX12_goes_56 rfl (lv_at hl 3 rfl) ?_
      refine lv_iload hx hb dX12_goes_57 (lv_at hl 0 rfl) ?_
      refine lv_iload hx hb dX12_goes_59 (lv_at hl 4 rfl) ?_
      refine x_goes (x_runS (As := [.int a4]) (rest := [.int s0_39, .int a3, .ref (ad 63)]) F hP hS (c_X12_across l D cT lo NB w_52 ad a4) cw_X12_across lk_X12_225 st_X12_across ⟨rfl, rfl, Nat.le_of_ble_eq_true rfl, Nat.le_of_ble_eq_true rfl⟩ hl.1 rfl (Nat.le_of_ble_eq_true rfl) dX12_goes_61 ⟨Nat.zero_le _, Nat.zero_le _⟩) hS (fun H locs hP hS _ => ?_)
      refine lv_imul hx hb dX12_goes_64 ?_
      refine lv_iadd hx hb dX12_goes_65 ?_
      refine y_puti h F hP hS k_63 (n2 (hP.al 63 rfl)) fl_X12_273 rfl dX12_goes_66 (fun w_66 H locs hm h hP hS => ?_)
      have hM_w := hM_w.trans hm
      refine lv_goto (tgt := 172) hx hb dX12_goes_69 (by decide) ?_
      exact y_vret h F hr hP hS hM_w hlk dX12_goes_172
    · refine lv_if_ne (tgt := 34) hx hb dX12_goes_24 (by decide) (fun hc => ?_) (fun hc => ?_)
      · have h := if_f _ hc h
        refine lv_aload_n hx hb dX12_goes_34 rfl (lv_at hl 0 rfl) ?_
        refine y_geti h F hP k_63 (n2 (hP.al 63 rfl)) fl_X12_86 rfl dX12_goes_35 (fun v_35 h => ?_)
        refine lv_ineg hx hb dX12_goes_38 ?_
        exact J_39 (-v_35) h _ _ _ hP hS (lv_sub hl [0, 2, 3, 4] rfl)
      · have h := if_t _ hc h
        refine lv_aload_n hx hb dX12_goes_27 rfl (lv_at hl 0 rfl) ?_
        refine y_geti h F hP k_63 (n2 (hP.al 63 rfl)) fl_X12_86 rfl dX12_goes_28 (fun v_28 h => ?_)
        refine lv_goto (tgt := 39) hx hb dX12_goes_31 (by decide) ?_
        exact J_39 v_28 h _ _ _ hP hS (lv_sub hl [0, 2, 3, 4] rfl)
def f_X12_meets (w : Wd) (a1 : Int32) (a2 : Int32) : Option (Int32 × Wd) :=
if (f_X12_isCar w a1) = 0 then
some ((-2 : Int32), w)
else
if (f_X12_in a2 (0 : Int32) (10 : Int32)) = 0 then
some ((-2 : Int32), w)
else
q_ld w 84 4 a1 (fun v_26 =>
if v_26 = 0 then
some ((-3 : Int32), w)
else
q_ld w 85 4 a1 (fun v_40 =>
q_ld w 86 4 a1 (fun v_46 =>
q_ld w 87 4 a1 (fun v_52 =>
q_bo (f_X12_goes w a1 v_40 v_46 v_52 a2) (fun w_54 =>
q_bo (f_X12_meetsNow w_54 a1) (fun v_59 =>
some (v_59, w_54)))))))
set_option maxRecDepth 100000 in
set_option maxHeartbeats 4000000 in
theorem c_X12_meets (l : Launch) (D : va_G) (cT : Nat → ClassId) (lo : Nat) (w : Wd) (ad : Nat → Nat) (a1 : Int32) (a2 : Int32) (r : Int32) (w9 : Wd) (h : f_X12_meets w a1 a2 = some (r, w9)) : Met l yX12_meets (.code yX12_meets cX12_meets 3 (some .int) :: TW) { frames := 8, cells := 0, slots := 0, locals := 199 } (mPc D cT lo NB w ad [.ref (ad 63), .int a1, .int a2]) (mQ D cT lo NB w w9 ad (some (.int r))) 0 0 (fun q => lo ≤ q) := by
  unfold f_X12_meets at h
  refine x_met (lv := [(0, .ref (ad 63)), (1, .int a1), (2, .int a2)]) (by decide +kernel) (Nat.le_of_ble_eq_true rfl) rfl ?_
  intro p e s m args below meth c ls F hr hlk hP hin hl
  have hx := F.1
  have hb := F.2.1
  have hS : va_S (fun q => lo ≤ q) s.heap s.heap [] := va_S.rf
  have hM_w : mono w w := mono.refl
  refine lv_aload_n hx hb dX12_meets_0 rfl (lv_at hl 0 rfl) ?_
  refine lv_iload_n hx hb dX12_meets_1 rfl (lv_at hl 1 rfl) ?_
  refine x_goesZ (x_runV (As := [.int a1]) (rest := []) F hP hS (c_X12_isCar l D cT lo w ad a1) cw_X12_isCar lk_X12_257 vi_X12_isCar k_63 (n2 (hP.al 63 rfl)) rfl ⟨rfl, rfl, Nat.le_of_ble_eq_true rfl, Nat.le_of_ble_eq_true rfl⟩ hl.1 rfl (Nat.le_of_ble_eq_true rfl) dX12_meets_2 ⟨Nat.zero_le _, Nat.zero_le _⟩) hS (fun H locs hz_2 hP hS _ => ?_)
  refine lv_if_eq (tgt := 18) hx hb dX12_meets_5 (by decide) (fun hc => ?_) (fun hc => ?_)
  · have h := if_t _ hc h
    refine lv_bipush (v := -2) hx hb dX12_meets_18 ib_m2 ?_
    exact y_iretM h F hr hP hS mono.refl hlk dX12_meets_20
  · have h := if_f _ hc h
    refine lv_iload_n hx hb dX12_meets_8 rfl (lv_at hl 2 rfl) ?_
    refine lv_iconst (v := 0) hx hb dX12_meets_9 ic_0 ?_
    refine lv_bipush (v := 10) hx hb dX12_meets_10 ib_10 ?_
    refine x_goesZ (x_runS (As := [.int a2, .int (0 : Int32), .int (10 : Int32)]) (rest := []) F hP hS (c_X12_in l D cT lo NB w ad a2 (0 : Int32) (10 : Int32)) cw_X12_in lk_X12_217 st_X12_in ⟨rfl, rfl, Nat.le_of_ble_eq_true rfl, Nat.le_of_ble_eq_true rfl⟩ hl.1 rfl (Nat.le_of_ble_eq_true rfl) dX12_meets_12 ⟨Nat.zero_le _, Nat.zero_le _⟩) hS (fun H locs hz_12 hP hS _ => ?_)
    refine lv_if_ne (tgt := 21) hx hb dX12_meets_15 (by decide) (fun hc => ?_) (fun hc => ?_)
    · have h := if_f _ hc h
      refine lv_aload_n hx hb dX12_meets_21 rfl (lv_at hl 0 rfl) ?_
      refine x_getr F hP k_63 (hP.al 63 rfl) fl_X12_71 rfl r_63_25 dX12_meets_22 ?_
      refine lv_iload_n hx hb dX12_meets_25 rfl (lv_at hl 1 rfl) ?_
      refine y_zald h F hP k_84 (n2 (hP.al 84 rfl)) dX12_meets_26 (fun v_26 h => ?_)
      refine lv_if_ne (tgt := 33) hx hb dX12_meets_27 (by decide) (fun hc => ?_) (fun hc => ?_)
      · have h := if_f _ hc h
        refine lv_aload_n hx hb dX12_meets_33 rfl (lv_at hl 0 rfl) ?_
        refine lv_iload_n hx hb dX12_meets_34 rfl (lv_at hl 1 rfl) ?_
        refine lv_aload_n hx hb dX12_meets_35 rfl (lv_at hl 0 rfl) ?_
        refine x_getr F hP k_63 (hP.al 63 rfl) fl_X12_74 rfl r_63_26 dX12_meets_36 ?_
        refine lv_iload_n hx hb dX12_meets_39 rfl (lv_at hl 1 rfl) ?_
        refine y_iald h F hP k_85 (n2 (hP.al 85 rfl)) dX12_meets_40 (fun v_40 h => ?_)
        refine lv_aload_n hx hb dX12_meets_41 rfl (lv_at hl 0 rfl) ?_
        refine x_getr F hP k_63 (hP.al 63 rfl) fl_X12_77 rfl r_63_27 dX12_meets_42 ?_
        refine lv_iload_n hx hb dX12_meets_45 rfl (lv_at hl 1 rfl) ?_
        refine y_iald h F hP k_86 (n2 (hP.al 86 rfl)) dX12_meets_46 (fun v_46 h => ?_)
        refine lv_aload_n hx hb dX12_meets_47 rfl (lv_at hl 0 rfl) ?_
        refine x_getr F hP k_63 (hP.al 63 rfl) fl_X12_80 rfl r_63_28 dX12_meets_48 ?_
        refine lv_iload_n hx hb dX12_meets_51 rfl (lv_at hl 1 rfl) ?_
        refine y_iald h F hP k_87 (n2 (hP.al 87 rfl)) dX12_meets_52 (fun v_52 h => ?_)
        refine lv_iload_n hx hb dX12_meets_53 rfl (lv_at hl 2 rfl) ?_
        obtain ⟨w_54, hc_54, h⟩ := bo_s h
        refine x_goes (x_runV (As := [.int a1, .int v_40, .int v_46, .int v_52, .int a2]) (rest := []) F hP hS (c_X12_goes l D cT lo w ad a1 v_40 v_46 v_52 a2 w_54 hc_54) cw_X12_goes lk_X12_333 vi_X12_goes k_63 (n2 (hP.al 63 rfl)) rfl ⟨rfl, rfl, Nat.le_of_ble_eq_true rfl, Nat.le_of_ble_eq_true rfl⟩ hl.1 rfl (Nat.le_of_ble_eq_true rfl) dX12_meets_54 ⟨Nat.zero_le _, Nat.zero_le _⟩) hS (fun H locs hP hS hm => ?_)
        have hM_w := hm
        refine lv_aload_n hx hb dX12_meets_57 rfl (lv_at hl 0 rfl) ?_
        refine lv_iload_n hx hb dX12_meets_58 rfl (lv_at hl 1 rfl) ?_
        obtain ⟨v_59, hc_59, h⟩ := bo_s h
        refine x_goes (x_runV (As := [.int a1]) (rest := []) F hP hS (c_X12_meetsNow l D cT lo w_54 ad a1 v_59 hc_59) cw_X12_meetsNow lk_X12_322 vi_X12_meetsNow k_63 (n2 (hP.al 63 rfl)) rfl ⟨rfl, rfl, Nat.le_of_ble_eq_true rfl, Nat.le_of_ble_eq_true rfl⟩ hl.1 rfl (Nat.le_of_ble_eq_true rfl) dX12_meets_59 ⟨Nat.zero_le _, Nat.zero_le _⟩) hS (fun H locs hP hS _ => ?_)
        exact y_iretM h F hr hP hS hM_w hlk dX12_meets_62
      · have h := if_t _ hc h
        refine lv_bipush (v := -3) hx hb dX12_meets_30 ib_m3 ?_
        exact y_iretM h F hr hP hS mono.refl hlk dX12_meets_32
    · have h := if_t _ hc h
      refine lv_bipush (v := -2) hx hb dX12_meets_18 ib_m2 ?_
      exact y_iretM h F hr hP hS mono.refl hlk dX12_meets_20
def f_X12_does (w : Wd) (a1 : Int32) (a2 : Int32) : Option (Int32 × Wd) :=
q_ld w 85 4 a1 (fun v_7 =>
q_ld w 86 4 a1 (fun v_13 =>
q_ld w 87 4 a1 (fun v_19 =>
q_bo (f_X12_goes w a1 v_7 v_13 v_19 a2) (fun w_21 =>
q_bo (f_X12_meetsNow w_21 a1) (fun v_26 =>
if v_26 = 0 then
q_bo (f_X12_settles w_21 a1) (fun w_36 =>
q_ld w_36 88 4 a1 (fun v_45 =>
q_st w_36 88 4 a1 (v_45 + (1 : Int32)) (fun w_48 =>
some ((1 : Int32), w_48))))
else
some ((0 : Int32), w_21))))))
set_option maxRecDepth 100000 in
set_option maxHeartbeats 4000000 in
theorem c_X12_does (l : Launch) (D : va_G) (cT : Nat → ClassId) (lo : Nat) (w : Wd) (ad : Nat → Nat) (a1 : Int32) (a2 : Int32) (r : Int32) (w9 : Wd) (h : f_X12_does w a1 a2 = some (r, w9)) : Met l yX12_does (.code yX12_does cX12_does 3 (some .boolean) :: TW) { frames := 8, cells := 0, slots := 0, locals := 199 } (mPc D cT lo NB w ad [.ref (ad 63), .int a1, .int a2]) (mQz D cT lo NB w w9 ad r) 0 0 (fun q => lo ≤ q) := by
  unfold f_X12_does at h
  refine x_met (lv := [(0, .ref (ad 63)), (1, .int a1), (2, .int a2)]) (by decide +kernel) (Nat.le_of_ble_eq_true rfl) rfl ?_
  intro p e s m args below meth c ls F hr hlk hP hin hl
  have hx := F.1
  have hb := F.2.1
  have hS : va_S (fun q => lo ≤ q) s.heap s.heap [] := va_S.rf
  have hM_w : mono w w := mono.refl
  refine lv_aload_n hx hb dX12_does_0 rfl (lv_at hl 0 rfl) ?_
  refine lv_iload_n hx hb dX12_does_1 rfl (lv_at hl 1 rfl) ?_
  refine lv_aload_n hx hb dX12_does_2 rfl (lv_at hl 0 rfl) ?_
  refine x_getr F hP k_63 (hP.al 63 rfl) fl_X12_74 rfl r_63_26 dX12_does_3 ?_
  refine lv_iload_n hx hb dX12_does_6 rfl (lv_at hl 1 rfl) ?_
  refine y_iald h F hP k_85 (n2 (hP.al 85 rfl)) dX12_does_7 (fun v_7 h => ?_)
  refine lv_aload_n hx hb dX12_does_8 rfl (lv_at hl 0 rfl) ?_
  refine x_getr F hP k_63 (hP.al 63 rfl) fl_X12_77 rfl r_63_27 dX12_does_9 ?_
  refine lv_iload_n hx hb dX12_does_12 rfl (lv_at hl 1 rfl) ?_
  refine y_iald h F hP k_86 (n2 (hP.al 86 rfl)) dX12_does_13 (fun v_13 h => ?_)
  refine lv_aload_n hx hb dX12_does_14 rfl (lv_at hl 0 rfl) ?_
  refine x_getr F hP k_63 (hP.al 63 rfl) fl_X12_80 rfl r_63_28 dX12_does_15 ?_
  refine lv_iload_n hx hb dX12_does_18 rfl (lv_at hl 1 rfl) ?_
  refine y_iald h F hP k_87 (n2 (hP.al 87 rfl)) dX12_does_19 (fun v_19 h => ?_)
  refine lv_iload_n hx hb dX12_does_20 rfl (lv_at hl 2 rfl) ?_
  obtain ⟨w_21, hc_21, h⟩ := bo_s h
  refine x_goes (x_runV (As := [.int a1, .int v_7, .int v_13, .int v_19, .int a2]) (rest := []) F hP hS (c_X12_goes l D cT lo w ad a1 v_7 v_13 v_19 a2 w_21 hc_21) cw_X12_goes lk_X12_333 vi_X12_goes k_63 (n2 (hP.al 63 rfl)) rfl ⟨rfl, rfl, Nat.le_of_ble_eq_true rfl, Nat.le_of_ble_eq_true rfl⟩ hl.1 rfl (Nat.le_of_ble_eq_true rfl) dX12_does_21 ⟨Nat.zero_le _, Nat.zero_le _⟩) hS (fun H locs hP hS hm => ?_)
  have hM_w := hm
  refine lv_aload_n hx hb dX12_does_24 rfl (lv_at hl 0 rfl) ?_
  refine lv_iload_n hx hb dX12_does_25 rfl (lv_at hl 1 rfl) ?_
  obtain ⟨v_26, hc_26, h⟩ := bo_s h
  refine x_goes (x_runV (As := [.int a1]) (rest := []) F hP hS (c_X12_meetsNow l D cT lo w_21 ad a1 v_26 hc_26) cw_X12_meetsNow lk_X12_322 vi_X12_meetsNow k_63 (n2 (hP.al 63 rfl)) rfl ⟨rfl, rfl, Nat.le_of_ble_eq_true rfl, Nat.le_of_ble_eq_true rfl⟩ hl.1 rfl (Nat.le_of_ble_eq_true rfl) dX12_does_26 ⟨Nat.zero_le _, Nat.zero_le _⟩) hS (fun H locs hP hS _ => ?_)
  refine lv_if_eq (tgt := 34) hx hb dX12_does_29 (by decide) (fun hc => ?_) (fun hc => ?_)
  · have h := if_t _ hc h
    refine lv_aload_n hx hb dX12_does_34 rfl (lv_at hl 0 rfl) ?_
    refine lv_iload_n hx hb dX12_does_35 rfl (lv_at hl 1 rfl) ?_
    obtain ⟨w_36, hc_36, h⟩ := bo_s h
    refine x_goes (x_runV (As := [.int a1]) (rest := []) F hP hS (c_X12_settles l D cT lo w_21 ad a1 w_36 hc_36) cw_X12_settles lk_X12_325 vi_X12_settles k_63 (n2 (hP.al 63 rfl)) rfl ⟨rfl, rfl, Nat.le_of_ble_eq_true rfl, Nat.le_of_ble_eq_true rfl⟩ hl.1 rfl (Nat.le_of_ble_eq_true rfl) dX12_does_36 ⟨Nat.zero_le _, Nat.zero_le _⟩) hS (fun H locs hP hS hm => ?_)
    have hM_w := hM_w.trans hm
    refine lv_aload_n hx hb dX12_does_39 rfl (lv_at hl 0 rfl) ?_
    refine x_getr F hP k_63 (hP.al 63 rfl) fl_X12_83 rfl r_63_29 dX12_does_40 ?_
    refine lv_iload_n hx hb dX12_does_43 rfl (lv_at hl 1 rfl) ?_
    refine lv_dup2_11 hx hb dX12_does_44 rfl rfl ?_
    refine y_iald h F hP k_88 (n2 (hP.al 88 rfl)) dX12_does_45 (fun v_45 h => ?_)
    refine lv_iconst (v := 1) hx hb dX12_does_46 ic_1 ?_
    refine lv_iadd hx hb dX12_does_47 ?_
    refine y_iast h F hP hS k_88 (n2 (hP.al 88 rfl)) dX12_does_48 (fun w_48 H locs hm h hP hS => ?_)
    have hM_w := hM_w.trans hm
    refine lv_iconst (v := 1) hx hb dX12_does_49 ic_1 ?_
    exact y_zretM h F hr hP hS hM_w hlk rfl dX12_does_50
  · have h := if_f _ hc h
    refine lv_iconst (v := 0) hx hb dX12_does_32 ic_0 ?_
    exact y_zretM h F hr hP hS hM_w hlk rfl dX12_does_33
def f_X12_move (w : Wd) (a1 : Int32) (a2 : Int32) : Option (Int32 × Wd) :=
if (f_X12_isCar w a1) = 0 then
some ((-2 : Int32), w)
else
if (f_X12_in a2 (0 : Int32) (9 : Int32)) = 0 then
some ((-2 : Int32), w)
else
q_ld w 84 4 a1 (fun v_26 =>
if v_26 = 0 then
some ((-3 : Int32), w)
else
q_bi (f_X12_does w a1 a2) (fun v_33 w_33 =>
if v_33 = 0 then
some ((-3 : Int32), w_33)
else
some ((1 : Int32), w_33)))
set_option maxRecDepth 100000 in
set_option maxHeartbeats 4000000 in
theorem c_X12_move (l : Launch) (D : va_G) (cT : Nat → ClassId) (lo : Nat) (w : Wd) (ad : Nat → Nat) (a1 : Int32) (a2 : Int32) (r : Int32) (w9 : Wd) (h : f_X12_move w a1 a2 = some (r, w9)) : Met l yX12_move (.code yX12_move cX12_move 3 (some .int) :: TW) { frames := 9, cells := 0, slots := 0, locals := 221 } (mPc D cT lo NB w ad [.ref (ad 63), .int a1, .int a2]) (mQ D cT lo NB w w9 ad (some (.int r))) 0 0 (fun q => lo ≤ q) := by
  unfold f_X12_move at h
  refine x_met (lv := [(0, .ref (ad 63)), (1, .int a1), (2, .int a2)]) (by decide +kernel) (Nat.le_of_ble_eq_true rfl) rfl ?_
  intro p e s m args below meth c ls F hr hlk hP hin hl
  have hx := F.1
  have hb := F.2.1
  have hS : va_S (fun q => lo ≤ q) s.heap s.heap [] := va_S.rf
  have hM_w : mono w w := mono.refl
  refine lv_aload_n hx hb dX12_move_0 rfl (lv_at hl 0 rfl) ?_
  refine lv_iload_n hx hb dX12_move_1 rfl (lv_at hl 1 rfl) ?_
  refine x_goesZ (x_runV (As := [.int a1]) (rest := []) F hP hS (c_X12_isCar l D cT lo w ad a1) cw_X12_isCar lk_X12_257 vi_X12_isCar k_63 (n2 (hP.al 63 rfl)) rfl ⟨rfl, rfl, Nat.le_of_ble_eq_true rfl, Nat.le_of_ble_eq_true rfl⟩ hl.1 rfl (Nat.le_of_ble_eq_true rfl) dX12_move_2 ⟨Nat.zero_le _, Nat.zero_le _⟩) hS (fun H locs hz_2 hP hS _ => ?_)
  refine lv_if_eq (tgt := 18) hx hb dX12_move_5 (by decide) (fun hc => ?_) (fun hc => ?_)
  · have h := if_t _ hc h
    refine lv_bipush (v := -2) hx hb dX12_move_18 ib_m2 ?_
    exact y_iretM h F hr hP hS mono.refl hlk dX12_move_20
  · have h := if_f _ hc h
    refine lv_iload_n hx hb dX12_move_8 rfl (lv_at hl 2 rfl) ?_
    refine lv_iconst (v := 0) hx hb dX12_move_9 ic_0 ?_
    refine lv_bipush (v := 9) hx hb dX12_move_10 ib_9 ?_
    refine x_goesZ (x_runS (As := [.int a2, .int (0 : Int32), .int (9 : Int32)]) (rest := []) F hP hS (c_X12_in l D cT lo NB w ad a2 (0 : Int32) (9 : Int32)) cw_X12_in lk_X12_217 st_X12_in ⟨rfl, rfl, Nat.le_of_ble_eq_true rfl, Nat.le_of_ble_eq_true rfl⟩ hl.1 rfl (Nat.le_of_ble_eq_true rfl) dX12_move_12 ⟨Nat.zero_le _, Nat.zero_le _⟩) hS (fun H locs hz_12 hP hS _ => ?_)
    refine lv_if_ne (tgt := 21) hx hb dX12_move_15 (by decide) (fun hc => ?_) (fun hc => ?_)
    · have h := if_f _ hc h
      refine lv_aload_n hx hb dX12_move_21 rfl (lv_at hl 0 rfl) ?_
      refine x_getr F hP k_63 (hP.al 63 rfl) fl_X12_71 rfl r_63_25 dX12_move_22 ?_
      refine lv_iload_n hx hb dX12_move_25 rfl (lv_at hl 1 rfl) ?_
      refine y_zald h F hP k_84 (n2 (hP.al 84 rfl)) dX12_move_26 (fun v_26 h => ?_)
      refine lv_if_eq (tgt := 43) hx hb dX12_move_27 (by decide) (fun hc => ?_) (fun hc => ?_)
      · have h := if_t _ hc h
        refine lv_bipush (v := -3) hx hb dX12_move_43 ib_m3 ?_
        exact y_iretM h F hr hP hS mono.refl hlk dX12_move_45
      · have h := if_f _ hc h
        refine lv_aload_n hx hb dX12_move_30 rfl (lv_at hl 0 rfl) ?_
        refine lv_iload_n hx hb dX12_move_31 rfl (lv_at hl 1 rfl) ?_
        refine lv_iload_n hx hb dX12_move_32 rfl (lv_at hl 2 rfl) ?_
        obtain ⟨v_33, w_33, hc_33, h⟩ := bi_s h
        refine x_goesZ (x_runV (As := [.int a1, .int a2]) (rest := []) F hP hS (c_X12_does l D cT lo w ad a1 a2 v_33 w_33 hc_33) cw_X12_does lk_X12_337 vi_X12_does k_63 (n2 (hP.al 63 rfl)) rfl ⟨rfl, rfl, Nat.le_of_ble_eq_true rfl, Nat.le_of_ble_eq_true rfl⟩ hl.1 rfl (Nat.le_of_ble_eq_true rfl) dX12_move_33 ⟨Nat.zero_le _, Nat.zero_le _⟩) hS (fun H locs hz_33 hP hS hm => ?_)
        have hM_w := hm
        refine lv_if_eq (tgt := 43) hx hb dX12_move_36 (by decide) (fun hc => ?_) (fun hc => ?_)
        · have h := if_t _ hc h
          refine lv_bipush (v := -3) hx hb dX12_move_43 ib_m3 ?_
          exact y_iretM h F hr hP hS hM_w hlk dX12_move_45
        · have h := if_f _ hc h
          refine lv_iconst (v := 1) hx hb dX12_move_39 ic_1 ?_
          refine lv_goto (tgt := 45) hx hb dX12_move_40 (by decide) ?_
          exact y_iretM h F hr hP hS hM_w hlk dX12_move_45
    · have h := if_t _ hc h
      refine lv_bipush (v := -2) hx hb dX12_move_18 ib_m2 ?_
      exact y_iretM h F hr hP hS mono.refl hlk dX12_move_20
def l_X12_slotOf_21 (a1 : Int32) (a2 : Int32) (a3 : Int32) (w : Wd) : Nat → Int32 → Option Int32
  | 0, _ => none
  | n_21 + 1, x4_21l =>
    q_ld w 95 4096 x4_21l (fun v_27 =>
    if v_27 = 0 then
    some x4_21l
    else
    q_ld w 95 4096 x4_21l (fun v_41 =>
    q_ld w 89 1500 (v_41 - (1 : Int32)) (fun v_44 =>
    q_jn (q_lt ((x4_21l + (1 : Int32)) &&& (4095 : Int32)) (fun v_93 =>
    l_X12_slotOf_21 a1 a2 a3 w n_21 v_93)) (fun j_85 =>
    if v_44 = a1 then
    q_ld w 95 4096 x4_21l (fun v_59 =>
    q_ld w 90 1500 (v_59 - (1 : Int32)) (fun v_62 =>
    if v_62 = a2 then
    q_ld w 95 4096 x4_21l (fun v_77 =>
    q_ld w 91 1500 (v_77 - (1 : Int32)) (fun v_80 =>
    if v_80 = a3 then
    some x4_21l
    else
    j_85))
    else
    j_85))
    else
    j_85))))
def f_X12_slotOf (w : Wd) (a1 : Int32) (a2 : Int32) (a3 : Int32) : Option Int32 :=
q_lt ((((a1 * (31 : Int32)) + (a2 * (17 : Int32))) + (a3 * (7919 : Int32))) &&& (4095 : Int32)) (fun v_19 =>
l_X12_slotOf_21 a1 a2 a3 w FU v_19)
set_option maxRecDepth 100000 in
set_option maxHeartbeats 4000000 in
theorem c_X12_slotOf (l : Launch) (D : va_G) (cT : Nat → ClassId) (lo : Nat) (w : Wd) (ad : Nat → Nat) (a1 : Int32) (a2 : Int32) (a3 : Int32) (r : Int32) (h : f_X12_slotOf w a1 a2 a3 = some r) : Met l yX12_slotOf (.code yX12_slotOf cX12_slotOf 5 (some .int) :: TW) { frames := 0, cells := 0, slots := 0, locals := 0 } (mPc D cT lo NB w ad [.ref (ad 63), .int a1, .int a2, .int a3]) (mQ D cT lo NB w w ad (some (.int r))) 0 0 (fun q => lo ≤ q) := by
  unfold f_X12_slotOf at h
  refine x_met (lv := [(0, .ref (ad 63)), (1, .int a1), (2, .int a2), (3, .int a3)]) (by decide +kernel) (Nat.le_of_ble_eq_true rfl) rfl ?_
  intro p e s m args below meth c ls F hr hlk hP hin hl
  have hx := F.1
  have hb := F.2.1
  have hS : va_S (fun q => lo ≤ q) s.heap s.heap [] := va_S.rf
  refine lv_iload_n hx hb dX12_slotOf_0 rfl (lv_at hl 1 rfl) ?_
  refine lv_bipush (v := 31) hx hb dX12_slotOf_1 ib_31 ?_
  refine lv_imul hx hb dX12_slotOf_3 ?_
  refine lv_iload_n hx hb dX12_slotOf_4 rfl (lv_at hl 2 rfl) ?_
  refine lv_bipush (v := 17) hx hb dX12_slotOf_5 ib_17 ?_
  refine lv_imul hx hb dX12_slotOf_7 ?_
  refine lv_iadd hx hb dX12_slotOf_8 ?_
  refine lv_iload_n hx hb dX12_slotOf_9 rfl (lv_at hl 3 rfl) ?_
  refine lv_sipush (v := 7919) hx hb dX12_slotOf_10 is_7919 ?_
  refine lv_imul hx hb dX12_slotOf_13 ?_
  refine lv_iadd hx hb dX12_slotOf_14 ?_
  refine lv_sipush (v := 4095) hx hb dX12_slotOf_15 is_4095 ?_
  refine lv_iand hx hb dX12_slotOf_18 ?_
  refine y_let h (fun v_19 h => ?_)
  refine lv_istore (lv' := [(4, .int v_19), (0, .ref (ad 63)), (1, .int a1), (2, .int a2), (3, .int a3)]) hx hb dX12_slotOf_19 hl (Nat.le_of_ble_eq_true rfl) rfl (fun ls hl => ?_)
  have L_21 : ∀ (n_21 : Nat) (x4_21l : Int32), l_X12_slotOf_21 a1 a2 a3 w n_21 x4_21l = some r → GG p l e { frames := 0, cells := 0, slots := 0, locals := 0 } s m args below meth c 0 0 (MQ below (mQ D cT lo NB w w ad (some (.int r))) args s 0 0 (fun q => lo ≤ q)) D cT lo NB 5 ad w 21 [(4, .int x4_21l), (0, .ref (ad 63)), (1, .int a1), (2, .int a2), (3, .int a3)] [] := by
    intro n_21
    induction n_21 with
    | zero =>
      intro x4_21l h
      exact absurd h (by unfold l_X12_slotOf_21; exact fun z => by cases z)
    | succ n_21 ih_21 =>
      intro x4_21l h H locs ls hP hS hl
      unfold l_X12_slotOf_21 at h
      refine lv_aload_n hx hb dX12_slotOf_21 rfl (lv_at hl 1 rfl) ?_
      refine x_getr F hP k_63 (hP.al 63 rfl) fl_X12_108 rfl r_63_41 dX12_slotOf_22 ?_
      refine lv_iload hx hb dX12_slotOf_25 (lv_at hl 0 rfl) ?_
      refine y_iald h F hP k_95 (n2 (hP.al 95 rfl)) dX12_slotOf_27 (fun v_27 h => ?_)
      refine lv_if_eq (tgt := 98) hx hb dX12_slotOf_28 (by decide) (fun hc => ?_) (fun hc => ?_)
      · have h := if_t _ hc h
        refine lv_iload hx hb dX12_slotOf_98 (lv_at hl 0 rfl) ?_
        exact y_iretO h F hr hP hS hlk dX12_slotOf_100
      · have h := if_f _ hc h
        refine lv_aload_n hx hb dX12_slotOf_31 rfl (lv_at hl 1 rfl) ?_
        refine x_getr F hP k_63 (hP.al 63 rfl) fl_X12_90 rfl r_63_35 dX12_slotOf_32 ?_
        refine lv_aload_n hx hb dX12_slotOf_35 rfl (lv_at hl 1 rfl) ?_
        refine x_getr F hP k_63 (hP.al 63 rfl) fl_X12_108 rfl r_63_41 dX12_slotOf_36 ?_
        refine lv_iload hx hb dX12_slotOf_39 (lv_at hl 0 rfl) ?_
        refine y_iald h F hP k_95 (n2 (hP.al 95 rfl)) dX12_slotOf_41 (fun v_41 h => ?_)
        refine lv_iconst (v := 1) hx hb dX12_slotOf_42 ic_1 ?_
        refine lv_isub hx hb dX12_slotOf_43 ?_
        refine y_iald h F hP k_89 (n2 (hP.al 89 rfl)) dX12_slotOf_44 (fun v_44 h => ?_)
        refine lv_iload_n hx hb dX12_slotOf_45 rfl (lv_at hl 2 rfl) ?_
        refine jn_use (fun (j_85 : Option Int32) => j_85 = some r → GG p l e { frames := 0, cells := 0, slots := 0, locals := 0 } s m args below meth c 0 0 (MQ below (mQ D cT lo NB w w ad (some (.int r))) args s 0 0 (fun q => lo ≤ q)) D cT lo NB 5 ad w 85 [(4, .int x4_21l), (0, .ref (ad 63)), (1, .int a1), (2, .int a2), (3, .int a3)] []) h (fun h H locs ls hP hS hl => ?_) (fun j_85 J_85 h => ?_)
        · refine lv_iload hx hb dX12_slotOf_85 (lv_at hl 0 rfl) ?_
          refine lv_iconst (v := 1) hx hb dX12_slotOf_87 ic_1 ?_
          refine lv_iadd hx hb dX12_slotOf_88 ?_
          refine lv_sipush (v := 4095) hx hb dX12_slotOf_89 is_4095 ?_
          refine lv_iand hx hb dX12_slotOf_92 ?_
          refine y_let h (fun v_93 h => ?_)
          refine lv_istore (lv' := [(4, .int v_93), (0, .ref (ad 63)), (1, .int a1), (2, .int a2), (3, .int a3)]) hx hb dX12_slotOf_93 hl (Nat.le_of_ble_eq_true rfl) rfl (fun ls hl => ?_)
          refine lv_goto (tgt := 21) hx hb dX12_slotOf_95 (by decide) ?_
          exact ih_21 v_93 h _ _ _ hP hS (lv_sub hl [0, 1, 2, 3, 4] rfl)
        · refine lv_icmp_ne (tgt := 85) hx hb dX12_slotOf_46 (by decide) (fun hc => ?_) (fun hc => ?_)
          · have h := if_f _ hc h
            exact J_85  h _ _ _ hP hS (lv_sub hl [0, 1, 2, 3, 4] rfl)
          · have h := if_t _ hc h
            refine lv_aload_n hx hb dX12_slotOf_49 rfl (lv_at hl 1 rfl) ?_
            refine x_getr F hP k_63 (hP.al 63 rfl) fl_X12_93 rfl r_63_36 dX12_slotOf_50 ?_
            refine lv_aload_n hx hb dX12_slotOf_53 rfl (lv_at hl 1 rfl) ?_
            refine x_getr F hP k_63 (hP.al 63 rfl) fl_X12_108 rfl r_63_41 dX12_slotOf_54 ?_
            refine lv_iload hx hb dX12_slotOf_57 (lv_at hl 0 rfl) ?_
            refine y_iald h F hP k_95 (n2 (hP.al 95 rfl)) dX12_slotOf_59 (fun v_59 h => ?_)
            refine lv_iconst (v := 1) hx hb dX12_slotOf_60 ic_1 ?_
            refine lv_isub hx hb dX12_slotOf_61 ?_
            refine y_iald h F hP k_90 (n2 (hP.al 90 rfl)) dX12_slotOf_62 (fun v_62 h => ?_)
            refine lv_iload_n hx hb dX12_slotOf_63 rfl (lv_at hl 3 rfl) ?_
            refine lv_icmp_ne (tgt := 85) hx hb dX12_slotOf_64 (by decide) (fun hc => ?_) (fun hc => ?_)
            · have h := if_f _ hc h
              exact J_85  h _ _ _ hP hS (lv_sub hl [0, 1, 2, 3, 4] rfl)
            · have h := if_t _ hc h
              refine lv_aload_n hx hb dX12_slotOf_67 rfl (lv_at hl 1 rfl) ?_
              refine x_getr F hP k_63 (hP.al 63 rfl) fl_X12_96 rfl r_63_37 dX12_slotOf_68 ?_
              refine lv_aload_n hx hb dX12_slotOf_71 rfl (lv_at hl 1 rfl) ?_
              refine x_getr F hP k_63 (hP.al 63 rfl) fl_X12_108 rfl r_63_41 dX12_slotOf_72 ?_
              refine lv_iload hx hb dX12_slotOf_75 (lv_at hl 0 rfl) ?_
              refine y_iald h F hP k_95 (n2 (hP.al 95 rfl)) dX12_slotOf_77 (fun v_77 h => ?_)
              refine lv_iconst (v := 1) hx hb dX12_slotOf_78 ic_1 ?_
              refine lv_isub hx hb dX12_slotOf_79 ?_
              refine y_iald h F hP k_91 (n2 (hP.al 91 rfl)) dX12_slotOf_80 (fun v_80 h => ?_)
              refine lv_iload_n hx hb dX12_slotOf_81 rfl (lv_at hl 4 rfl) ?_
              refine lv_icmp_eq (tgt := 98) hx hb dX12_slotOf_82 (by decide) (fun hc => ?_) (fun hc => ?_)
              · have h := if_t _ hc h
                refine lv_iload hx hb dX12_slotOf_98 (lv_at hl 0 rfl) ?_
                exact y_iretO h F hr hP hS hlk dX12_slotOf_100
              · have h := if_f _ hc h
                exact J_85  h _ _ _ hP hS (lv_sub hl [0, 1, 2, 3, 4] rfl)
  exact L_21 FU v_19 h _ _ _ hP hS (lv_sub hl [0, 1, 2, 3, 4] rfl)
def f_X12_counts (w : Wd) (a1 : Int32) (a2 : Int32) (a3 : Int32) (a4 : Int32) : Option Wd :=
q_gt w 63 34 (fun v_5 =>
q_gt w 63 31 (fun v_9 =>
q_st w 89 1500 v_5 v_9 (fun w_12 =>
q_gt w_12 63 34 (fun v_18 =>
q_gt w_12 63 32 (fun v_22 =>
q_st w_12 90 1500 v_18 v_22 (fun w_25 =>
q_gt w_25 63 34 (fun v_31 =>
q_gt w_25 63 33 (fun v_35 =>
q_st w_25 91 1500 v_31 v_35 (fun w_38 =>
q_gt w_38 63 34 (fun v_44 =>
q_st w_38 92 1500 v_44 a2 (fun w_48 =>
q_gt w_48 63 34 (fun v_54 =>
q_st w_48 93 1500 v_54 a3 (fun w_58 =>
q_gt w_58 63 34 (fun v_64 =>
q_st w_58 94 1500 v_64 a4 (fun w_69 =>
q_gt w_69 63 34 (fun v_72 =>
q_pt w_69 63 34 (v_72 + (1 : Int32)) (fun w_77 =>
q_gt w_77 63 34 (fun v_86 =>
q_st w_77 95 4096 a1 v_86 (fun w_89 =>
some w_89)))))))))))))))))))
set_option maxRecDepth 100000 in
set_option maxHeartbeats 4000000 in
theorem c_X12_counts (l : Launch) (D : va_G) (cT : Nat → ClassId) (lo : Nat) (w : Wd) (ad : Nat → Nat) (a1 : Int32) (a2 : Int32) (a3 : Int32) (a4 : Int32) (w9 : Wd) (h : f_X12_counts w a1 a2 a3 a4 = some w9) : Met l yX12_counts (.code yX12_counts cX12_counts 5 none :: TW) { frames := 0, cells := 0, slots := 0, locals := 0 } (mPc D cT lo NB w ad [.ref (ad 63), .int a1, .int a2, .int a3, .int a4]) (mQ D cT lo NB w w9 ad none) 0 0 (fun q => lo ≤ q) := by
  unfold f_X12_counts at h
  refine x_met (lv := [(0, .ref (ad 63)), (1, .int a1), (2, .int a2), (3, .int a3), (4, .int a4)]) (by decide +kernel) (Nat.le_of_ble_eq_true rfl) rfl ?_
  intro p e s m args below meth c ls F hr hlk hP hin hl
  have hx := F.1
  have hb := F.2.1
  have hS : va_S (fun q => lo ≤ q) s.heap s.heap [] := va_S.rf
  have hM_w : mono w w := mono.refl
  refine lv_aload_n hx hb dX12_counts_0 rfl (lv_at hl 0 rfl) ?_
  refine x_getr F hP k_63 (hP.al 63 rfl) fl_X12_90 rfl r_63_35 dX12_counts_1 ?_
  refine lv_aload_n hx hb dX12_counts_4 rfl (lv_at hl 0 rfl) ?_
  refine y_geti h F hP k_63 (n2 (hP.al 63 rfl)) fl_X12_340 rfl dX12_counts_5 (fun v_5 h => ?_)
  refine lv_aload_n hx hb dX12_counts_8 rfl (lv_at hl 0 rfl) ?_
  refine y_geti h F hP k_63 (n2 (hP.al 63 rfl)) fl_X12_270 rfl dX12_counts_9 (fun v_9 h => ?_)
  refine y_iast h F hP hS k_89 (n2 (hP.al 89 rfl)) dX12_counts_12 (fun w_12 H locs hm h hP hS => ?_)
  have hM_w := hm
  refine lv_aload_n hx hb dX12_counts_13 rfl (lv_at hl 0 rfl) ?_
  refine x_getr F hP k_63 (hP.al 63 rfl) fl_X12_93 rfl r_63_36 dX12_counts_14 ?_
  refine lv_aload_n hx hb dX12_counts_17 rfl (lv_at hl 0 rfl) ?_
  refine y_geti h F hP k_63 (n2 (hP.al 63 rfl)) fl_X12_340 rfl dX12_counts_18 (fun v_18 h => ?_)
  refine lv_aload_n hx hb dX12_counts_21 rfl (lv_at hl 0 rfl) ?_
  refine y_geti h F hP k_63 (n2 (hP.al 63 rfl)) fl_X12_273 rfl dX12_counts_22 (fun v_22 h => ?_)
  refine y_iast h F hP hS k_90 (n2 (hP.al 90 rfl)) dX12_counts_25 (fun w_25 H locs hm h hP hS => ?_)
  have hM_w := hM_w.trans hm
  refine lv_aload_n hx hb dX12_counts_26 rfl (lv_at hl 0 rfl) ?_
  refine x_getr F hP k_63 (hP.al 63 rfl) fl_X12_96 rfl r_63_37 dX12_counts_27 ?_
  refine lv_aload_n hx hb dX12_counts_30 rfl (lv_at hl 0 rfl) ?_
  refine y_geti h F hP k_63 (n2 (hP.al 63 rfl)) fl_X12_340 rfl dX12_counts_31 (fun v_31 h => ?_)
  refine lv_aload_n hx hb dX12_counts_34 rfl (lv_at hl 0 rfl) ?_
  refine y_geti h F hP k_63 (n2 (hP.al 63 rfl)) fl_X12_276 rfl dX12_counts_35 (fun v_35 h => ?_)
  refine y_iast h F hP hS k_91 (n2 (hP.al 91 rfl)) dX12_counts_38 (fun w_38 H locs hm h hP hS => ?_)
  have hM_w := hM_w.trans hm
  refine lv_aload_n hx hb dX12_counts_39 rfl (lv_at hl 0 rfl) ?_
  refine x_getr F hP k_63 (hP.al 63 rfl) fl_X12_99 rfl r_63_38 dX12_counts_40 ?_
  refine lv_aload_n hx hb dX12_counts_43 rfl (lv_at hl 0 rfl) ?_
  refine y_geti h F hP k_63 (n2 (hP.al 63 rfl)) fl_X12_340 rfl dX12_counts_44 (fun v_44 h => ?_)
  refine lv_iload_n hx hb dX12_counts_47 rfl (lv_at hl 2 rfl) ?_
  refine y_iast h F hP hS k_92 (n2 (hP.al 92 rfl)) dX12_counts_48 (fun w_48 H locs hm h hP hS => ?_)
  have hM_w := hM_w.trans hm
  refine lv_aload_n hx hb dX12_counts_49 rfl (lv_at hl 0 rfl) ?_
  refine x_getr F hP k_63 (hP.al 63 rfl) fl_X12_102 rfl r_63_39 dX12_counts_50 ?_
  refine lv_aload_n hx hb dX12_counts_53 rfl (lv_at hl 0 rfl) ?_
  refine y_geti h F hP k_63 (n2 (hP.al 63 rfl)) fl_X12_340 rfl dX12_counts_54 (fun v_54 h => ?_)
  refine lv_iload_n hx hb dX12_counts_57 rfl (lv_at hl 3 rfl) ?_
  refine y_iast h F hP hS k_93 (n2 (hP.al 93 rfl)) dX12_counts_58 (fun w_58 H locs hm h hP hS => ?_)
  have hM_w := hM_w.trans hm
  refine lv_aload_n hx hb dX12_counts_59 rfl (lv_at hl 0 rfl) ?_
  refine x_getr F hP k_63 (hP.al 63 rfl) fl_X12_105 rfl r_63_40 dX12_counts_60 ?_
  refine lv_aload_n hx hb dX12_counts_63 rfl (lv_at hl 0 rfl) ?_
  refine y_geti h F hP k_63 (n2 (hP.al 63 rfl)) fl_X12_340 rfl dX12_counts_64 (fun v_64 h => ?_)
  refine lv_iload hx hb dX12_counts_67 (lv_at hl 4 rfl) ?_
  refine y_iast h F hP hS k_94 (n2 (hP.al 94 rfl)) dX12_counts_69 (fun w_69 H locs hm h hP hS => ?_)
  have hM_w := hM_w.trans hm
  refine lv_aload_n hx hb dX12_counts_70 rfl (lv_at hl 0 rfl) ?_
  refine lv_dup hx hb dX12_counts_71 rfl ?_
  refine y_geti h F hP k_63 (n2 (hP.al 63 rfl)) fl_X12_340 rfl dX12_counts_72 (fun v_72 h => ?_)
  refine lv_iconst (v := 1) hx hb dX12_counts_75 ic_1 ?_
  refine lv_iadd hx hb dX12_counts_76 ?_
  refine y_puti h F hP hS k_63 (n2 (hP.al 63 rfl)) fl_X12_340 rfl dX12_counts_77 (fun w_77 H locs hm h hP hS => ?_)
  have hM_w := hM_w.trans hm
  refine lv_aload_n hx hb dX12_counts_80 rfl (lv_at hl 0 rfl) ?_
  refine x_getr F hP k_63 (hP.al 63 rfl) fl_X12_108 rfl r_63_41 dX12_counts_81 ?_
  refine lv_iload_n hx hb dX12_counts_84 rfl (lv_at hl 1 rfl) ?_
  refine lv_aload_n hx hb dX12_counts_85 rfl (lv_at hl 0 rfl) ?_
  refine y_geti h F hP k_63 (n2 (hP.al 63 rfl)) fl_X12_340 rfl dX12_counts_86 (fun v_86 h => ?_)
  refine y_iast h F hP hS k_95 (n2 (hP.al 95 rfl)) dX12_counts_89 (fun w_89 H locs hm h hP hS => ?_)
  have hM_w := hM_w.trans hm
  exact y_vret h F hr hP hS hM_w hlk dX12_counts_90
def l_X12_isGoal_14 (a1 : Int32) (a2 : Int32) (a3 : Int32) (a4 : Int32) (a5 : Int32) (w : Wd) : Nat → Int32 → Option Int32
  | 0, _ => none
  | n_14 + 1, x7_14l =>
    if (4 : Int32) ≤ x7_14l then
    some (1 : Int32)
    else
    q_gt w 63 31 (fun v_25 =>
    q_gt w 63 33 (fun v_29 =>
    q_bo (f_X12_wheelX w a1 x7_14l v_25 v_29) (fun v_32 =>
    if (f_X12_in v_32 ((65 : Int32) * a2) ((65 : Int32) * a4)) = 0 then
    some (0 : Int32)
    else
    q_gt w 63 32 (fun v_55 =>
    q_gt w 63 33 (fun v_59 =>
    q_bo (f_X12_wheelY w a1 x7_14l v_55 v_59) (fun v_62 =>
    if (f_X12_in v_62 ((65 : Int32) * a3) ((65 : Int32) * a5)) = 0 then
    some (0 : Int32)
    else
    q_lt (x7_14l + (1 : Int32)) (fun v_82 =>
    l_X12_isGoal_14 a1 a2 a3 a4 a5 w n_14 v_82)))))))
def f_X12_isGoal (w : Wd) (a1 : Int32) (a2 : Int32) (a3 : Int32) (a4 : Int32) (a5 : Int32) (a6 : Int32) : Option Int32 :=
q_gt w 63 33 (fun v_1 =>
if v_1 = a6 then
l_X12_isGoal_14 a1 a2 a3 a4 a5 w FU (0 : Int32)
else
some (0 : Int32))
set_option maxRecDepth 100000 in
set_option maxHeartbeats 4000000 in
theorem c_X12_isGoal (l : Launch) (D : va_G) (cT : Nat → ClassId) (lo : Nat) (w : Wd) (ad : Nat → Nat) (a1 : Int32) (a2 : Int32) (a3 : Int32) (a4 : Int32) (a5 : Int32) (a6 : Int32) (r : Int32) (h : f_X12_isGoal w a1 a2 a3 a4 a5 a6 = some r) : Met l yX12_isGoal (.code yX12_isGoal cX12_isGoal 8 (some .boolean) :: TW) { frames := 4, cells := 0, slots := 0, locals := 86 } (mPc D cT lo NB w ad [.ref (ad 63), .int a1, .int a2, .int a3, .int a4, .int a5, .int a6]) (mQz D cT lo NB w w ad r) 0 0 (fun q => lo ≤ q) := by
  unfold f_X12_isGoal at h
  refine x_met (lv := [(0, .ref (ad 63)), (1, .int a1), (2, .int a2), (3, .int a3), (4, .int a4), (5, .int a5), (6, .int a6)]) (by decide +kernel) (Nat.le_of_ble_eq_true rfl) rfl ?_
  intro p e s m args below meth c ls F hr hlk hP hin hl
  have hx := F.1
  have hb := F.2.1
  have hS : va_S (fun q => lo ≤ q) s.heap s.heap [] := va_S.rf
  refine lv_aload_n hx hb dX12_isGoal_0 rfl (lv_at hl 0 rfl) ?_
  refine y_geti h F hP k_63 (n2 (hP.al 63 rfl)) fl_X12_276 rfl dX12_isGoal_1 (fun v_1 h => ?_)
  refine lv_iload hx hb dX12_isGoal_4 (lv_at hl 6 rfl) ?_
  refine lv_icmp_eq (tgt := 11) hx hb dX12_isGoal_6 (by decide) (fun hc => ?_) (fun hc => ?_)
  · have h := if_t _ hc h
    refine lv_iconst (v := 0) hx hb dX12_isGoal_11 ic_0 ?_
    refine lv_istore (lv' := [(7, .int (0 : Int32)), (0, .ref (ad 63)), (1, .int a1), (2, .int a2), (3, .int a3), (4, .int a4), (5, .int a5), (6, .int a6)]) hx hb dX12_isGoal_12 hl (Nat.le_of_ble_eq_true rfl) rfl (fun ls hl => ?_)
    have L_14 : ∀ (n_14 : Nat) (x7_14l : Int32), l_X12_isGoal_14 a1 a2 a3 a4 a5 w n_14 x7_14l = some r → GG p l e { frames := 4, cells := 0, slots := 0, locals := 86 } s m args below meth c 0 0 (MQ below (mQz D cT lo NB w w ad r) args s 0 0 (fun q => lo ≤ q)) D cT lo NB 8 ad w 14 [(7, .int x7_14l), (0, .ref (ad 63)), (1, .int a1), (2, .int a2), (3, .int a3), (4, .int a4), (5, .int a5)] [] := by
      intro n_14
      induction n_14 with
      | zero =>
        intro x7_14l h
        exact absurd h (by unfold l_X12_isGoal_14; exact fun z => by cases z)
      | succ n_14 ih_14 =>
        intro x7_14l h H locs ls hP hS hl
        unfold l_X12_isGoal_14 at h
        refine lv_iload hx hb dX12_isGoal_14 (lv_at hl 0 rfl) ?_
        refine lv_iconst (v := 4) hx hb dX12_isGoal_16 ic_4 ?_
        refine lv_icmp_ge (tgt := 88) hx hb dX12_isGoal_17 (by decide) (fun hc => ?_) (fun hc => ?_)
        · have h := if_t _ hc h
          refine lv_iconst (v := 1) hx hb dX12_isGoal_88 ic_1 ?_
          exact y_zretO h F hr hP hS hlk rfl dX12_isGoal_89
        · have h := if_f _ hc h
          refine lv_aload_n hx hb dX12_isGoal_20 rfl (lv_at hl 1 rfl) ?_
          refine lv_iload_n hx hb dX12_isGoal_21 rfl (lv_at hl 2 rfl) ?_
          refine lv_iload hx hb dX12_isGoal_22 (lv_at hl 0 rfl) ?_
          refine lv_aload_n hx hb dX12_isGoal_24 rfl (lv_at hl 1 rfl) ?_
          refine y_geti h F hP k_63 (n2 (hP.al 63 rfl)) fl_X12_270 rfl dX12_isGoal_25 (fun v_25 h => ?_)
          refine lv_aload_n hx hb dX12_isGoal_28 rfl (lv_at hl 1 rfl) ?_
          refine y_geti h F hP k_63 (n2 (hP.al 63 rfl)) fl_X12_276 rfl dX12_isGoal_29 (fun v_29 h => ?_)
          obtain ⟨v_32, hc_32, h⟩ := bo_s h
          refine x_goes (x_runV (As := [.int a1, .int x7_14l, .int v_25, .int v_29]) (rest := []) F hP hS (c_X12_wheelX l D cT lo w ad a1 x7_14l v_25 v_29 v_32 hc_32) cw_X12_wheelX lk_X12_299 vi_X12_wheelX k_63 (n2 (hP.al 63 rfl)) rfl ⟨rfl, rfl, Nat.le_of_ble_eq_true rfl, Nat.le_of_ble_eq_true rfl⟩ hl.1 rfl (Nat.le_of_ble_eq_true rfl) dX12_isGoal_32 ⟨Nat.zero_le _, Nat.zero_le _⟩) hS (fun H locs hP hS _ => ?_)
          refine lv_bipush (v := 65) hx hb dX12_isGoal_35 ib_65 ?_
          refine lv_iload_n hx hb dX12_isGoal_37 rfl (lv_at hl 3 rfl) ?_
          refine lv_imul hx hb dX12_isGoal_38 ?_
          refine lv_bipush (v := 65) hx hb dX12_isGoal_39 ib_65 ?_
          refine lv_iload hx hb dX12_isGoal_41 (lv_at hl 5 rfl) ?_
          refine lv_imul hx hb dX12_isGoal_43 ?_
          refine x_goesZ (x_runS (As := [.int v_32, .int ((65 : Int32) * a2), .int ((65 : Int32) * a4)]) (rest := []) F hP hS (c_X12_in l D cT lo NB w ad v_32 ((65 : Int32) * a2) ((65 : Int32) * a4)) cw_X12_in lk_X12_217 st_X12_in ⟨rfl, rfl, Nat.le_of_ble_eq_true rfl, Nat.le_of_ble_eq_true rfl⟩ hl.1 rfl (Nat.le_of_ble_eq_true rfl) dX12_isGoal_44 ⟨Nat.zero_le _, Nat.zero_le _⟩) hS (fun H locs hz_44 hP hS _ => ?_)
          refine lv_if_eq (tgt := 80) hx hb dX12_isGoal_47 (by decide) (fun hc => ?_) (fun hc => ?_)
          · have h := if_t _ hc h
            refine lv_iconst (v := 0) hx hb dX12_isGoal_80 ic_0 ?_
            exact y_zretO h F hr hP hS hlk rfl dX12_isGoal_81
          · have h := if_f _ hc h
            refine lv_aload_n hx hb dX12_isGoal_50 rfl (lv_at hl 1 rfl) ?_
            refine lv_iload_n hx hb dX12_isGoal_51 rfl (lv_at hl 2 rfl) ?_
            refine lv_iload hx hb dX12_isGoal_52 (lv_at hl 0 rfl) ?_
            refine lv_aload_n hx hb dX12_isGoal_54 rfl (lv_at hl 1 rfl) ?_
            refine y_geti h F hP k_63 (n2 (hP.al 63 rfl)) fl_X12_273 rfl dX12_isGoal_55 (fun v_55 h => ?_)
            refine lv_aload_n hx hb dX12_isGoal_58 rfl (lv_at hl 1 rfl) ?_
            refine y_geti h F hP k_63 (n2 (hP.al 63 rfl)) fl_X12_276 rfl dX12_isGoal_59 (fun v_59 h => ?_)
            obtain ⟨v_62, hc_62, h⟩ := bo_s h
            refine x_goes (x_runV (As := [.int a1, .int x7_14l, .int v_55, .int v_59]) (rest := []) F hP hS (c_X12_wheelY l D cT lo w ad a1 x7_14l v_55 v_59 v_62 hc_62) cw_X12_wheelY lk_X12_303 vi_X12_wheelY k_63 (n2 (hP.al 63 rfl)) rfl ⟨rfl, rfl, Nat.le_of_ble_eq_true rfl, Nat.le_of_ble_eq_true rfl⟩ hl.1 rfl (Nat.le_of_ble_eq_true rfl) dX12_isGoal_62 ⟨Nat.zero_le _, Nat.zero_le _⟩) hS (fun H locs hP hS _ => ?_)
            refine lv_bipush (v := 65) hx hb dX12_isGoal_65 ib_65 ?_
            refine lv_iload_n hx hb dX12_isGoal_67 rfl (lv_at hl 4 rfl) ?_
            refine lv_imul hx hb dX12_isGoal_68 ?_
            refine lv_bipush (v := 65) hx hb dX12_isGoal_69 ib_65 ?_
            refine lv_iload hx hb dX12_isGoal_71 (lv_at hl 6 rfl) ?_
            refine lv_imul hx hb dX12_isGoal_73 ?_
            refine x_goesZ (x_runS (As := [.int v_62, .int ((65 : Int32) * a3), .int ((65 : Int32) * a5)]) (rest := []) F hP hS (c_X12_in l D cT lo NB w ad v_62 ((65 : Int32) * a3) ((65 : Int32) * a5)) cw_X12_in lk_X12_217 st_X12_in ⟨rfl, rfl, Nat.le_of_ble_eq_true rfl, Nat.le_of_ble_eq_true rfl⟩ hl.1 rfl (Nat.le_of_ble_eq_true rfl) dX12_isGoal_74 ⟨Nat.zero_le _, Nat.zero_le _⟩) hS (fun H locs hz_74 hP hS _ => ?_)
            refine lv_if_ne (tgt := 82) hx hb dX12_isGoal_77 (by decide) (fun hc => ?_) (fun hc => ?_)
            · have h := if_f _ hc h
              refine y_iinc (lv' := fun (v_82 : Int32) => [(7, .int v_82), (0, .ref (ad 63)), (1, .int a1), (2, .int a2), (3, .int a3), (4, .int a4), (5, .int a5)]) h F ic_1 dX12_isGoal_82 hl (kq := 0) rfl (Nat.le_of_ble_eq_true rfl) (fun _ => rfl) (fun v_82 ls hl h => ?_)
              refine lv_goto (tgt := 14) hx hb dX12_isGoal_85 (by decide) ?_
              exact ih_14 v_82 h _ _ _ hP hS (lv_sub hl [0, 1, 2, 3, 4, 5, 6] rfl)
            · have h := if_t _ hc h
              refine lv_iconst (v := 0) hx hb dX12_isGoal_80 ic_0 ?_
              exact y_zretO h F hr hP hS hlk rfl dX12_isGoal_81
    exact L_14 FU (0 : Int32) h _ _ _ hP hS (lv_sub hl [0, 1, 2, 3, 4, 5, 6] rfl)
  · have h := if_f _ hc h
    refine lv_iconst (v := 0) hx hb dX12_isGoal_9 ic_0 ?_
    exact y_zretO h F hr hP hS hlk rfl dX12_isGoal_10
def l_X12_tells_24 (j_53 : Wd → Option (Int32 × Wd)) : Nat → Wd → Int32 → Int32 → Option (Int32 × Wd)
  | 0, _, _, _ => none
  | n_24 + 1, w_24l, x2_24l, x1_24l =>
    if x2_24l < 0 then
    j_53 w_24l
    else
    q_ld w_24l 93 1500 x1_24l (fun v_38 =>
    q_st w_24l 96 12 x2_24l v_38 (fun w_39 =>
    q_ld w_39 92 1500 x1_24l (fun v_45 =>
    q_lt (x2_24l + (-1 : Int32)) (fun v_47 =>
    l_X12_tells_24 j_53 n_24 w_39 v_47 v_45))))
def f_X12_tells (w : Wd) : Option (Int32 × Wd) :=
q_gt w 63 34 (fun v_1 =>
q_lt (v_1 - (1 : Int32)) (fun v_6 =>
q_ld w 94 1500 v_6 (fun v_13 =>
q_pt w 63 42 v_13 (fun w_14 =>
q_gt w_14 63 42 (fun v_18 =>
q_lt (v_18 - (1 : Int32)) (fun v_23 =>
q_jn (fun (w_53j : Wd) =>
q_gt w_53j 63 42 (fun v_54 =>
some (v_54, w_53j))) (fun j_53 =>
l_X12_tells_24 j_53 FU w_14 v_23 v_6)))))))
set_option maxRecDepth 100000 in
set_option maxHeartbeats 4000000 in
theorem c_X12_tells (l : Launch) (D : va_G) (cT : Nat → ClassId) (lo : Nat) (w : Wd) (ad : Nat → Nat)  (r : Int32) (w9 : Wd) (h : f_X12_tells w = some (r, w9)) : Met l yX12_tells (.code yX12_tells cX12_tells 3 (some .int) :: TW) { frames := 0, cells := 0, slots := 0, locals := 0 } (mPc D cT lo NB w ad [.ref (ad 63)]) (mQ D cT lo NB w w9 ad (some (.int r))) 0 0 (fun q => lo ≤ q) := by
  unfold f_X12_tells at h
  refine x_met (lv := [(0, .ref (ad 63))]) (by decide +kernel) (Nat.le_of_ble_eq_true rfl) rfl ?_
  intro p e s m args below meth c ls F hr hlk hP hin hl
  have hx := F.1
  have hb := F.2.1
  have hS : va_S (fun q => lo ≤ q) s.heap s.heap [] := va_S.rf
  have hM_w : mono w w := mono.refl
  refine lv_aload_n hx hb dX12_tells_0 rfl (lv_at hl 0 rfl) ?_
  refine y_geti h F hP k_63 (n2 (hP.al 63 rfl)) fl_X12_340 rfl dX12_tells_1 (fun v_1 h => ?_)
  refine lv_iconst (v := 1) hx hb dX12_tells_4 ic_1 ?_
  refine lv_isub hx hb dX12_tells_5 ?_
  refine y_let h (fun v_6 h => ?_)
  refine lv_istore_n (lv' := [(1, .int v_6), (0, .ref (ad 63))]) hx hb dX12_tells_6 rfl hl (Nat.le_of_ble_eq_true rfl) rfl (fun ls hl => ?_)
  refine lv_aload_n hx hb dX12_tells_7 rfl (lv_at hl 1 rfl) ?_
  refine lv_aload_n hx hb dX12_tells_8 rfl (lv_at hl 1 rfl) ?_
  refine x_getr F hP k_63 (hP.al 63 rfl) fl_X12_105 rfl r_63_40 dX12_tells_9 ?_
  refine lv_iload_n hx hb dX12_tells_12 rfl (lv_at hl 0 rfl) ?_
  refine y_iald h F hP k_94 (n2 (hP.al 94 rfl)) dX12_tells_13 (fun v_13 h => ?_)
  refine y_puti h F hP hS k_63 (n2 (hP.al 63 rfl)) fl_X12_343 rfl dX12_tells_14 (fun w_14 H locs hm h hP hS => ?_)
  have hM_w := hm
  refine lv_aload_n hx hb dX12_tells_17 rfl (lv_at hl 1 rfl) ?_
  refine y_geti h F hP k_63 (n2 (hP.al 63 rfl)) fl_X12_343 rfl dX12_tells_18 (fun v_18 h => ?_)
  refine lv_iconst (v := 1) hx hb dX12_tells_21 ic_1 ?_
  refine lv_isub hx hb dX12_tells_22 ?_
  refine y_let h (fun v_23 h => ?_)
  refine lv_istore_n (lv' := [(2, .int v_23), (1, .int v_6), (0, .ref (ad 63))]) hx hb dX12_tells_23 rfl hl (Nat.le_of_ble_eq_true rfl) rfl (fun ls hl => ?_)
  refine jn_use (fun (j_53 : Wd → Option (Int32 × Wd)) => ∀ (w_53j : Wd), mono w_14 w_53j → j_53 w_53j = some (r, w9) → GG p l e { frames := 0, cells := 0, slots := 0, locals := 0 } s m args below meth c 0 0 (MQ below (mQ D cT lo NB w w9 ad (some (.int r))) args s 0 0 (fun q => lo ≤ q)) D cT lo NB 3 ad w_53j 53 [(0, .ref (ad 63))] []) h (fun w_53j hm h H locs ls hP hS hl => ?_) (fun j_53 J_53 h => ?_)
  · have hM_w := hM_w.trans hm
    have hM_w_14 := hm
    refine lv_aload_n hx hb dX12_tells_53 rfl (lv_at hl 0 rfl) ?_
    refine y_geti h F hP k_63 (n2 (hP.al 63 rfl)) fl_X12_343 rfl dX12_tells_54 (fun v_54 h => ?_)
    exact y_iretM h F hr hP hS hM_w hlk dX12_tells_57
  · have L_24 : ∀ (n_24 : Nat) (w_24l : Wd) (x2_24l : Int32) (x1_24l : Int32), mono w_14 w_24l → l_X12_tells_24 j_53 n_24 w_24l x2_24l x1_24l = some (r, w9) → GG p l e { frames := 0, cells := 0, slots := 0, locals := 0 } s m args below meth c 0 0 (MQ below (mQ D cT lo NB w w9 ad (some (.int r))) args s 0 0 (fun q => lo ≤ q)) D cT lo NB 3 ad w_24l 24 [(2, .int x2_24l), (1, .int x1_24l), (0, .ref (ad 63))] [] := by
      intro n_24
      induction n_24 with
      | zero =>
        intro w_24l x2_24l x1_24l _ h
        exact absurd h (by unfold l_X12_tells_24; exact fun z => by cases z)
      | succ n_24 ih_24 =>
        intro w_24l x2_24l x1_24l hm h H locs ls hP hS hl
        unfold l_X12_tells_24 at h
        have hM_w := hM_w.trans hm
        have hM_w_14 := hm
        refine lv_iload_n hx hb dX12_tells_24 rfl (lv_at hl 0 rfl) ?_
        refine lv_if_lt (tgt := 53) hx hb dX12_tells_25 (by decide) (fun hc => ?_) (fun hc => ?_)
        · have h := if_t _ hc h
          exact J_53 w_24l hM_w_14 h _ _ _ hP hS (lv_sub hl [2] rfl)
        · have h := if_f _ hc h
          refine lv_aload_n hx hb dX12_tells_28 rfl (lv_at hl 2 rfl) ?_
          refine x_getr F hP k_63 (hP.al 63 rfl) fl_X12_111 rfl r_63_43 dX12_tells_29 ?_
          refine lv_iload_n hx hb dX12_tells_32 rfl (lv_at hl 0 rfl) ?_
          refine lv_aload_n hx hb dX12_tells_33 rfl (lv_at hl 2 rfl) ?_
          refine x_getr F hP k_63 (hP.al 63 rfl) fl_X12_102 rfl r_63_39 dX12_tells_34 ?_
          refine lv_iload_n hx hb dX12_tells_37 rfl (lv_at hl 1 rfl) ?_
          refine y_iald h F hP k_93 (n2 (hP.al 93 rfl)) dX12_tells_38 (fun v_38 h => ?_)
          refine y_iast h F hP hS k_96 (n2 (hP.al 96 rfl)) dX12_tells_39 (fun w_39 H locs hm h hP hS => ?_)
          have hM_w := hM_w.trans hm
          have hM_w_14 := hM_w_14.trans hm
          refine lv_aload_n hx hb dX12_tells_40 rfl (lv_at hl 2 rfl) ?_
          refine x_getr F hP k_63 (hP.al 63 rfl) fl_X12_99 rfl r_63_38 dX12_tells_41 ?_
          refine lv_iload_n hx hb dX12_tells_44 rfl (lv_at hl 1 rfl) ?_
          refine y_iald h F hP k_92 (n2 (hP.al 92 rfl)) dX12_tells_45 (fun v_45 h => ?_)
          refine lv_istore_n (lv' := [(1, .int v_45), (2, .int x2_24l), (0, .ref (ad 63))]) hx hb dX12_tells_46 rfl hl (Nat.le_of_ble_eq_true rfl) rfl (fun ls hl => ?_)
          refine y_iinc (lv' := fun (v_47 : Int32) => [(2, .int v_47), (1, .int v_45), (0, .ref (ad 63))]) h F ic_m1 dX12_tells_47 hl (kq := 1) rfl (Nat.le_of_ble_eq_true rfl) (fun _ => rfl) (fun v_47 ls hl h => ?_)
          refine lv_goto (tgt := 24) hx hb dX12_tells_50 (by decide) ?_
          exact ih_24 w_39 v_47 v_45 hM_w_14 h _ _ _ hP hS (lv_sub hl [0, 1, 2] rfl)
    exact L_24 FU w_14 v_23 v_6 mono.refl h _ _ _ hP hS (lv_sub hl [0, 1, 2] rfl)
def l_X12_way_169 (a1 : Int32) (a2 : Int32) (a3 : Int32) (a4 : Int32) (a5 : Int32) (a6 : Int32) (j_288 : Wd → Option (Int32 × Wd)) (x7_145l : Int32) (j_299 : Wd → Option (Int32 × Wd)) : Nat → Wd → Int32 → Option (Int32 × Wd)
  | 0, _, _ => none
  | n_169 + 1, w_169l, x8_169l =>
    if (10 : Int32) ≤ x8_169l then
    j_299 w_169l
    else
    q_ld w_169l 89 1500 x7_145l (fun v_184 =>
    q_ld w_169l 90 1500 x7_145l (fun v_191 =>
    q_ld w_169l 91 1500 x7_145l (fun v_198 =>
    q_bo (f_X12_goes w_169l a1 v_184 v_191 v_198 x8_169l) (fun w_201 =>
    q_gt w_201 63 31 (fun v_206 =>
    q_gt w_201 63 32 (fun v_210 =>
    q_gt w_201 63 33 (fun v_214 =>
    q_bo (f_X12_slotOf w_201 v_206 v_210 v_214) (fun v_217 =>
    q_ld w_201 95 4096 v_217 (fun v_228 =>
    q_jn (fun (w_293j : Wd) =>
    q_lt (x8_169l + (1 : Int32)) (fun v_293 =>
    l_X12_way_169 a1 a2 a3 a4 a5 a6 j_288 x7_145l j_299 n_169 w_293j v_293)) (fun j_293 =>
    if v_228 = 0 then
    q_bo (f_X12_meetsNow w_201 a1) (fun v_234 =>
    if v_234 = 0 then
    q_gt w_201 63 34 (fun v_241 =>
    if v_241 = (1500 : Int32) then
    some ((-5 : Int32), w_201)
    else
    q_ld w_201 94 1500 x7_145l (fun v_266 =>
    q_bo (f_X12_counts w_201 v_217 x7_145l x8_169l (v_266 + (1 : Int32))) (fun w_269 =>
    q_bo (f_X12_isGoal w_269 a1 a2 a3 a4 a5 a6) (fun v_282 =>
    if v_282 = 0 then
    j_293 w_269
    else
    j_288 w_269))))
    else
    j_293 w_201)
    else
    j_293 w_201))))))))))
def l_X12_way_145 (a1 : Int32) (a2 : Int32) (a3 : Int32) (a4 : Int32) (a5 : Int32) (a6 : Int32) (j_288 : Wd → Option (Int32 × Wd)) : Nat → Wd → Int32 → Option (Int32 × Wd)
  | 0, _, _ => none
  | n_145 + 1, w_145l, x7_145l =>
    q_gt w_145l 63 34 (fun v_148 =>
    if v_148 ≤ x7_145l then
    some ((-3 : Int32), w_145l)
    else
    q_ld w_145l 94 1500 x7_145l (fun v_160 =>
    if (12 : Int32) ≤ v_160 then
    some ((-3 : Int32), w_145l)
    else
    q_jn (fun (w_299j : Wd) =>
    q_lt (x7_145l + (1 : Int32)) (fun v_299 =>
    l_X12_way_145 a1 a2 a3 a4 a5 a6 j_288 n_145 w_299j v_299)) (fun j_299 =>
    l_X12_way_169 a1 a2 a3 a4 a5 a6 j_288 x7_145l j_299 FU w_145l (0 : Int32))))
def l_X12_way_46 (j_68 : Wd → Option (Int32 × Wd)) : Nat → Wd → Int32 → Option (Int32 × Wd)
  | 0, _, _ => none
  | n_46 + 1, w_46l, x7_46l =>
    if (4096 : Int32) ≤ x7_46l then
    j_68 w_46l
    else
    q_st w_46l 95 4096 x7_46l (0 : Int32) (fun w_61 =>
    q_lt (x7_46l + (1 : Int32)) (fun v_62 =>
    l_X12_way_46 j_68 n_46 w_61 v_62))
def f_X12_way (w : Wd) (a1 : Int32) (a2 : Int32) (a3 : Int32) (a4 : Int32) (a5 : Int32) (a6 : Int32) : Option (Int32 × Wd) :=
if (f_X12_isCar w a1) = 0 then
some ((-2 : Int32), w)
else
if (f_X12_isBox a2 a3 a4 a5) = 0 then
some ((-2 : Int32), w)
else
if (f_X12_isHeading a6) = 0 then
some ((-2 : Int32), w)
else
q_ld w 84 4 a1 (fun v_36 =>
if v_36 = 0 then
some ((-3 : Int32), w)
else
q_jn (fun (w_68j : Wd) =>
q_pt w_68j 63 34 (0 : Int32) (fun w_70 =>
q_ld w_70 85 4 a1 (fun v_80 =>
q_ld w_70 86 4 a1 (fun v_86 =>
q_ld w_70 87 4 a1 (fun v_92 =>
q_bo (f_X12_goes w_70 a1 v_80 v_86 v_92 (10 : Int32)) (fun w_95 =>
q_gt w_95 63 31 (fun v_101 =>
q_gt w_95 63 32 (fun v_105 =>
q_gt w_95 63 33 (fun v_109 =>
q_bo (f_X12_slotOf w_95 v_101 v_105 v_109) (fun v_112 =>
q_bo (f_X12_counts w_95 v_112 (0 : Int32) (0 : Int32) (0 : Int32)) (fun w_118 =>
q_bo (f_X12_isGoal w_118 a1 a2 a3 a4 a5 a6) (fun v_131 =>
if v_131 = 0 then
q_jn (fun (w_288j : Wd) =>
q_bi (f_X12_tells w_288j) (fun v_289 w_289 =>
some (v_289, w_289))) (fun j_288 =>
l_X12_way_145 a1 a2 a3 a4 a5 a6 j_288 FU w_118 (0 : Int32))
else
q_bi (f_X12_tells w_118) (fun v_138 w_138 =>
some (v_138, w_138)))))))))))))) (fun j_68 =>
l_X12_way_46 j_68 FU w (0 : Int32)))
set_option maxRecDepth 100000 in
set_option maxHeartbeats 4000000 in
theorem c_X12_way (l : Launch) (D : va_G) (cT : Nat → ClassId) (lo : Nat) (w : Wd) (ad : Nat → Nat) (a1 : Int32) (a2 : Int32) (a3 : Int32) (a4 : Int32) (a5 : Int32) (a6 : Int32) (r : Int32) (w9 : Wd) (h : f_X12_way w a1 a2 a3 a4 a5 a6 = some (r, w9)) : Met l yX12_way (.code yX12_way cX12_way 10 (some .int) :: TW) { frames := 8, cells := 0, slots := 0, locals := 199 } (mPc D cT lo NB w ad [.ref (ad 63), .int a1, .int a2, .int a3, .int a4, .int a5, .int a6]) (mQ D cT lo NB w w9 ad (some (.int r))) 0 0 (fun q => lo ≤ q) := by
  unfold f_X12_way at h
  refine x_met (lv := [(0, .ref (ad 63)), (1, .int a1), (2, .int a2), (3, .int a3), (4, .int a4), (5, .int a5), (6, .int a6)]) (by decide +kernel) (Nat.le_of_ble_eq_true rfl) rfl ?_
  intro p e s m args below meth c ls F hr hlk hP hin hl
  have hx := F.1
  have hb := F.2.1
  have hS : va_S (fun q => lo ≤ q) s.heap s.heap [] := va_S.rf
  have hM_w : mono w w := mono.refl
  refine lv_aload_n hx hb dX12_way_0 rfl (lv_at hl 0 rfl) ?_
  refine lv_iload_n hx hb dX12_way_1 rfl (lv_at hl 1 rfl) ?_
  refine x_goesZ (x_runV (As := [.int a1]) (rest := []) F hP hS (c_X12_isCar l D cT lo w ad a1) cw_X12_isCar lk_X12_257 vi_X12_isCar k_63 (n2 (hP.al 63 rfl)) rfl ⟨rfl, rfl, Nat.le_of_ble_eq_true rfl, Nat.le_of_ble_eq_true rfl⟩ hl.1 rfl (Nat.le_of_ble_eq_true rfl) dX12_way_2 ⟨Nat.zero_le _, Nat.zero_le _⟩) hS (fun H locs hz_2 hP hS _ => ?_)
  refine lv_if_eq (tgt := 28) hx hb dX12_way_5 (by decide) (fun hc => ?_) (fun hc => ?_)
  · have h := if_t _ hc h
    refine lv_bipush (v := -2) hx hb dX12_way_28 ib_m2 ?_
    exact y_iretM h F hr hP hS mono.refl hlk dX12_way_30
  · have h := if_f _ hc h
    refine lv_iload_n hx hb dX12_way_8 rfl (lv_at hl 2 rfl) ?_
    refine lv_iload_n hx hb dX12_way_9 rfl (lv_at hl 3 rfl) ?_
    refine lv_iload hx hb dX12_way_10 (lv_at hl 4 rfl) ?_
    refine lv_iload hx hb dX12_way_12 (lv_at hl 5 rfl) ?_
    refine x_goesZ (x_runS (As := [.int a2, .int a3, .int a4, .int a5]) (rest := []) F hP hS (c_X12_isBox l D cT lo NB w ad a2 a3 a4 a5) cw_X12_isBox lk_X12_228 st_X12_isBox ⟨rfl, rfl, Nat.le_of_ble_eq_true rfl, Nat.le_of_ble_eq_true rfl⟩ hl.1 rfl (Nat.le_of_ble_eq_true rfl) dX12_way_14 ⟨Nat.zero_le _, Nat.zero_le _⟩) hS (fun H locs hz_14 hP hS _ => ?_)
    refine lv_if_eq (tgt := 28) hx hb dX12_way_17 (by decide) (fun hc => ?_) (fun hc => ?_)
    · have h := if_t _ hc h
      refine lv_bipush (v := -2) hx hb dX12_way_28 ib_m2 ?_
      exact y_iretM h F hr hP hS mono.refl hlk dX12_way_30
    · have h := if_f _ hc h
      refine lv_iload hx hb dX12_way_20 (lv_at hl 6 rfl) ?_
      refine x_goesZ (x_runS (As := [.int a6]) (rest := []) F hP hS (c_X12_isHeading l D cT lo NB w ad a6) cw_X12_isHeading lk_X12_221 st_X12_isHeading ⟨rfl, rfl, Nat.le_of_ble_eq_true rfl, Nat.le_of_ble_eq_true rfl⟩ hl.1 rfl (Nat.le_of_ble_eq_true rfl) dX12_way_22 ⟨Nat.zero_le _, Nat.zero_le _⟩) hS (fun H locs hz_22 hP hS _ => ?_)
      refine lv_if_ne (tgt := 31) hx hb dX12_way_25 (by decide) (fun hc => ?_) (fun hc => ?_)
      · have h := if_f _ hc h
        refine lv_aload_n hx hb dX12_way_31 rfl (lv_at hl 0 rfl) ?_
        refine x_getr F hP k_63 (hP.al 63 rfl) fl_X12_71 rfl r_63_25 dX12_way_32 ?_
        refine lv_iload_n hx hb dX12_way_35 rfl (lv_at hl 1 rfl) ?_
        refine y_zald h F hP k_84 (n2 (hP.al 84 rfl)) dX12_way_36 (fun v_36 h => ?_)
        refine lv_if_ne (tgt := 43) hx hb dX12_way_37 (by decide) (fun hc => ?_) (fun hc => ?_)
        · have h := if_f _ hc h
          refine lv_iconst (v := 0) hx hb dX12_way_43 ic_0 ?_
          refine lv_istore (lv' := [(7, .int (0 : Int32)), (0, .ref (ad 63)), (1, .int a1), (2, .int a2), (3, .int a3), (4, .int a4), (5, .int a5), (6, .int a6)]) hx hb dX12_way_44 hl (Nat.le_of_ble_eq_true rfl) rfl (fun ls hl => ?_)
          refine jn_use (fun (j_68 : Wd → Option (Int32 × Wd)) => ∀ (w_68j : Wd), mono w w_68j → j_68 w_68j = some (r, w9) → GG p l e { frames := 8, cells := 0, slots := 0, locals := 199 } s m args below meth c 0 0 (MQ below (mQ D cT lo NB w w9 ad (some (.int r))) args s 0 0 (fun q => lo ≤ q)) D cT lo NB 10 ad w_68j 68 [(0, .ref (ad 63)), (1, .int a1), (2, .int a2), (3, .int a3), (4, .int a4), (5, .int a5), (6, .int a6)] []) h (fun w_68j hm h H locs ls hP hS hl => ?_) (fun j_68 J_68 h => ?_)
          · have hM_w := hm
            refine lv_aload_n hx hb dX12_way_68 rfl (lv_at hl 0 rfl) ?_
            refine lv_iconst (v := 0) hx hb dX12_way_69 ic_0 ?_
            refine y_puti h F hP hS k_63 (n2 (hP.al 63 rfl)) fl_X12_340 rfl dX12_way_70 (fun w_70 H locs hm h hP hS => ?_)
            have hM_w := hM_w.trans hm
            refine lv_aload_n hx hb dX12_way_73 rfl (lv_at hl 0 rfl) ?_
            refine lv_iload_n hx hb dX12_way_74 rfl (lv_at hl 1 rfl) ?_
            refine lv_aload_n hx hb dX12_way_75 rfl (lv_at hl 0 rfl) ?_
            refine x_getr F hP k_63 (hP.al 63 rfl) fl_X12_74 rfl r_63_26 dX12_way_76 ?_
            refine lv_iload_n hx hb dX12_way_79 rfl (lv_at hl 1 rfl) ?_
            refine y_iald h F hP k_85 (n2 (hP.al 85 rfl)) dX12_way_80 (fun v_80 h => ?_)
            refine lv_aload_n hx hb dX12_way_81 rfl (lv_at hl 0 rfl) ?_
            refine x_getr F hP k_63 (hP.al 63 rfl) fl_X12_77 rfl r_63_27 dX12_way_82 ?_
            refine lv_iload_n hx hb dX12_way_85 rfl (lv_at hl 1 rfl) ?_
            refine y_iald h F hP k_86 (n2 (hP.al 86 rfl)) dX12_way_86 (fun v_86 h => ?_)
            refine lv_aload_n hx hb dX12_way_87 rfl (lv_at hl 0 rfl) ?_
            refine x_getr F hP k_63 (hP.al 63 rfl) fl_X12_80 rfl r_63_28 dX12_way_88 ?_
            refine lv_iload_n hx hb dX12_way_91 rfl (lv_at hl 1 rfl) ?_
            refine y_iald h F hP k_87 (n2 (hP.al 87 rfl)) dX12_way_92 (fun v_92 h => ?_)
            refine lv_bipush (v := 10) hx hb dX12_way_93 ib_10 ?_
            obtain ⟨w_95, hc_95, h⟩ := bo_s h
            refine x_goes (x_runV (As := [.int a1, .int v_80, .int v_86, .int v_92, .int (10 : Int32)]) (rest := []) F hP hS (c_X12_goes l D cT lo w_70 ad a1 v_80 v_86 v_92 (10 : Int32) w_95 hc_95) cw_X12_goes lk_X12_333 vi_X12_goes k_63 (n2 (hP.al 63 rfl)) rfl ⟨rfl, rfl, Nat.le_of_ble_eq_true rfl, Nat.le_of_ble_eq_true rfl⟩ hl.1 rfl (Nat.le_of_ble_eq_true rfl) dX12_way_95 ⟨Nat.zero_le _, Nat.zero_le _⟩) hS (fun H locs hP hS hm => ?_)
            have hM_w := hM_w.trans hm
            refine lv_aload_n hx hb dX12_way_98 rfl (lv_at hl 0 rfl) ?_
            refine lv_aload_n hx hb dX12_way_99 rfl (lv_at hl 0 rfl) ?_
            refine lv_aload_n hx hb dX12_way_100 rfl (lv_at hl 0 rfl) ?_
            refine y_geti h F hP k_63 (n2 (hP.al 63 rfl)) fl_X12_270 rfl dX12_way_101 (fun v_101 h => ?_)
            refine lv_aload_n hx hb dX12_way_104 rfl (lv_at hl 0 rfl) ?_
            refine y_geti h F hP k_63 (n2 (hP.al 63 rfl)) fl_X12_273 rfl dX12_way_105 (fun v_105 h => ?_)
            refine lv_aload_n hx hb dX12_way_108 rfl (lv_at hl 0 rfl) ?_
            refine y_geti h F hP k_63 (n2 (hP.al 63 rfl)) fl_X12_276 rfl dX12_way_109 (fun v_109 h => ?_)
            obtain ⟨v_112, hc_112, h⟩ := bo_s h
            refine x_goes (x_runV (As := [.int v_101, .int v_105, .int v_109]) (rest := [.ref (ad 63)]) F hP hS (c_X12_slotOf l D cT lo w_95 ad v_101 v_105 v_109 v_112 hc_112) cw_X12_slotOf lk_X12_346 vi_X12_slotOf k_63 (n2 (hP.al 63 rfl)) rfl ⟨rfl, rfl, Nat.le_of_ble_eq_true rfl, Nat.le_of_ble_eq_true rfl⟩ hl.1 rfl (Nat.le_of_ble_eq_true rfl) dX12_way_112 ⟨Nat.zero_le _, Nat.zero_le _⟩) hS (fun H locs hP hS _ => ?_)
            refine lv_iconst (v := 0) hx hb dX12_way_115 ic_0 ?_
            refine lv_iconst (v := 0) hx hb dX12_way_116 ic_0 ?_
            refine lv_iconst (v := 0) hx hb dX12_way_117 ic_0 ?_
            obtain ⟨w_118, hc_118, h⟩ := bo_s h
            refine x_goes (x_runV (As := [.int v_112, .int (0 : Int32), .int (0 : Int32), .int (0 : Int32)]) (rest := []) F hP hS (c_X12_counts l D cT lo w_95 ad v_112 (0 : Int32) (0 : Int32) (0 : Int32) w_118 hc_118) cw_X12_counts lk_X12_350 vi_X12_counts k_63 (n2 (hP.al 63 rfl)) rfl ⟨rfl, rfl, Nat.le_of_ble_eq_true rfl, Nat.le_of_ble_eq_true rfl⟩ hl.1 rfl (Nat.le_of_ble_eq_true rfl) dX12_way_118 ⟨Nat.zero_le _, Nat.zero_le _⟩) hS (fun H locs hP hS hm => ?_)
            have hM_w := hM_w.trans hm
            refine lv_aload_n hx hb dX12_way_121 rfl (lv_at hl 0 rfl) ?_
            refine lv_iload_n hx hb dX12_way_122 rfl (lv_at hl 1 rfl) ?_
            refine lv_iload_n hx hb dX12_way_123 rfl (lv_at hl 2 rfl) ?_
            refine lv_iload_n hx hb dX12_way_124 rfl (lv_at hl 3 rfl) ?_
            refine lv_iload hx hb dX12_way_125 (lv_at hl 4 rfl) ?_
            refine lv_iload hx hb dX12_way_127 (lv_at hl 5 rfl) ?_
            refine lv_iload hx hb dX12_way_129 (lv_at hl 6 rfl) ?_
            obtain ⟨v_131, hc_131, h⟩ := bo_s h
            refine x_goesZ (x_runV (As := [.int a1, .int a2, .int a3, .int a4, .int a5, .int a6]) (rest := []) F hP hS (c_X12_isGoal l D cT lo w_118 ad a1 a2 a3 a4 a5 a6 v_131 hc_131) cw_X12_isGoal lk_X12_354 vi_X12_isGoal k_63 (n2 (hP.al 63 rfl)) rfl ⟨rfl, rfl, Nat.le_of_ble_eq_true rfl, Nat.le_of_ble_eq_true rfl⟩ hl.1 rfl (Nat.le_of_ble_eq_true rfl) dX12_way_131 ⟨Nat.zero_le _, Nat.zero_le _⟩) hS (fun H locs hz_131 hP hS _ => ?_)
            refine lv_if_eq (tgt := 142) hx hb dX12_way_134 (by decide) (fun hc => ?_) (fun hc => ?_)
            · have h := if_t _ hc h
              refine lv_iconst (v := 0) hx hb dX12_way_142 ic_0 ?_
              refine lv_istore (lv' := [(7, .int (0 : Int32)), (0, .ref (ad 63)), (1, .int a1), (2, .int a2), (3, .int a3), (4, .int a4), (5, .int a5), (6, .int a6)]) hx hb dX12_way_143 hl (Nat.le_of_ble_eq_true rfl) rfl (fun ls hl => ?_)
              refine jn_use (fun (j_288 : Wd → Option (Int32 × Wd)) => ∀ (w_288j : Wd), mono w_118 w_288j → j_288 w_288j = some (r, w9) → GG p l e { frames := 8, cells := 0, slots := 0, locals := 199 } s m args below meth c 0 0 (MQ below (mQ D cT lo NB w w9 ad (some (.int r))) args s 0 0 (fun q => lo ≤ q)) D cT lo NB 10 ad w_288j 288 [(0, .ref (ad 63))] []) h (fun w_288j hm h H locs ls hP hS hl => ?_) (fun j_288 J_288 h => ?_)
              · have hM_w := hM_w.trans hm
                have hM_w_118 := hm
                refine lv_aload_n hx hb dX12_way_288 rfl (lv_at hl 0 rfl) ?_
                obtain ⟨v_289, w_289, hc_289, h⟩ := bi_s h
                refine x_goes (x_runV (As := []) (rest := []) F hP hS (c_X12_tells l D cT lo w_288j ad  v_289 w_289 hc_289) cw_X12_tells lk_X12_358 vi_X12_tells k_63 (n2 (hP.al 63 rfl)) rfl ⟨rfl, rfl, Nat.le_of_ble_eq_true rfl, Nat.le_of_ble_eq_true rfl⟩ hl.1 rfl (Nat.le_of_ble_eq_true rfl) dX12_way_289 ⟨Nat.zero_le _, Nat.zero_le _⟩) hS (fun H locs hP hS hm => ?_)
                have hM_w := hM_w.trans hm
                have hM_w_118 := hM_w_118.trans hm
                exact y_iretM h F hr hP hS hM_w hlk dX12_way_292
              · have L_145 : ∀ (n_145 : Nat) (w_145l : Wd) (x7_145l : Int32), mono w_118 w_145l → l_X12_way_145 a1 a2 a3 a4 a5 a6 j_288 n_145 w_145l x7_145l = some (r, w9) → GG p l e { frames := 8, cells := 0, slots := 0, locals := 199 } s m args below meth c 0 0 (MQ below (mQ D cT lo NB w w9 ad (some (.int r))) args s 0 0 (fun q => lo ≤ q)) D cT lo NB 10 ad w_145l 145 [(7, .int x7_145l), (0, .ref (ad 63)), (1, .int a1), (2, .int a2), (3, .int a3), (4, .int a4), (5, .int a5), (6, .int a6)] [] := by
                  intro n_145
                  induction n_145 with
                  | zero =>
                    intro w_145l x7_145l _ h
                    exact absurd h (by unfold l_X12_way_145; exact fun z => by cases z)
                  | succ n_145 ih_145 =>
                    intro w_145l x7_145l hm h H locs ls hP hS hl
                    unfold l_X12_way_145 at h
                    have hM_w := hM_w.trans hm
                    have hM_w_118 := hm
                    refine lv_iload hx hb dX12_way_145 (lv_at hl 0 rfl) ?_
                    refine lv_aload_n hx hb dX12_way_147 rfl (lv_at hl 1 rfl) ?_
                    refine y_geti h F hP k_63 (n2 (hP.al 63 rfl)) fl_X12_340 rfl dX12_way_148 (fun v_148 h => ?_)
                    refine lv_icmp_ge (tgt := 305) hx hb dX12_way_151 (by decide) (fun hc => ?_) (fun hc => ?_)
                    · have h := if_t _ hc h
                      refine lv_bipush (v := -3) hx hb dX12_way_305 ib_m3 ?_
                      exact y_iretM h F hr hP hS hM_w hlk dX12_way_307
                    · have h := if_f _ hc h
                      refine lv_aload_n hx hb dX12_way_154 rfl (lv_at hl 1 rfl) ?_
                      refine x_getr F hP k_63 (hP.al 63 rfl) fl_X12_105 rfl r_63_40 dX12_way_155 ?_
                      refine lv_iload hx hb dX12_way_158 (lv_at hl 0 rfl) ?_
                      refine y_iald h F hP k_94 (n2 (hP.al 94 rfl)) dX12_way_160 (fun v_160 h => ?_)
                      refine lv_bipush (v := 12) hx hb dX12_way_161 ib_12 ?_
                      refine lv_icmp_ge (tgt := 305) hx hb dX12_way_163 (by decide) (fun hc => ?_) (fun hc => ?_)
                      · have h := if_t _ hc h
                        refine lv_bipush (v := -3) hx hb dX12_way_305 ib_m3 ?_
                        exact y_iretM h F hr hP hS hM_w hlk dX12_way_307
                      · have h := if_f _ hc h
                        refine lv_iconst (v := 0) hx hb dX12_way_166 ic_0 ?_
                        refine lv_istore (lv' := [(8, .int (0 : Int32)), (7, .int x7_145l), (0, .ref (ad 63)), (1, .int a1), (2, .int a2), (3, .int a3), (4, .int a4), (5, .int a5), (6, .int a6)]) hx hb dX12_way_167 hl (Nat.le_of_ble_eq_true rfl) rfl (fun ls hl => ?_)
                        refine jn_use (fun (j_299 : Wd → Option (Int32 × Wd)) => ∀ (w_299j : Wd), mono w_145l w_299j → j_299 w_299j = some (r, w9) → GG p l e { frames := 8, cells := 0, slots := 0, locals := 199 } s m args below meth c 0 0 (MQ below (mQ D cT lo NB w w9 ad (some (.int r))) args s 0 0 (fun q => lo ≤ q)) D cT lo NB 10 ad w_299j 299 [(7, .int x7_145l), (0, .ref (ad 63)), (1, .int a1), (2, .int a2), (3, .int a3), (4, .int a4), (5, .int a5), (6, .int a6)] []) h (fun w_299j hm h H locs ls hP hS hl => ?_) (fun j_299 J_299 h => ?_)
                        · have hM_w := hM_w.trans hm
                          have hM_w_118 := hM_w_118.trans hm
                          have hM_w_145l := hm
                          refine y_iinc (lv' := fun (v_299 : Int32) => [(7, .int v_299), (0, .ref (ad 63)), (1, .int a1), (2, .int a2), (3, .int a3), (4, .int a4), (5, .int a5), (6, .int a6)]) h F ic_1 dX12_way_299 hl (kq := 0) rfl (Nat.le_of_ble_eq_true rfl) (fun _ => rfl) (fun v_299 ls hl h => ?_)
                          refine lv_goto (tgt := 145) hx hb dX12_way_302 (by decide) ?_
                          exact ih_145 w_299j v_299 hM_w_118 h _ _ _ hP hS (lv_sub hl [0, 1, 2, 3, 4, 5, 6, 7] rfl)
                        · have L_169 : ∀ (n_169 : Nat) (w_169l : Wd) (x8_169l : Int32), mono w_145l w_169l → l_X12_way_169 a1 a2 a3 a4 a5 a6 j_288 x7_145l j_299 n_169 w_169l x8_169l = some (r, w9) → GG p l e { frames := 8, cells := 0, slots := 0, locals := 199 } s m args below meth c 0 0 (MQ below (mQ D cT lo NB w w9 ad (some (.int r))) args s 0 0 (fun q => lo ≤ q)) D cT lo NB 10 ad w_169l 169 [(8, .int x8_169l), (7, .int x7_145l), (0, .ref (ad 63)), (1, .int a1), (2, .int a2), (3, .int a3), (4, .int a4), (5, .int a5), (6, .int a6)] [] := by
                            intro n_169
                            induction n_169 with
                            | zero =>
                              intro w_169l x8_169l _ h
                              exact absurd h (by unfold l_X12_way_169; exact fun z => by cases z)
                            | succ n_169 ih_169 =>
                              intro w_169l x8_169l hm h H locs ls hP hS hl
                              unfold l_X12_way_169 at h
                              have hM_w := hM_w.trans hm
                              have hM_w_118 := hM_w_118.trans hm
                              have hM_w_145l := hm
                              refine lv_iload hx hb dX12_way_169 (lv_at hl 0 rfl) ?_
                              refine lv_bipush (v := 10) hx hb dX12_way_171 ib_10 ?_
                              refine lv_icmp_ge (tgt := 299) hx hb dX12_way_173 (by decide) (fun hc => ?_) (fun hc => ?_)
                              · have h := if_t _ hc h
                                exact J_299 w_169l hM_w_145l h _ _ _ hP hS (lv_sub hl [1, 2, 3, 4, 5, 6, 7, 8] rfl)
                              · have h := if_f _ hc h
                                refine lv_aload_n hx hb dX12_way_176 rfl (lv_at hl 2 rfl) ?_
                                refine lv_iload_n hx hb dX12_way_177 rfl (lv_at hl 3 rfl) ?_
                                refine lv_aload_n hx hb dX12_way_178 rfl (lv_at hl 2 rfl) ?_
                                refine x_getr F hP k_63 (hP.al 63 rfl) fl_X12_90 rfl r_63_35 dX12_way_179 ?_
                                refine lv_iload hx hb dX12_way_182 (lv_at hl 1 rfl) ?_
                                refine y_iald h F hP k_89 (n2 (hP.al 89 rfl)) dX12_way_184 (fun v_184 h => ?_)
                                refine lv_aload_n hx hb dX12_way_185 rfl (lv_at hl 2 rfl) ?_
                                refine x_getr F hP k_63 (hP.al 63 rfl) fl_X12_93 rfl r_63_36 dX12_way_186 ?_
                                refine lv_iload hx hb dX12_way_189 (lv_at hl 1 rfl) ?_
                                refine y_iald h F hP k_90 (n2 (hP.al 90 rfl)) dX12_way_191 (fun v_191 h => ?_)
                                refine lv_aload_n hx hb dX12_way_192 rfl (lv_at hl 2 rfl) ?_
                                refine x_getr F hP k_63 (hP.al 63 rfl) fl_X12_96 rfl r_63_37 dX12_way_193 ?_
                                refine lv_iload hx hb dX12_way_196 (lv_at hl 1 rfl) ?_
                                refine y_iald h F hP k_91 (n2 (hP.al 91 rfl)) dX12_way_198 (fun v_198 h => ?_)
                                refine lv_iload hx hb dX12_way_199 (lv_at hl 0 rfl) ?_
                                obtain ⟨w_201, hc_201, h⟩ := bo_s h
                                refine x_goes (x_runV (As := [.int a1, .int v_184, .int v_191, .int v_198, .int x8_169l]) (rest := []) F hP hS (c_X12_goes l D cT lo w_169l ad a1 v_184 v_191 v_198 x8_169l w_201 hc_201) cw_X12_goes lk_X12_333 vi_X12_goes k_63 (n2 (hP.al 63 rfl)) rfl ⟨rfl, rfl, Nat.le_of_ble_eq_true rfl, Nat.le_of_ble_eq_true rfl⟩ hl.1 rfl (Nat.le_of_ble_eq_true rfl) dX12_way_201 ⟨Nat.zero_le _, Nat.zero_le _⟩) hS (fun H locs hP hS hm => ?_)
                                have hM_w := hM_w.trans hm
                                have hM_w_118 := hM_w_118.trans hm
                                have hM_w_145l := hM_w_145l.trans hm
                                refine lv_aload_n hx hb dX12_way_204 rfl (lv_at hl 2 rfl) ?_
                                refine lv_aload_n hx hb dX12_way_205 rfl (lv_at hl 2 rfl) ?_
                                refine y_geti h F hP k_63 (n2 (hP.al 63 rfl)) fl_X12_270 rfl dX12_way_206 (fun v_206 h => ?_)
                                refine lv_aload_n hx hb dX12_way_209 rfl (lv_at hl 2 rfl) ?_
                                refine y_geti h F hP k_63 (n2 (hP.al 63 rfl)) fl_X12_273 rfl dX12_way_210 (fun v_210 h => ?_)
                                refine lv_aload_n hx hb dX12_way_213 rfl (lv_at hl 2 rfl) ?_
                                refine y_geti h F hP k_63 (n2 (hP.al 63 rfl)) fl_X12_276 rfl dX12_way_214 (fun v_214 h => ?_)
                                obtain ⟨v_217, hc_217, h⟩ := bo_s h
                                refine x_goes (x_runV (As := [.int v_206, .int v_210, .int v_214]) (rest := []) F hP hS (c_X12_slotOf l D cT lo w_201 ad v_206 v_210 v_214 v_217 hc_217) cw_X12_slotOf lk_X12_346 vi_X12_slotOf k_63 (n2 (hP.al 63 rfl)) rfl ⟨rfl, rfl, Nat.le_of_ble_eq_true rfl, Nat.le_of_ble_eq_true rfl⟩ hl.1 rfl (Nat.le_of_ble_eq_true rfl) dX12_way_217 ⟨Nat.zero_le _, Nat.zero_le _⟩) hS (fun H locs hP hS _ => ?_)
                                refine lv_istore (lv' := [(9, .int v_217), (8, .int x8_169l), (7, .int x7_145l), (0, .ref (ad 63)), (1, .int a1), (2, .int a2), (3, .int a3), (4, .int a4), (5, .int a5), (6, .int a6)]) hx hb dX12_way_220 hl (Nat.le_of_ble_eq_true rfl) rfl (fun ls hl => ?_)
                                refine lv_aload_n hx hb dX12_way_222 rfl (lv_at hl 3 rfl) ?_
                                refine x_getr F hP k_63 (hP.al 63 rfl) fl_X12_108 rfl r_63_41 dX12_way_223 ?_
                                refine lv_iload hx hb dX12_way_226 (lv_at hl 0 rfl) ?_
                                refine y_iald h F hP k_95 (n2 (hP.al 95 rfl)) dX12_way_228 (fun v_228 h => ?_)
                                refine jn_use (fun (j_293 : Wd → Option (Int32 × Wd)) => ∀ (w_293j : Wd), mono w_201 w_293j → j_293 w_293j = some (r, w9) → GG p l e { frames := 8, cells := 0, slots := 0, locals := 199 } s m args below meth c 0 0 (MQ below (mQ D cT lo NB w w9 ad (some (.int r))) args s 0 0 (fun q => lo ≤ q)) D cT lo NB 10 ad w_293j 293 [(8, .int x8_169l), (7, .int x7_145l), (0, .ref (ad 63)), (1, .int a1), (2, .int a2), (3, .int a3), (4, .int a4), (5, .int a5), (6, .int a6)] []) h (fun w_293j hm h H locs ls hP hS hl => ?_) (fun j_293 J_293 h => ?_)
                                · have hM_w := hM_w.trans hm
                                  have hM_w_118 := hM_w_118.trans hm
                                  have hM_w_145l := hM_w_145l.trans hm
                                  have hM_w_201 := hm
                                  refine y_iinc (lv' := fun (v_293 : Int32) => [(8, .int v_293), (7, .int x7_145l), (0, .ref (ad 63)), (1, .int a1), (2, .int a2), (3, .int a3), (4, .int a4), (5, .int a5), (6, .int a6)]) h F ic_1 dX12_way_293 hl (kq := 0) rfl (Nat.le_of_ble_eq_true rfl) (fun _ => rfl) (fun v_293 ls hl h => ?_)
                                  refine lv_goto (tgt := 169) hx hb dX12_way_296 (by decide) ?_
                                  exact ih_169 w_293j v_293 hM_w_145l h _ _ _ hP hS (lv_sub hl [0, 1, 2, 3, 4, 5, 6, 7, 8] rfl)
                                · refine lv_if_ne (tgt := 293) hx hb dX12_way_229 (by decide) (fun hc => ?_) (fun hc => ?_)
                                  · have h := if_f _ hc h
                                    exact J_293 w_201 mono.refl h _ _ _ hP hS (lv_sub hl [1, 2, 3, 4, 5, 6, 7, 8, 9] rfl)
                                  · have h := if_t _ hc h
                                    refine lv_aload_n hx hb dX12_way_232 rfl (lv_at hl 3 rfl) ?_
                                    refine lv_iload_n hx hb dX12_way_233 rfl (lv_at hl 4 rfl) ?_
                                    obtain ⟨v_234, hc_234, h⟩ := bo_s h
                                    refine x_goes (x_runV (As := [.int a1]) (rest := []) F hP hS (c_X12_meetsNow l D cT lo w_201 ad a1 v_234 hc_234) cw_X12_meetsNow lk_X12_322 vi_X12_meetsNow k_63 (n2 (hP.al 63 rfl)) rfl ⟨rfl, rfl, Nat.le_of_ble_eq_true rfl, Nat.le_of_ble_eq_true rfl⟩ hl.1 rfl (Nat.le_of_ble_eq_true rfl) dX12_way_234 ⟨Nat.zero_le _, Nat.zero_le _⟩) hS (fun H locs hP hS _ => ?_)
                                    refine lv_if_ne (tgt := 293) hx hb dX12_way_237 (by decide) (fun hc => ?_) (fun hc => ?_)
                                    · have h := if_f _ hc h
                                      exact J_293 w_201 mono.refl h _ _ _ hP hS (lv_sub hl [1, 2, 3, 4, 5, 6, 7, 8, 9] rfl)
                                    · have h := if_t _ hc h
                                      refine lv_aload_n hx hb dX12_way_240 rfl (lv_at hl 3 rfl) ?_
                                      refine y_geti h F hP k_63 (n2 (hP.al 63 rfl)) fl_X12_340 rfl dX12_way_241 (fun v_241 h => ?_)
                                      refine lv_sipush (v := 1500) hx hb dX12_way_244 is_1500 ?_
                                      refine lv_icmp_ne (tgt := 253) hx hb dX12_way_247 (by decide) (fun hc => ?_) (fun hc => ?_)
                                      · have h := if_f _ hc h
                                        refine lv_aload_n hx hb dX12_way_253 rfl (lv_at hl 3 rfl) ?_
                                        refine lv_iload hx hb dX12_way_254 (lv_at hl 0 rfl) ?_
                                        refine lv_iload hx hb dX12_way_256 (lv_at hl 2 rfl) ?_
                                        refine lv_iload hx hb dX12_way_258 (lv_at hl 1 rfl) ?_
                                        refine lv_aload_n hx hb dX12_way_260 rfl (lv_at hl 3 rfl) ?_
                                        refine x_getr F hP k_63 (hP.al 63 rfl) fl_X12_105 rfl r_63_40 dX12_way_261 ?_
                                        refine lv_iload hx hb dX12_way_264 (lv_at hl 2 rfl) ?_
                                        refine y_iald h F hP k_94 (n2 (hP.al 94 rfl)) dX12_way_266 (fun v_266 h => ?_)
                                        refine lv_iconst (v := 1) hx hb dX12_way_267 ic_1 ?_
                                        refine lv_iadd hx hb dX12_way_268 ?_
                                        obtain ⟨w_269, hc_269, h⟩ := bo_s h
                                        refine x_goes (x_runV (As := [.int v_217, .int x7_145l, .int x8_169l, .int (v_266 + (1 : Int32))]) (rest := []) F hP hS (c_X12_counts l D cT lo w_201 ad v_217 x7_145l x8_169l (v_266 + (1 : Int32)) w_269 hc_269) cw_X12_counts lk_X12_350 vi_X12_counts k_63 (n2 (hP.al 63 rfl)) rfl ⟨rfl, rfl, Nat.le_of_ble_eq_true rfl, Nat.le_of_ble_eq_true rfl⟩ hl.1 rfl (Nat.le_of_ble_eq_true rfl) dX12_way_269 ⟨Nat.zero_le _, Nat.zero_le _⟩) hS (fun H locs hP hS hm => ?_)
                                        have hM_w := hM_w.trans hm
                                        have hM_w_118 := hM_w_118.trans hm
                                        have hM_w_145l := hM_w_145l.trans hm
                                        have hM_w_201 := hm
                                        refine lv_aload_n hx hb dX12_way_272 rfl (lv_at hl 3 rfl) ?_
                                        refine lv_iload_n hx hb dX12_way_273 rfl (lv_at hl 4 rfl) ?_
                                        refine lv_iload_n hx hb dX12_way_274 rfl (lv_at hl 5 rfl) ?_
                                        refine lv_iload_n hx hb dX12_way_275 rfl (lv_at hl 6 rfl) ?_
                                        refine lv_iload hx hb dX12_way_276 (lv_at hl 7 rfl) ?_
                                        refine lv_iload hx hb dX12_way_278 (lv_at hl 8 rfl) ?_
                                        refine lv_iload hx hb dX12_way_280 (lv_at hl 9 rfl) ?_
                                        obtain ⟨v_282, hc_282, h⟩ := bo_s h
                                        refine x_goesZ (x_runV (As := [.int a1, .int a2, .int a3, .int a4, .int a5, .int a6]) (rest := []) F hP hS (c_X12_isGoal l D cT lo w_269 ad a1 a2 a3 a4 a5 a6 v_282 hc_282) cw_X12_isGoal lk_X12_354 vi_X12_isGoal k_63 (n2 (hP.al 63 rfl)) rfl ⟨rfl, rfl, Nat.le_of_ble_eq_true rfl, Nat.le_of_ble_eq_true rfl⟩ hl.1 rfl (Nat.le_of_ble_eq_true rfl) dX12_way_282 ⟨Nat.zero_le _, Nat.zero_le _⟩) hS (fun H locs hz_282 hP hS _ => ?_)
                                        refine lv_if_eq (tgt := 293) hx hb dX12_way_285 (by decide) (fun hc => ?_) (fun hc => ?_)
                                        · have h := if_t _ hc h
                                          exact J_293 w_269 hM_w_201 h _ _ _ hP hS (lv_sub hl [1, 2, 3, 4, 5, 6, 7, 8, 9] rfl)
                                        · have h := if_f _ hc h
                                          exact J_288 w_269 hM_w_118 h _ _ _ hP hS (lv_sub hl [3] rfl)
                                      · have h := if_t _ hc h
                                        refine lv_bipush (v := -5) hx hb dX12_way_250 ib_m5 ?_
                                        exact y_iretM h F hr hP hS hM_w hlk dX12_way_252
                          exact L_169 FU w_145l (0 : Int32) mono.refl h _ _ _ hP hS (lv_sub hl [0, 1, 2, 3, 4, 5, 6, 7, 8] rfl)
                exact L_145 FU w_118 (0 : Int32) mono.refl h _ _ _ hP hS (lv_sub hl [0, 1, 2, 3, 4, 5, 6, 7] rfl)
            · have h := if_f _ hc h
              refine lv_aload_n hx hb dX12_way_137 rfl (lv_at hl 0 rfl) ?_
              obtain ⟨v_138, w_138, hc_138, h⟩ := bi_s h
              refine x_goes (x_runV (As := []) (rest := []) F hP hS (c_X12_tells l D cT lo w_118 ad  v_138 w_138 hc_138) cw_X12_tells lk_X12_358 vi_X12_tells k_63 (n2 (hP.al 63 rfl)) rfl ⟨rfl, rfl, Nat.le_of_ble_eq_true rfl, Nat.le_of_ble_eq_true rfl⟩ hl.1 rfl (Nat.le_of_ble_eq_true rfl) dX12_way_138 ⟨Nat.zero_le _, Nat.zero_le _⟩) hS (fun H locs hP hS hm => ?_)
              have hM_w := hM_w.trans hm
              exact y_iretM h F hr hP hS hM_w hlk dX12_way_141
          · have L_46 : ∀ (n_46 : Nat) (w_46l : Wd) (x7_46l : Int32), mono w w_46l → l_X12_way_46 j_68 n_46 w_46l x7_46l = some (r, w9) → GG p l e { frames := 8, cells := 0, slots := 0, locals := 199 } s m args below meth c 0 0 (MQ below (mQ D cT lo NB w w9 ad (some (.int r))) args s 0 0 (fun q => lo ≤ q)) D cT lo NB 10 ad w_46l 46 [(7, .int x7_46l), (0, .ref (ad 63)), (1, .int a1), (2, .int a2), (3, .int a3), (4, .int a4), (5, .int a5), (6, .int a6)] [] := by
              intro n_46
              induction n_46 with
              | zero =>
                intro w_46l x7_46l _ h
                exact absurd h (by unfold l_X12_way_46; exact fun z => by cases z)
              | succ n_46 ih_46 =>
                intro w_46l x7_46l hm h H locs ls hP hS hl
                unfold l_X12_way_46 at h
                have hM_w := hm
                refine lv_iload hx hb dX12_way_46 (lv_at hl 0 rfl) ?_
                refine lv_sipush (v := 4096) hx hb dX12_way_48 is_4096 ?_
                refine lv_icmp_ge (tgt := 68) hx hb dX12_way_51 (by decide) (fun hc => ?_) (fun hc => ?_)
                · have h := if_t _ hc h
                  exact J_68 w_46l hM_w h _ _ _ hP hS (lv_sub hl [1, 2, 3, 4, 5, 6, 7] rfl)
                · have h := if_f _ hc h
                  refine lv_aload_n hx hb dX12_way_54 rfl (lv_at hl 1 rfl) ?_
                  refine x_getr F hP k_63 (hP.al 63 rfl) fl_X12_108 rfl r_63_41 dX12_way_55 ?_
                  refine lv_iload hx hb dX12_way_58 (lv_at hl 0 rfl) ?_
                  refine lv_iconst (v := 0) hx hb dX12_way_60 ic_0 ?_
                  refine y_iast h F hP hS k_95 (n2 (hP.al 95 rfl)) dX12_way_61 (fun w_61 H locs hm h hP hS => ?_)
                  have hM_w := hM_w.trans hm
                  refine y_iinc (lv' := fun (v_62 : Int32) => [(7, .int v_62), (0, .ref (ad 63)), (1, .int a1), (2, .int a2), (3, .int a3), (4, .int a4), (5, .int a5), (6, .int a6)]) h F ic_1 dX12_way_62 hl (kq := 0) rfl (Nat.le_of_ble_eq_true rfl) (fun _ => rfl) (fun v_62 ls hl h => ?_)
                  refine lv_goto (tgt := 46) hx hb dX12_way_65 (by decide) ?_
                  exact ih_46 w_61 v_62 hM_w h _ _ _ hP hS (lv_sub hl [0, 1, 2, 3, 4, 5, 6, 7] rfl)
            exact L_46 FU w (0 : Int32) mono.refl h _ _ _ hP hS (lv_sub hl [0, 1, 2, 3, 4, 5, 6, 7] rfl)
        · have h := if_t _ hc h
          refine lv_bipush (v := -3) hx hb dX12_way_40 ib_m3 ?_
          exact y_iretM h F hr hP hS mono.refl hlk dX12_way_42
      · have h := if_t _ hc h
        refine lv_bipush (v := -2) hx hb dX12_way_28 ib_m2 ?_
        exact y_iretM h F hr hP hS mono.refl hlk dX12_way_30
def f_X12_step (w : Wd) (a1 : Int32) : Option Int32 :=
q_gt w 63 42 (fun v_3 =>
if (f_X12_in a1 (0 : Int32) (v_3 - (1 : Int32))) = 0 then
some (-2 : Int32)
else
q_ld w 96 12 a1 (fun v_19 =>
some v_19))
set_option maxRecDepth 100000 in
set_option maxHeartbeats 4000000 in
theorem c_X12_step (l : Launch) (D : va_G) (cT : Nat → ClassId) (lo : Nat) (w : Wd) (ad : Nat → Nat) (a1 : Int32) (r : Int32) (h : f_X12_step w a1 = some r) : Met l yX12_step (.code yX12_step cX12_step 2 (some .int) :: TW) { frames := 1, cells := 0, slots := 0, locals := 22 } (mPc D cT lo NB w ad [.ref (ad 63), .int a1]) (mQ D cT lo NB w w ad (some (.int r))) 0 0 (fun q => lo ≤ q) := by
  unfold f_X12_step at h
  refine x_met (lv := [(0, .ref (ad 63)), (1, .int a1)]) (by decide +kernel) (Nat.le_of_ble_eq_true rfl) rfl ?_
  intro p e s m args below meth c ls F hr hlk hP hin hl
  have hx := F.1
  have hb := F.2.1
  have hS : va_S (fun q => lo ≤ q) s.heap s.heap [] := va_S.rf
  refine lv_iload_n hx hb dX12_step_0 rfl (lv_at hl 1 rfl) ?_
  refine lv_iconst (v := 0) hx hb dX12_step_1 ic_0 ?_
  refine lv_aload_n hx hb dX12_step_2 rfl (lv_at hl 0 rfl) ?_
  refine y_geti h F hP k_63 (n2 (hP.al 63 rfl)) fl_X12_343 rfl dX12_step_3 (fun v_3 h => ?_)
  refine lv_iconst (v := 1) hx hb dX12_step_6 ic_1 ?_
  refine lv_isub hx hb dX12_step_7 ?_
  refine x_goesZ (x_runS (As := [.int a1, .int (0 : Int32), .int (v_3 - (1 : Int32))]) (rest := []) F hP hS (c_X12_in l D cT lo NB w ad a1 (0 : Int32) (v_3 - (1 : Int32))) cw_X12_in lk_X12_217 st_X12_in ⟨rfl, rfl, Nat.le_of_ble_eq_true rfl, Nat.le_of_ble_eq_true rfl⟩ hl.1 rfl (Nat.le_of_ble_eq_true rfl) dX12_step_8 ⟨Nat.zero_le _, Nat.zero_le _⟩) hS (fun H locs hz_8 hP hS _ => ?_)
  refine lv_if_eq (tgt := 23) hx hb dX12_step_11 (by decide) (fun hc => ?_) (fun hc => ?_)
  · have h := if_t _ hc h
    refine lv_bipush (v := -2) hx hb dX12_step_23 ib_m2 ?_
    exact y_iretO h F hr hP hS hlk dX12_step_25
  · have h := if_f _ hc h
    refine lv_aload_n hx hb dX12_step_14 rfl (lv_at hl 0 rfl) ?_
    refine x_getr F hP k_63 (hP.al 63 rfl) fl_X12_111 rfl r_63_43 dX12_step_15 ?_
    refine lv_iload_n hx hb dX12_step_18 rfl (lv_at hl 1 rfl) ?_
    refine y_iald h F hP k_96 (n2 (hP.al 96 rfl)) dX12_step_19 (fun v_19 h => ?_)
    refine lv_goto (tgt := 25) hx hb dX12_step_20 (by decide) ?_
    exact y_iretO h F hr hP hS hlk dX12_step_25
def f_X12_seen (w : Wd) : Int32 :=
wS w 63 34
set_option maxRecDepth 100000 in
set_option maxHeartbeats 4000000 in
theorem c_X12_seen (l : Launch) (D : va_G) (cT : Nat → ClassId) (lo : Nat) (w : Wd) (ad : Nat → Nat)  : Met l yX12_seen (.code yX12_seen cX12_seen 1 (some .int) :: TW) { frames := 0, cells := 0, slots := 0, locals := 0 } (mPc D cT lo NB w ad [.ref (ad 63)]) (mQ D cT lo NB w w ad (some (.int (f_X12_seen w)))) 0 0 (fun q => lo ≤ q) := by
  obtain ⟨r, h⟩ : ∃ r, f_X12_seen w = r := ⟨_, rfl⟩
  rw [h]
  unfold f_X12_seen at h
  refine x_met (lv := [(0, .ref (ad 63))]) (by decide +kernel) (Nat.le_of_ble_eq_true rfl) rfl ?_
  intro p e s m args below meth c ls F hr hlk hP hin hl
  have hx := F.1
  have hb := F.2.1
  have hS : va_S (fun q => lo ≤ q) s.heap s.heap [] := va_S.rf
  refine lv_aload_n hx hb dX12_seen_0 rfl (lv_at hl 0 rfl) ?_
  refine x_geti F hP k_63 (n2 (hP.al 63 rfl)) fl_X12_340 rfl dX12_seen_1 ?_
  exact y_iretP h F hr hP hS hlk dX12_seen_4
def f_X12_rope (w : Wd) (a1 : Int32) (a2 : Int32) (a3 : Int32) (a4 : Int32) (a5 : Int32) : Option (Int32 × Wd) :=
if (f_X12_isCar w a1) = 0 then
some ((-2 : Int32), w)
else
if (f_X12_in a2 (0 : Int32) (3 : Int32)) = 0 then
some ((-2 : Int32), w)
else
if (f_X12_in a3 (0 : Int32) (300 : Int32)) = 0 then
some ((-2 : Int32), w)
else
if (f_X12_in a4 (1 : Int32) (60 : Int32)) = 0 then
some ((-2 : Int32), w)
else
if (f_X12_in a5 (-9 : Int32) (9 : Int32)) = 0 then
some ((-2 : Int32), w)
else
q_st w 97 16 (((4 : Int32) * a1) + a2) a3 (fun w_64 =>
q_st w_64 98 16 (((4 : Int32) * a1) + a2) a4 (fun w_76 =>
q_st w_76 99 16 (((4 : Int32) * a1) + a2) a5 (fun w_88 =>
some ((1 : Int32), w_88))))
set_option maxRecDepth 100000 in
set_option maxHeartbeats 4000000 in
theorem c_X12_rope (l : Launch) (D : va_G) (cT : Nat → ClassId) (lo : Nat) (w : Wd) (ad : Nat → Nat) (a1 : Int32) (a2 : Int32) (a3 : Int32) (a4 : Int32) (a5 : Int32) (r : Int32) (w9 : Wd) (h : f_X12_rope w a1 a2 a3 a4 a5 = some (r, w9)) : Met l yX12_rope (.code yX12_rope cX12_rope 6 (some .int) :: TW) { frames := 2, cells := 0, slots := 0, locals := 43 } (mPc D cT lo NB w ad [.ref (ad 63), .int a1, .int a2, .int a3, .int a4, .int a5]) (mQ D cT lo NB w w9 ad (some (.int r))) 0 0 (fun q => lo ≤ q) := by
  unfold f_X12_rope at h
  refine x_met (lv := [(0, .ref (ad 63)), (1, .int a1), (2, .int a2), (3, .int a3), (4, .int a4), (5, .int a5)]) (by decide +kernel) (Nat.le_of_ble_eq_true rfl) rfl ?_
  intro p e s m args below meth c ls F hr hlk hP hin hl
  have hx := F.1
  have hb := F.2.1
  have hS : va_S (fun q => lo ≤ q) s.heap s.heap [] := va_S.rf
  have hM_w : mono w w := mono.refl
  refine lv_aload_n hx hb dX12_rope_0 rfl (lv_at hl 0 rfl) ?_
  refine lv_iload_n hx hb dX12_rope_1 rfl (lv_at hl 1 rfl) ?_
  refine x_goesZ (x_runV (As := [.int a1]) (rest := []) F hP hS (c_X12_isCar l D cT lo w ad a1) cw_X12_isCar lk_X12_257 vi_X12_isCar k_63 (n2 (hP.al 63 rfl)) rfl ⟨rfl, rfl, Nat.le_of_ble_eq_true rfl, Nat.le_of_ble_eq_true rfl⟩ hl.1 rfl (Nat.le_of_ble_eq_true rfl) dX12_rope_2 ⟨Nat.zero_le _, Nat.zero_le _⟩) hS (fun H locs hz_2 hP hS _ => ?_)
  refine lv_if_eq (tgt := 51) hx hb dX12_rope_5 (by decide) (fun hc => ?_) (fun hc => ?_)
  · have h := if_t _ hc h
    refine lv_bipush (v := -2) hx hb dX12_rope_51 ib_m2 ?_
    exact y_iretM h F hr hP hS mono.refl hlk dX12_rope_53
  · have h := if_f _ hc h
    refine lv_iload_n hx hb dX12_rope_8 rfl (lv_at hl 2 rfl) ?_
    refine lv_iconst (v := 0) hx hb dX12_rope_9 ic_0 ?_
    refine lv_iconst (v := 3) hx hb dX12_rope_10 ic_3 ?_
    refine x_goesZ (x_runS (As := [.int a2, .int (0 : Int32), .int (3 : Int32)]) (rest := []) F hP hS (c_X12_in l D cT lo NB w ad a2 (0 : Int32) (3 : Int32)) cw_X12_in lk_X12_217 st_X12_in ⟨rfl, rfl, Nat.le_of_ble_eq_true rfl, Nat.le_of_ble_eq_true rfl⟩ hl.1 rfl (Nat.le_of_ble_eq_true rfl) dX12_rope_11 ⟨Nat.zero_le _, Nat.zero_le _⟩) hS (fun H locs hz_11 hP hS _ => ?_)
    refine lv_if_eq (tgt := 51) hx hb dX12_rope_14 (by decide) (fun hc => ?_) (fun hc => ?_)
    · have h := if_t _ hc h
      refine lv_bipush (v := -2) hx hb dX12_rope_51 ib_m2 ?_
      exact y_iretM h F hr hP hS mono.refl hlk dX12_rope_53
    · have h := if_f _ hc h
      refine lv_iload_n hx hb dX12_rope_17 rfl (lv_at hl 3 rfl) ?_
      refine lv_iconst (v := 0) hx hb dX12_rope_18 ic_0 ?_
      refine lv_sipush (v := 300) hx hb dX12_rope_19 is_300 ?_
      refine x_goesZ (x_runS (As := [.int a3, .int (0 : Int32), .int (300 : Int32)]) (rest := []) F hP hS (c_X12_in l D cT lo NB w ad a3 (0 : Int32) (300 : Int32)) cw_X12_in lk_X12_217 st_X12_in ⟨rfl, rfl, Nat.le_of_ble_eq_true rfl, Nat.le_of_ble_eq_true rfl⟩ hl.1 rfl (Nat.le_of_ble_eq_true rfl) dX12_rope_22 ⟨Nat.zero_le _, Nat.zero_le _⟩) hS (fun H locs hz_22 hP hS _ => ?_)
      refine lv_if_eq (tgt := 51) hx hb dX12_rope_25 (by decide) (fun hc => ?_) (fun hc => ?_)
      · have h := if_t _ hc h
        refine lv_bipush (v := -2) hx hb dX12_rope_51 ib_m2 ?_
        exact y_iretM h F hr hP hS mono.refl hlk dX12_rope_53
      · have h := if_f _ hc h
        refine lv_iload hx hb dX12_rope_28 (lv_at hl 4 rfl) ?_
        refine lv_iconst (v := 1) hx hb dX12_rope_30 ic_1 ?_
        refine lv_bipush (v := 60) hx hb dX12_rope_31 ib_60 ?_
        refine x_goesZ (x_runS (As := [.int a4, .int (1 : Int32), .int (60 : Int32)]) (rest := []) F hP hS (c_X12_in l D cT lo NB w ad a4 (1 : Int32) (60 : Int32)) cw_X12_in lk_X12_217 st_X12_in ⟨rfl, rfl, Nat.le_of_ble_eq_true rfl, Nat.le_of_ble_eq_true rfl⟩ hl.1 rfl (Nat.le_of_ble_eq_true rfl) dX12_rope_33 ⟨Nat.zero_le _, Nat.zero_le _⟩) hS (fun H locs hz_33 hP hS _ => ?_)
        refine lv_if_eq (tgt := 51) hx hb dX12_rope_36 (by decide) (fun hc => ?_) (fun hc => ?_)
        · have h := if_t _ hc h
          refine lv_bipush (v := -2) hx hb dX12_rope_51 ib_m2 ?_
          exact y_iretM h F hr hP hS mono.refl hlk dX12_rope_53
        · have h := if_f _ hc h
          refine lv_iload hx hb dX12_rope_39 (lv_at hl 5 rfl) ?_
          refine lv_bipush (v := -9) hx hb dX12_rope_41 ib_m9 ?_
          refine lv_bipush (v := 9) hx hb dX12_rope_43 ib_9 ?_
          refine x_goesZ (x_runS (As := [.int a5, .int (-9 : Int32), .int (9 : Int32)]) (rest := []) F hP hS (c_X12_in l D cT lo NB w ad a5 (-9 : Int32) (9 : Int32)) cw_X12_in lk_X12_217 st_X12_in ⟨rfl, rfl, Nat.le_of_ble_eq_true rfl, Nat.le_of_ble_eq_true rfl⟩ hl.1 rfl (Nat.le_of_ble_eq_true rfl) dX12_rope_45 ⟨Nat.zero_le _, Nat.zero_le _⟩) hS (fun H locs hz_45 hP hS _ => ?_)
          refine lv_if_ne (tgt := 54) hx hb dX12_rope_48 (by decide) (fun hc => ?_) (fun hc => ?_)
          · have h := if_f _ hc h
            refine lv_aload_n hx hb dX12_rope_54 rfl (lv_at hl 0 rfl) ?_
            refine x_getr F hP k_63 (hP.al 63 rfl) fl_X12_114 rfl r_63_44 dX12_rope_55 ?_
            refine lv_iconst (v := 4) hx hb dX12_rope_58 ic_4 ?_
            refine lv_iload_n hx hb dX12_rope_59 rfl (lv_at hl 1 rfl) ?_
            refine lv_imul hx hb dX12_rope_60 ?_
            refine lv_iload_n hx hb dX12_rope_61 rfl (lv_at hl 2 rfl) ?_
            refine lv_iadd hx hb dX12_rope_62 ?_
            refine lv_iload_n hx hb dX12_rope_63 rfl (lv_at hl 3 rfl) ?_
            refine y_iast h F hP hS k_97 (n2 (hP.al 97 rfl)) dX12_rope_64 (fun w_64 H locs hm h hP hS => ?_)
            have hM_w := hm
            refine lv_aload_n hx hb dX12_rope_65 rfl (lv_at hl 0 rfl) ?_
            refine x_getr F hP k_63 (hP.al 63 rfl) fl_X12_117 rfl r_63_45 dX12_rope_66 ?_
            refine lv_iconst (v := 4) hx hb dX12_rope_69 ic_4 ?_
            refine lv_iload_n hx hb dX12_rope_70 rfl (lv_at hl 1 rfl) ?_
            refine lv_imul hx hb dX12_rope_71 ?_
            refine lv_iload_n hx hb dX12_rope_72 rfl (lv_at hl 2 rfl) ?_
            refine lv_iadd hx hb dX12_rope_73 ?_
            refine lv_iload hx hb dX12_rope_74 (lv_at hl 4 rfl) ?_
            refine y_iast h F hP hS k_98 (n2 (hP.al 98 rfl)) dX12_rope_76 (fun w_76 H locs hm h hP hS => ?_)
            have hM_w := hM_w.trans hm
            refine lv_aload_n hx hb dX12_rope_77 rfl (lv_at hl 0 rfl) ?_
            refine x_getr F hP k_63 (hP.al 63 rfl) fl_X12_120 rfl r_63_46 dX12_rope_78 ?_
            refine lv_iconst (v := 4) hx hb dX12_rope_81 ic_4 ?_
            refine lv_iload_n hx hb dX12_rope_82 rfl (lv_at hl 1 rfl) ?_
            refine lv_imul hx hb dX12_rope_83 ?_
            refine lv_iload_n hx hb dX12_rope_84 rfl (lv_at hl 2 rfl) ?_
            refine lv_iadd hx hb dX12_rope_85 ?_
            refine lv_iload hx hb dX12_rope_86 (lv_at hl 5 rfl) ?_
            refine y_iast h F hP hS k_99 (n2 (hP.al 99 rfl)) dX12_rope_88 (fun w_88 H locs hm h hP hS => ?_)
            have hM_w := hM_w.trans hm
            refine lv_iconst (v := 1) hx hb dX12_rope_89 ic_1 ?_
            exact y_iretM h F hr hP hS hM_w hlk dX12_rope_90
          · have h := if_t _ hc h
            refine lv_bipush (v := -2) hx hb dX12_rope_51 ib_m2 ?_
            exact y_iretM h F hr hP hS mono.refl hlk dX12_rope_53
def f_X12_set (w : Wd) (a1 : Int32) (a2 : Int32) : Option (Int32 × Wd) :=
q_jn (fun (s0_27 : Int32) =>
if (f_X12_in a1 (0 : Int32) (2 : Int32)) = 0 then
some ((-2 : Int32), w)
else
q_jn (fun (s0_48 : Int32) =>
q_jn (fun (s0_69 : Int32) =>
if (f_X12_in a2 s0_48 s0_69) = 0 then
some ((-2 : Int32), w)
else
q_jn (fun (s0_91 : Int32) =>
q_pt w 63 47 s0_91 (fun w_91 =>
q_jn (fun (s0_108 : Int32) =>
q_pt w_91 63 48 s0_108 (fun w_108 =>
q_jn (fun (s0_125 : Int32) =>
q_pt w_108 63 49 s0_125 (fun w_125 =>
some (s0_27, w_125))) (fun j_125 =>
if a1 = (2 : Int32) then
j_125 a2
else
q_gt w_108 63 49 (fun v_122 =>
j_125 v_122)))) (fun j_108 =>
if a1 = (1 : Int32) then
j_108 a2
else
q_gt w_91 63 48 (fun v_105 =>
j_108 v_105)))) (fun j_91 =>
if a1 = 0 then
j_91 a2
else
q_gt w 63 47 (fun v_88 =>
j_91 v_88))) (fun j_69 =>
if a1 = 0 then
j_69 (9 : Int32)
else
if a1 = (1 : Int32) then
j_69 (100 : Int32)
else
j_69 (99 : Int32))) (fun j_48 =>
if a1 = (1 : Int32) then
j_48 (0 : Int32)
else
j_48 (1 : Int32))) (fun j_27 =>
if a1 = 0 then
q_gt w 63 47 (fun v_5 =>
j_27 v_5)
else
if a1 = (1 : Int32) then
q_gt w 63 48 (fun v_17 =>
j_27 v_17)
else
q_gt w 63 49 (fun v_24 =>
j_27 v_24))
set_option maxRecDepth 100000 in
set_option maxHeartbeats 4000000 in
theorem c_X12_set (l : Launch) (D : va_G) (cT : Nat → ClassId) (lo : Nat) (w : Wd) (ad : Nat → Nat) (a1 : Int32) (a2 : Int32) (r : Int32) (w9 : Wd) (h : f_X12_set w a1 a2 = some (r, w9)) : Met l yX12_set (.code yX12_set cX12_set 4 (some .int) :: TW) { frames := 1, cells := 0, slots := 0, locals := 22 } (mPc D cT lo NB w ad [.ref (ad 63), .int a1, .int a2]) (mQ D cT lo NB w w9 ad (some (.int r))) 0 0 (fun q => lo ≤ q) := by
  unfold f_X12_set at h
  refine x_met (lv := [(0, .ref (ad 63)), (1, .int a1), (2, .int a2)]) (by decide +kernel) (Nat.le_of_ble_eq_true rfl) rfl ?_
  intro p e s m args below meth c ls F hr hlk hP hin hl
  have hx := F.1
  have hb := F.2.1
  have hS : va_S (fun q => lo ≤ q) s.heap s.heap [] := va_S.rf
  have hM_w : mono w w := mono.refl
  refine lv_iload_n hx hb dX12_set_0 rfl (lv_at hl 1 rfl) ?_
  refine jn_use (fun (j_27 : Int32 → Option (Int32 × Wd)) => ∀ (s0_27 : Int32), j_27 s0_27 = some (r, w9) → GG p l e { frames := 1, cells := 0, slots := 0, locals := 22 } s m args below meth c 0 0 (MQ below (mQ D cT lo NB w w9 ad (some (.int r))) args s 0 0 (fun q => lo ≤ q)) D cT lo NB 4 ad w 27 [(0, .ref (ad 63)), (1, .int a1), (2, .int a2)] [.int s0_27]) h (fun s0_27 h H locs ls hP hS hl => ?_) (fun j_27 J_27 h => ?_)
  · refine lv_istore_n (lv' := [(3, .int s0_27), (0, .ref (ad 63)), (1, .int a1), (2, .int a2)]) hx hb dX12_set_27 rfl hl (Nat.le_of_ble_eq_true rfl) rfl (fun ls hl => ?_)
    refine lv_iload_n hx hb dX12_set_28 rfl (lv_at hl 2 rfl) ?_
    refine lv_iconst (v := 0) hx hb dX12_set_29 ic_0 ?_
    refine lv_iconst (v := 2) hx hb dX12_set_30 ic_2 ?_
    refine x_goesZ (x_runS (As := [.int a1, .int (0 : Int32), .int (2 : Int32)]) (rest := []) F hP hS (c_X12_in l D cT lo NB w ad a1 (0 : Int32) (2 : Int32)) cw_X12_in lk_X12_217 st_X12_in ⟨rfl, rfl, Nat.le_of_ble_eq_true rfl, Nat.le_of_ble_eq_true rfl⟩ hl.1 rfl (Nat.le_of_ble_eq_true rfl) dX12_set_31 ⟨Nat.zero_le _, Nat.zero_le _⟩) hS (fun H locs hz_31 hP hS _ => ?_)
    refine lv_if_eq (tgt := 75) hx hb dX12_set_34 (by decide) (fun hc => ?_) (fun hc => ?_)
    · have h := if_t _ hc h
      refine lv_bipush (v := -2) hx hb dX12_set_75 ib_m2 ?_
      exact y_iretM h F hr hP hS mono.refl hlk dX12_set_77
    · have h := if_f _ hc h
      refine lv_iload_n hx hb dX12_set_37 rfl (lv_at hl 3 rfl) ?_
      refine lv_iload_n hx hb dX12_set_38 rfl (lv_at hl 2 rfl) ?_
      refine lv_iconst (v := 1) hx hb dX12_set_39 ic_1 ?_
      refine jn_use (fun (j_48 : Int32 → Option (Int32 × Wd)) => ∀ (s0_48 : Int32), j_48 s0_48 = some (r, w9) → GG p l e { frames := 1, cells := 0, slots := 0, locals := 22 } s m args below meth c 0 0 (MQ below (mQ D cT lo NB w w9 ad (some (.int r))) args s 0 0 (fun q => lo ≤ q)) D cT lo NB 4 ad w 48 [(3, .int s0_27), (0, .ref (ad 63)), (1, .int a1), (2, .int a2)] [.int s0_48, .int a2]) h (fun s0_48 h H locs ls hP hS hl => ?_) (fun j_48 J_48 h => ?_)
      · refine lv_iload_n hx hb dX12_set_48 rfl (lv_at hl 2 rfl) ?_
        refine jn_use (fun (j_69 : Int32 → Option (Int32 × Wd)) => ∀ (s0_69 : Int32), j_69 s0_69 = some (r, w9) → GG p l e { frames := 1, cells := 0, slots := 0, locals := 22 } s m args below meth c 0 0 (MQ below (mQ D cT lo NB w w9 ad (some (.int r))) args s 0 0 (fun q => lo ≤ q)) D cT lo NB 4 ad w 69 [(3, .int s0_27), (0, .ref (ad 63)), (1, .int a1), (2, .int a2)] [.int s0_69, .int s0_48, .int a2]) h (fun s0_69 h H locs ls hP hS hl => ?_) (fun j_69 J_69 h => ?_)
        · refine x_goesZ (x_runS (As := [.int a2, .int s0_48, .int s0_69]) (rest := []) F hP hS (c_X12_in l D cT lo NB w ad a2 s0_48 s0_69) cw_X12_in lk_X12_217 st_X12_in ⟨rfl, rfl, Nat.le_of_ble_eq_true rfl, Nat.le_of_ble_eq_true rfl⟩ hl.1 rfl (Nat.le_of_ble_eq_true rfl) dX12_set_69 ⟨Nat.zero_le _, Nat.zero_le _⟩) hS (fun H locs hz_69 hP hS _ => ?_)
          refine lv_if_ne (tgt := 78) hx hb dX12_set_72 (by decide) (fun hc => ?_) (fun hc => ?_)
          · have h := if_f _ hc h
            refine lv_aload_n hx hb dX12_set_78 rfl (lv_at hl 1 rfl) ?_
            refine lv_iload_n hx hb dX12_set_79 rfl (lv_at hl 2 rfl) ?_
            refine jn_use (fun (j_91 : Int32 → Option (Int32 × Wd)) => ∀ (s0_91 : Int32), j_91 s0_91 = some (r, w9) → GG p l e { frames := 1, cells := 0, slots := 0, locals := 22 } s m args below meth c 0 0 (MQ below (mQ D cT lo NB w w9 ad (some (.int r))) args s 0 0 (fun q => lo ≤ q)) D cT lo NB 4 ad w 91 [(3, .int s0_27), (0, .ref (ad 63)), (1, .int a1), (2, .int a2)] [.int s0_91, .ref (ad 63)]) h (fun s0_91 h H locs ls hP hS hl => ?_) (fun j_91 J_91 h => ?_)
            · refine y_puti h F hP hS k_63 (n2 (hP.al 63 rfl)) fl_X12_123 rfl dX12_set_91 (fun w_91 H locs hm h hP hS => ?_)
              have hM_w := hm
              refine lv_aload_n hx hb dX12_set_94 rfl (lv_at hl 1 rfl) ?_
              refine lv_iload_n hx hb dX12_set_95 rfl (lv_at hl 2 rfl) ?_
              refine lv_iconst (v := 1) hx hb dX12_set_96 ic_1 ?_
              refine jn_use (fun (j_108 : Int32 → Option (Int32 × Wd)) => ∀ (s0_108 : Int32), j_108 s0_108 = some (r, w9) → GG p l e { frames := 1, cells := 0, slots := 0, locals := 22 } s m args below meth c 0 0 (MQ below (mQ D cT lo NB w w9 ad (some (.int r))) args s 0 0 (fun q => lo ≤ q)) D cT lo NB 4 ad w_91 108 [(3, .int s0_27), (0, .ref (ad 63)), (1, .int a1), (2, .int a2)] [.int s0_108, .ref (ad 63)]) h (fun s0_108 h H locs ls hP hS hl => ?_) (fun j_108 J_108 h => ?_)
              · refine y_puti h F hP hS k_63 (n2 (hP.al 63 rfl)) fl_X12_126 rfl dX12_set_108 (fun w_108 H locs hm h hP hS => ?_)
                have hM_w := hM_w.trans hm
                refine lv_aload_n hx hb dX12_set_111 rfl (lv_at hl 1 rfl) ?_
                refine lv_iload_n hx hb dX12_set_112 rfl (lv_at hl 2 rfl) ?_
                refine lv_iconst (v := 2) hx hb dX12_set_113 ic_2 ?_
                refine jn_use (fun (j_125 : Int32 → Option (Int32 × Wd)) => ∀ (s0_125 : Int32), j_125 s0_125 = some (r, w9) → GG p l e { frames := 1, cells := 0, slots := 0, locals := 22 } s m args below meth c 0 0 (MQ below (mQ D cT lo NB w w9 ad (some (.int r))) args s 0 0 (fun q => lo ≤ q)) D cT lo NB 4 ad w_108 125 [(3, .int s0_27)] [.int s0_125, .ref (ad 63)]) h (fun s0_125 h H locs ls hP hS hl => ?_) (fun j_125 J_125 h => ?_)
                · refine y_puti h F hP hS k_63 (n2 (hP.al 63 rfl)) fl_X12_129 rfl dX12_set_125 (fun w_125 H locs hm h hP hS => ?_)
                  have hM_w := hM_w.trans hm
                  refine lv_iload_n hx hb dX12_set_128 rfl (lv_at hl 0 rfl) ?_
                  exact y_iretM h F hr hP hS hM_w hlk dX12_set_129
                · refine lv_icmp_ne (tgt := 121) hx hb dX12_set_114 (by decide) (fun hc => ?_) (fun hc => ?_)
                  · have h := if_f _ hc h
                    refine lv_aload_n hx hb dX12_set_121 rfl (lv_at hl 1 rfl) ?_
                    refine y_geti h F hP k_63 (n2 (hP.al 63 rfl)) fl_X12_129 rfl dX12_set_122 (fun v_122 h => ?_)
                    exact J_125 v_122 h _ _ _ hP hS (lv_sub hl [0] rfl)
                  · have h := if_t _ hc h
                    refine lv_iload_n hx hb dX12_set_117 rfl (lv_at hl 3 rfl) ?_
                    refine lv_goto (tgt := 125) hx hb dX12_set_118 (by decide) ?_
                    exact J_125 a2 h _ _ _ hP hS (lv_sub hl [0] rfl)
              · refine lv_icmp_ne (tgt := 104) hx hb dX12_set_97 (by decide) (fun hc => ?_) (fun hc => ?_)
                · have h := if_f _ hc h
                  refine lv_aload_n hx hb dX12_set_104 rfl (lv_at hl 1 rfl) ?_
                  refine y_geti h F hP k_63 (n2 (hP.al 63 rfl)) fl_X12_126 rfl dX12_set_105 (fun v_105 h => ?_)
                  exact J_108 v_105 h _ _ _ hP hS (lv_sub hl [0, 1, 2, 3] rfl)
                · have h := if_t _ hc h
                  refine lv_iload_n hx hb dX12_set_100 rfl (lv_at hl 3 rfl) ?_
                  refine lv_goto (tgt := 108) hx hb dX12_set_101 (by decide) ?_
                  exact J_108 a2 h _ _ _ hP hS (lv_sub hl [0, 1, 2, 3] rfl)
            · refine lv_if_ne (tgt := 87) hx hb dX12_set_80 (by decide) (fun hc => ?_) (fun hc => ?_)
              · have h := if_f _ hc h
                refine lv_aload_n hx hb dX12_set_87 rfl (lv_at hl 1 rfl) ?_
                refine y_geti h F hP k_63 (n2 (hP.al 63 rfl)) fl_X12_123 rfl dX12_set_88 (fun v_88 h => ?_)
                exact J_91 v_88 h _ _ _ hP hS (lv_sub hl [0, 1, 2, 3] rfl)
              · have h := if_t _ hc h
                refine lv_iload_n hx hb dX12_set_83 rfl (lv_at hl 3 rfl) ?_
                refine lv_goto (tgt := 91) hx hb dX12_set_84 (by decide) ?_
                exact J_91 a2 h _ _ _ hP hS (lv_sub hl [0, 1, 2, 3] rfl)
          · have h := if_t _ hc h
            refine lv_bipush (v := -2) hx hb dX12_set_75 ib_m2 ?_
            exact y_iretM h F hr hP hS mono.refl hlk dX12_set_77
        · refine lv_if_ne (tgt := 57) hx hb dX12_set_49 (by decide) (fun hc => ?_) (fun hc => ?_)
          · have h := if_f _ hc h
            refine lv_iload_n hx hb dX12_set_57 rfl (lv_at hl 2 rfl) ?_
            refine lv_iconst (v := 1) hx hb dX12_set_58 ic_1 ?_
            refine lv_icmp_ne (tgt := 67) hx hb dX12_set_59 (by decide) (fun hc => ?_) (fun hc => ?_)
            · have h := if_f _ hc h
              refine lv_bipush (v := 99) hx hb dX12_set_67 ib_99 ?_
              exact J_69 (99 : Int32) h _ _ _ hP hS (lv_sub hl [0, 1, 2, 3] rfl)
            · have h := if_t _ hc h
              refine lv_bipush (v := 100) hx hb dX12_set_62 ib_100 ?_
              refine lv_goto (tgt := 69) hx hb dX12_set_64 (by decide) ?_
              exact J_69 (100 : Int32) h _ _ _ hP hS (lv_sub hl [0, 1, 2, 3] rfl)
          · have h := if_t _ hc h
            refine lv_bipush (v := 9) hx hb dX12_set_52 ib_9 ?_
            refine lv_goto (tgt := 69) hx hb dX12_set_54 (by decide) ?_
            exact J_69 (9 : Int32) h _ _ _ hP hS (lv_sub hl [0, 1, 2, 3] rfl)
      · refine lv_icmp_ne (tgt := 47) hx hb dX12_set_40 (by decide) (fun hc => ?_) (fun hc => ?_)
        · have h := if_f _ hc h
          refine lv_iconst (v := 1) hx hb dX12_set_47 ic_1 ?_
          exact J_48 (1 : Int32) h _ _ _ hP hS (lv_sub hl [0, 1, 2, 3] rfl)
        · have h := if_t _ hc h
          refine lv_iconst (v := 0) hx hb dX12_set_43 ic_0 ?_
          refine lv_goto (tgt := 48) hx hb dX12_set_44 (by decide) ?_
          exact J_48 (0 : Int32) h _ _ _ hP hS (lv_sub hl [0, 1, 2, 3] rfl)
  · refine lv_if_ne (tgt := 11) hx hb dX12_set_1 (by decide) (fun hc => ?_) (fun hc => ?_)
    · have h := if_f _ hc h
      refine lv_iload_n hx hb dX12_set_11 rfl (lv_at hl 1 rfl) ?_
      refine lv_iconst (v := 1) hx hb dX12_set_12 ic_1 ?_
      refine lv_icmp_ne (tgt := 23) hx hb dX12_set_13 (by decide) (fun hc => ?_) (fun hc => ?_)
      · have h := if_f _ hc h
        refine lv_aload_n hx hb dX12_set_23 rfl (lv_at hl 0 rfl) ?_
        refine y_geti h F hP k_63 (n2 (hP.al 63 rfl)) fl_X12_129 rfl dX12_set_24 (fun v_24 h => ?_)
        exact J_27 v_24 h _ _ _ hP hS (lv_sub hl [0, 1, 2] rfl)
      · have h := if_t _ hc h
        refine lv_aload_n hx hb dX12_set_16 rfl (lv_at hl 0 rfl) ?_
        refine y_geti h F hP k_63 (n2 (hP.al 63 rfl)) fl_X12_126 rfl dX12_set_17 (fun v_17 h => ?_)
        refine lv_goto (tgt := 27) hx hb dX12_set_20 (by decide) ?_
        exact J_27 v_17 h _ _ _ hP hS (lv_sub hl [0, 1, 2] rfl)
    · have h := if_t _ hc h
      refine lv_aload_n hx hb dX12_set_4 rfl (lv_at hl 0 rfl) ?_
      refine y_geti h F hP k_63 (n2 (hP.al 63 rfl)) fl_X12_123 rfl dX12_set_5 (fun v_5 h => ?_)
      refine lv_goto (tgt := 27) hx hb dX12_set_8 (by decide) ?_
      exact J_27 v_5 h _ _ _ hP hS (lv_sub hl [0, 1, 2] rfl)
def f_X12_ropeHeading (w : Wd) (a1 : Int32) (a2 : Int32) : Option Int32 :=
q_ld w 87 4 a1 (fun v_5 =>
q_jn (fun (s0_17 : Int32) =>
q_ld w 99 16 (((4 : Int32) * a1) + a2) (fun v_27 =>
some ((((v_5 + s0_17) + v_27) + (36 : Int32)) - (((v_5 + s0_17) + v_27) + (36 : Int32)) / (36 : Int32) * (36 : Int32)))) (fun j_17 =>
if (2 : Int32) ≤ a2 then
j_17 (18 : Int32)
else
j_17 (0 : Int32)))
set_option maxRecDepth 100000 in
set_option maxHeartbeats 4000000 in
theorem c_X12_ropeHeading (l : Launch) (D : va_G) (cT : Nat → ClassId) (lo : Nat) (w : Wd) (ad : Nat → Nat) (a1 : Int32) (a2 : Int32) (r : Int32) (h : f_X12_ropeHeading w a1 a2 = some r) : Met l yX12_ropeHeading (.code yX12_ropeHeading cX12_ropeHeading 3 (some .int) :: TW) { frames := 0, cells := 0, slots := 0, locals := 0 } (mPc D cT lo NB w ad [.ref (ad 63), .int a1, .int a2]) (mQ D cT lo NB w w ad (some (.int r))) 0 0 (fun q => lo ≤ q) := by
  unfold f_X12_ropeHeading at h
  refine x_met (lv := [(0, .ref (ad 63)), (1, .int a1), (2, .int a2)]) (by decide +kernel) (Nat.le_of_ble_eq_true rfl) rfl ?_
  intro p e s m args below meth c ls F hr hlk hP hin hl
  have hx := F.1
  have hb := F.2.1
  have hS : va_S (fun q => lo ≤ q) s.heap s.heap [] := va_S.rf
  refine lv_aload_n hx hb dX12_ropeHeading_0 rfl (lv_at hl 0 rfl) ?_
  refine x_getr F hP k_63 (hP.al 63 rfl) fl_X12_80 rfl r_63_28 dX12_ropeHeading_1 ?_
  refine lv_iload_n hx hb dX12_ropeHeading_4 rfl (lv_at hl 1 rfl) ?_
  refine y_iald h F hP k_87 (n2 (hP.al 87 rfl)) dX12_ropeHeading_5 (fun v_5 h => ?_)
  refine lv_iload_n hx hb dX12_ropeHeading_6 rfl (lv_at hl 2 rfl) ?_
  refine lv_iconst (v := 2) hx hb dX12_ropeHeading_7 ic_2 ?_
  refine jn_use (fun (j_17 : Int32 → Option Int32) => ∀ (s0_17 : Int32), j_17 s0_17 = some r → GG p l e { frames := 0, cells := 0, slots := 0, locals := 0 } s m args below meth c 0 0 (MQ below (mQ D cT lo NB w w ad (some (.int r))) args s 0 0 (fun q => lo ≤ q)) D cT lo NB 3 ad w 17 [(0, .ref (ad 63)), (1, .int a1), (2, .int a2)] [.int s0_17, .int v_5]) h (fun s0_17 h H locs ls hP hS hl => ?_) (fun j_17 J_17 h => ?_)
  · refine lv_iadd hx hb dX12_ropeHeading_17 ?_
    refine lv_aload_n hx hb dX12_ropeHeading_18 rfl (lv_at hl 0 rfl) ?_
    refine x_getr F hP k_63 (hP.al 63 rfl) fl_X12_120 rfl r_63_46 dX12_ropeHeading_19 ?_
    refine lv_iconst (v := 4) hx hb dX12_ropeHeading_22 ic_4 ?_
    refine lv_iload_n hx hb dX12_ropeHeading_23 rfl (lv_at hl 1 rfl) ?_
    refine lv_imul hx hb dX12_ropeHeading_24 ?_
    refine lv_iload_n hx hb dX12_ropeHeading_25 rfl (lv_at hl 2 rfl) ?_
    refine lv_iadd hx hb dX12_ropeHeading_26 ?_
    refine y_iald h F hP k_99 (n2 (hP.al 99 rfl)) dX12_ropeHeading_27 (fun v_27 h => ?_)
    refine lv_iadd hx hb dX12_ropeHeading_28 ?_
    refine lv_bipush (v := 36) hx hb dX12_ropeHeading_29 ib_36 ?_
    refine lv_iadd hx hb dX12_ropeHeading_31 ?_
    refine lv_bipush (v := 36) hx hb dX12_ropeHeading_32 ib_36 ?_
    refine lv_irem hx hb dX12_ropeHeading_34 (by decide) ?_
    exact y_iretO h F hr hP hS hlk dX12_ropeHeading_35
  · refine lv_icmp_ge (tgt := 15) hx hb dX12_ropeHeading_8 (by decide) (fun hc => ?_) (fun hc => ?_)
    · have h := if_t _ hc h
      refine lv_bipush (v := 18) hx hb dX12_ropeHeading_15 ib_18 ?_
      exact J_17 (18 : Int32) h _ _ _ hP hS (lv_sub hl [0, 1, 2] rfl)
    · have h := if_f _ hc h
      refine lv_iconst (v := 0) hx hb dX12_ropeHeading_11 ic_0 ?_
      refine lv_goto (tgt := 17) hx hb dX12_ropeHeading_12 (by decide) ?_
      exact J_17 (0 : Int32) h _ _ _ hP hS (lv_sub hl [0, 1, 2] rfl)
def f_X12_cross (a1 : Int64) (a2 : Int64) (a3 : Int64) (a4 : Int64) : Int64 :=
(a1 * a4) - (a2 * a3)
set_option maxRecDepth 100000 in
set_option maxHeartbeats 4000000 in
theorem c_X12_cross (l : Launch) (D : va_G) (cT : Nat → ClassId) (lo nb : Nat) (w : Wd) (ad : Nat → Nat) (a1 : Int64) (a2 : Int64) (a3 : Int64) (a4 : Int64) : Met l yX12_cross (.code yX12_cross cX12_cross 8 (some .long) :: TW) { frames := 0, cells := 0, slots := 0, locals := 0 } (mPc D cT lo nb w ad [.long a1, .long a2, .long a3, .long a4]) (mQ D cT lo nb w w ad (some (.long (f_X12_cross a1 a2 a3 a4)))) 0 0 (fun q => lo ≤ q) := by
  obtain ⟨r, h⟩ : ∃ r, f_X12_cross a1 a2 a3 a4 = r := ⟨_, rfl⟩
  rw [h]
  unfold f_X12_cross at h
  refine x_met (lv := [(0, .long a1), (2, .long a2), (4, .long a3), (6, .long a4)]) (by decide +kernel) (Nat.le_of_ble_eq_true rfl) rfl ?_
  intro p e s m args below meth c ls F hr hlk hP hin hl
  have hx := F.1
  have hb := F.2.1
  have hS : va_S (fun q => lo ≤ q) s.heap s.heap [] := va_S.rf
  refine lv_lload_n hx hb dX12_cross_0 rfl (lv_at hl 0 rfl) ?_
  refine lv_lload hx hb dX12_cross_1 (lv_at hl 3 rfl) ?_
  refine lv_lmul hx hb dX12_cross_3 ?_
  refine lv_lload_n hx hb dX12_cross_4 rfl (lv_at hl 1 rfl) ?_
  refine lv_lload hx hb dX12_cross_5 (lv_at hl 2 rfl) ?_
  refine lv_lmul hx hb dX12_cross_7 ?_
  refine lv_lsub hx hb dX12_cross_8 ?_
  exact y_lretP h F hr hP hS hlk dX12_cross_9
