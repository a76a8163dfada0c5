theorem dX12_gone_0 : decode cX12_gone 0 = .ok (.iload_n 1, 1) := by decide +kernel
theorem dX12_gone_1 : decode cX12_gone 1 = .ok (.iconst 0, 1) := by decide +kernel
theorem dX12_gone_2 : decode cX12_gone 2 = .ok (.aload_n 0, 1) := by decide +kernel
theorem dX12_gone_3 : decode cX12_gone 3 = .ok (.getfield 420, 3) := by decide +kernel
theorem dX12_gone_6 : decode cX12_gone 6 = .ok (.iconst 1, 1) := by decide +kernel
theorem dX12_gone_7 : decode cX12_gone 7 = .ok (.isub, 1) := by decide +kernel
theorem dX12_gone_8 : decode cX12_gone 8 = .ok (.invokestatic 217, 3) := by decide +kernel
theorem dX12_gone_11 : decode cX12_gone 11 = .ok (.ifCond .ne 6, 3) := by decide +kernel
theorem dX12_gone_14 : decode cX12_gone 14 = .ok (.bipush (-2), 2) := by decide +kernel
theorem dX12_gone_16 : decode cX12_gone 16 = .ok (.ireturn, 1) := by decide +kernel
theorem dX12_gone_17 : decode cX12_gone 17 = .ok (.aload_n 0, 1) := by decide +kernel
theorem dX12_gone_18 : decode cX12_gone 18 = .ok (.sipush 2000, 3) := by decide +kernel
theorem dX12_gone_21 : decode cX12_gone 21 = .ok (.invokevirtual 434, 3) := by decide +kernel
theorem dX12_gone_24 : decode cX12_gone 24 = .ok (.aload_n 0, 1) := by decide +kernel
theorem dX12_gone_25 : decode cX12_gone 25 = .ok (.getfield 174, 3) := by decide +kernel
theorem dX12_gone_28 : decode cX12_gone 28 = .ok (.iload_n 1, 1) := by decide +kernel
theorem dX12_gone_29 : decode cX12_gone 29 = .ok (.iaload, 1) := by decide +kernel
theorem dX12_gone_30 : decode cX12_gone 30 = .ok (.ireturn, 1) := by decide +kernel
theorem dX12_where_0 : decode cX12_where 0 = .ok (.iload_n 1, 1) := by decide +kernel
theorem dX12_where_1 : decode cX12_where 1 = .ok (.iconst 0, 1) := by decide +kernel
theorem dX12_where_2 : decode cX12_where 2 = .ok (.aload_n 0, 1) := by decide +kernel
theorem dX12_where_3 : decode cX12_where 3 = .ok (.getfield 420, 3) := by decide +kernel
theorem dX12_where_6 : decode cX12_where 6 = .ok (.iconst 1, 1) := by decide +kernel
theorem dX12_where_7 : decode cX12_where 7 = .ok (.isub, 1) := by decide +kernel
theorem dX12_where_8 : decode cX12_where 8 = .ok (.invokestatic 217, 3) := by decide +kernel
theorem dX12_where_11 : decode cX12_where 11 = .ok (.ifCond .eq 14, 3) := by decide +kernel
theorem dX12_where_14 : decode cX12_where 14 = .ok (.iload_n 2, 1) := by decide +kernel
theorem dX12_where_15 : decode cX12_where 15 = .ok (.iconst 0, 1) := by decide +kernel
theorem dX12_where_16 : decode cX12_where 16 = .ok (.sipush 2000, 3) := by decide +kernel
theorem dX12_where_19 : decode cX12_where 19 = .ok (.invokestatic 217, 3) := by decide +kernel
theorem dX12_where_22 : decode cX12_where 22 = .ok (.ifCond .ne 6, 3) := by decide +kernel
theorem dX12_where_25 : decode cX12_where 25 = .ok (.bipush (-2), 2) := by decide +kernel
theorem dX12_where_27 : decode cX12_where 27 = .ok (.ireturn, 1) := by decide +kernel
theorem dX12_where_28 : decode cX12_where 28 = .ok (.aload_n 0, 1) := by decide +kernel
theorem dX12_where_29 : decode cX12_where 29 = .ok (.iload_n 2, 1) := by decide +kernel
theorem dX12_where_30 : decode cX12_where 30 = .ok (.invokevirtual 434, 3) := by decide +kernel
theorem dX12_where_33 : decode cX12_where 33 = .ok (.aload_n 0, 1) := by decide +kernel
theorem dX12_where_34 : decode cX12_where 34 = .ok (.getfield 168, 3) := by decide +kernel
theorem dX12_where_37 : decode cX12_where 37 = .ok (.iload_n 1, 1) := by decide +kernel
theorem dX12_where_38 : decode cX12_where 38 = .ok (.iaload, 1) := by decide +kernel
theorem dX12_where_39 : decode cX12_where 39 = .ok (.ireturn, 1) := by decide +kernel
theorem dX12_task_0 : decode cX12_task 0 = .ok (.iload_n 1, 1) := by decide +kernel
theorem dX12_task_1 : decode cX12_task 1 = .ok (.iconst 1, 1) := by decide +kernel
theorem dX12_task_2 : decode cX12_task 2 = .ok (.sipush 200, 3) := by decide +kernel
theorem dX12_task_5 : decode cX12_task 5 = .ok (.invokestatic 217, 3) := by decide +kernel
theorem dX12_task_8 : decode cX12_task 8 = .ok (.ifCond .eq 14, 3) := by decide +kernel
theorem dX12_task_11 : decode cX12_task 11 = .ok (.iload_n 2, 1) := by decide +kernel
theorem dX12_task_12 : decode cX12_task 12 = .ok (.iconst 0, 1) := by decide +kernel
theorem dX12_task_13 : decode cX12_task 13 = .ok (.sipush 2000, 3) := by decide +kernel
theorem dX12_task_16 : decode cX12_task 16 = .ok (.invokestatic 217, 3) := by decide +kernel
theorem dX12_task_19 : decode cX12_task 19 = .ok (.ifCond .ne 6, 3) := by decide +kernel
theorem dX12_task_22 : decode cX12_task 22 = .ok (.bipush (-2), 2) := by decide +kernel
theorem dX12_task_24 : decode cX12_task 24 = .ok (.ireturn, 1) := by decide +kernel
theorem dX12_task_25 : decode cX12_task 25 = .ok (.aload_n 0, 1) := by decide +kernel
theorem dX12_task_26 : decode cX12_task 26 = .ok (.getfield 437, 3) := by decide +kernel
theorem dX12_task_29 : decode cX12_task 29 = .ok (.bipush 12, 2) := by decide +kernel
theorem dX12_task_31 : decode cX12_task 31 = .ok (.if_icmp .ne 6, 3) := by decide +kernel
theorem dX12_task_34 : decode cX12_task 34 = .ok (.bipush (-4), 2) := by decide +kernel
theorem dX12_task_36 : decode cX12_task 36 = .ok (.ireturn, 1) := by decide +kernel
theorem dX12_task_37 : decode cX12_task 37 = .ok (.aload_n 0, 1) := by decide +kernel
theorem dX12_task_38 : decode cX12_task 38 = .ok (.getfield 177, 3) := by decide +kernel
theorem dX12_task_41 : decode cX12_task 41 = .ok (.aload_n 0, 1) := by decide +kernel
theorem dX12_task_42 : decode cX12_task 42 = .ok (.getfield 437, 3) := by decide +kernel
theorem dX12_task_45 : decode cX12_task 45 = .ok (.iload_n 1, 1) := by decide +kernel
theorem dX12_task_46 : decode cX12_task 46 = .ok (.iastore, 1) := by decide +kernel
theorem dX12_task_47 : decode cX12_task 47 = .ok (.aload_n 0, 1) := by decide +kernel
theorem dX12_task_48 : decode cX12_task 48 = .ok (.getfield 180, 3) := by decide +kernel
theorem dX12_task_51 : decode cX12_task 51 = .ok (.aload_n 0, 1) := by decide +kernel
theorem dX12_task_52 : decode cX12_task 52 = .ok (.getfield 437, 3) := by decide +kernel
theorem dX12_task_55 : decode cX12_task 55 = .ok (.iload_n 2, 1) := by decide +kernel
theorem dX12_task_56 : decode cX12_task 56 = .ok (.iastore, 1) := by decide +kernel
theorem dX12_task_57 : decode cX12_task 57 = .ok (.aload_n 0, 1) := by decide +kernel
theorem dX12_task_58 : decode cX12_task 58 = .ok (.dup, 1) := by decide +kernel
theorem dX12_task_59 : decode cX12_task 59 = .ok (.getfield 437, 3) := by decide +kernel
theorem dX12_task_62 : decode cX12_task 62 = .ok (.iconst 1, 1) := by decide +kernel
theorem dX12_task_63 : decode cX12_task 63 = .ok (.iadd, 1) := by decide +kernel
theorem dX12_task_64 : decode cX12_task 64 = .ok (.putfield 437, 3) := by decide +kernel
theorem dX12_task_67 : decode cX12_task 67 = .ok (.aload_n 0, 1) := by decide +kernel
theorem dX12_task_68 : decode cX12_task 68 = .ok (.getfield 437, 3) := by decide +kernel
theorem dX12_task_71 : decode cX12_task 71 = .ok (.iconst 1, 1) := by decide +kernel
theorem dX12_task_72 : decode cX12_task 72 = .ok (.isub, 1) := by decide +kernel
theorem dX12_task_73 : decode cX12_task 73 = .ok (.ireturn, 1) := by decide +kernel
theorem dX12_crews_0 : decode cX12_crews 0 = .ok (.iload_n 1, 1) := by decide +kernel
theorem dX12_crews_1 : decode cX12_crews 1 = .ok (.iconst 1, 1) := by decide +kernel
theorem dX12_crews_2 : decode cX12_crews 2 = .ok (.iconst 4, 1) := by decide +kernel
theorem dX12_crews_3 : decode cX12_crews 3 = .ok (.invokestatic 217, 3) := by decide +kernel
theorem dX12_crews_6 : decode cX12_crews 6 = .ok (.ifCond .ne 6, 3) := by decide +kernel
theorem dX12_crews_9 : decode cX12_crews 9 = .ok (.bipush (-2), 2) := by decide +kernel
theorem dX12_crews_11 : decode cX12_crews 11 = .ok (.ireturn, 1) := by decide +kernel
theorem dX12_crews_12 : decode cX12_crews 12 = .ok (.aload_n 0, 1) := by decide +kernel
theorem dX12_crews_13 : decode cX12_crews 13 = .ok (.getfield 186, 3) := by decide +kernel
theorem dX12_crews_16 : decode cX12_crews 16 = .ok (.istore_n 2, 1) := by decide +kernel
theorem dX12_crews_17 : decode cX12_crews 17 = .ok (.aload_n 0, 1) := by decide +kernel
theorem dX12_crews_18 : decode cX12_crews 18 = .ok (.iload_n 1, 1) := by decide +kernel
theorem dX12_crews_19 : decode cX12_crews 19 = .ok (.putfield 186, 3) := by decide +kernel
theorem dX12_crews_22 : decode cX12_crews 22 = .ok (.iload_n 2, 1) := by decide +kernel
theorem dX12_crews_23 : decode cX12_crews 23 = .ok (.ireturn, 1) := by decide +kernel
theorem dX12_works_0 : decode cX12_works 0 = .ok (.iconst 0, 1) := by decide +kernel
theorem dX12_works_1 : decode cX12_works 1 = .ok (.istore_n 1, 1) := by decide +kernel
theorem dX12_works_2 : decode cX12_works 2 = .ok (.iconst 0, 1) := by decide +kernel
theorem dX12_works_3 : decode cX12_works 3 = .ok (.istore_n 2, 1) := by decide +kernel
theorem dX12_works_4 : decode cX12_works 4 = .ok (.iload_n 2, 1) := by decide +kernel
theorem dX12_works_5 : decode cX12_works 5 = .ok (.iconst 4, 1) := by decide +kernel
theorem dX12_works_6 : decode cX12_works 6 = .ok (.if_icmp .ge 16, 3) := by decide +kernel
theorem dX12_works_9 : decode cX12_works 9 = .ok (.aload_n 0, 1) := by decide +kernel
theorem dX12_works_10 : decode cX12_works 10 = .ok (.getfield 189, 3) := by decide +kernel
theorem dX12_works_13 : decode cX12_works 13 = .ok (.iload_n 2, 1) := by decide +kernel
theorem dX12_works_14 : decode cX12_works 14 = .ok (.iconst 0, 1) := by decide +kernel
theorem dX12_works_15 : decode cX12_works 15 = .ok (.iastore, 1) := by decide +kernel
theorem dX12_works_16 : decode cX12_works 16 = .ok (.iinc 2 1, 3) := by decide +kernel
theorem dX12_works_19 : decode cX12_works 19 = .ok (.goto (-15), 3) := by decide +kernel
theorem dX12_works_22 : decode cX12_works 22 = .ok (.iconst 0, 1) := by decide +kernel
theorem dX12_works_23 : decode cX12_works 23 = .ok (.istore_n 2, 1) := by decide +kernel
theorem dX12_works_24 : decode cX12_works 24 = .ok (.iload_n 2, 1) := by decide +kernel
theorem dX12_works_25 : decode cX12_works 25 = .ok (.aload_n 0, 1) := by decide +kernel
theorem dX12_works_26 : decode cX12_works 26 = .ok (.getfield 437, 3) := by decide +kernel
theorem dX12_works_29 : decode cX12_works 29 = .ok (.if_icmp .ge 155, 3) := by decide +kernel
theorem dX12_works_32 : decode cX12_works 32 = .ok (.iconst (-1), 1) := by decide +kernel
theorem dX12_works_33 : decode cX12_works 33 = .ok (.istore_n 3, 1) := by decide +kernel
theorem dX12_works_34 : decode cX12_works 34 = .ok (.iconst 0, 1) := by decide +kernel
theorem dX12_works_35 : decode cX12_works 35 = .ok (.istore 4, 2) := by decide +kernel
theorem dX12_works_37 : decode cX12_works 37 = .ok (.iload 4, 2) := by decide +kernel
theorem dX12_works_39 : decode cX12_works 39 = .ok (.aload_n 0, 1) := by decide +kernel
theorem dX12_works_40 : decode cX12_works 40 = .ok (.getfield 437, 3) := by decide +kernel
theorem dX12_works_43 : decode cX12_works 43 = .ok (.if_icmp .ge 46, 3) := by decide +kernel
theorem dX12_works_46 : decode cX12_works 46 = .ok (.iload_n 1, 1) := by decide +kernel
theorem dX12_works_47 : decode cX12_works 47 = .ok (.iload 4, 2) := by decide +kernel
theorem dX12_works_49 : decode cX12_works 49 = .ok (.ishr, 1) := by decide +kernel
theorem dX12_works_50 : decode cX12_works 50 = .ok (.iconst 1, 1) := by decide +kernel
theorem dX12_works_51 : decode cX12_works 51 = .ok (.iand, 1) := by decide +kernel
theorem dX12_works_52 : decode cX12_works 52 = .ok (.ifCond .ne 29, 3) := by decide +kernel
theorem dX12_works_55 : decode cX12_works 55 = .ok (.iload_n 3, 1) := by decide +kernel
theorem dX12_works_56 : decode cX12_works 56 = .ok (.iconst (-1), 1) := by decide +kernel
theorem dX12_works_57 : decode cX12_works 57 = .ok (.if_icmp .eq 19, 3) := by decide +kernel
theorem dX12_works_60 : decode cX12_works 60 = .ok (.aload_n 0, 1) := by decide +kernel
theorem dX12_works_61 : decode cX12_works 61 = .ok (.getfield 180, 3) := by decide +kernel
theorem dX12_works_64 : decode cX12_works 64 = .ok (.iload 4, 2) := by decide +kernel
theorem dX12_works_66 : decode cX12_works 66 = .ok (.iaload, 1) := by decide +kernel
theorem dX12_works_67 : decode cX12_works 67 = .ok (.aload_n 0, 1) := by decide +kernel
theorem dX12_works_68 : decode cX12_works 68 = .ok (.getfield 180, 3) := by decide +kernel
theorem dX12_works_71 : decode cX12_works 71 = .ok (.iload_n 3, 1) := by decide +kernel
theorem dX12_works_72 : decode cX12_works 72 = .ok (.iaload, 1) := by decide +kernel
theorem dX12_works_73 : decode cX12_works 73 = .ok (.if_icmp .ge 8, 3) := by decide +kernel
theorem dX12_works_76 : decode cX12_works 76 = .ok (.iload 4, 2) := by decide +kernel
theorem dX12_works_78 : decode cX12_works 78 = .ok (.goto 4, 3) := by decide +kernel
theorem dX12_works_81 : decode cX12_works 81 = .ok (.iload_n 3, 1) := by decide +kernel
theorem dX12_works_82 : decode cX12_works 82 = .ok (.istore_n 3, 1) := by decide +kernel
theorem dX12_works_83 : decode cX12_works 83 = .ok (.iinc 4 1, 3) := by decide +kernel
theorem dX12_works_86 : decode cX12_works 86 = .ok (.goto (-49), 3) := by decide +kernel
theorem dX12_works_89 : decode cX12_works 89 = .ok (.iconst 0, 1) := by decide +kernel
theorem dX12_works_90 : decode cX12_works 90 = .ok (.istore 4, 2) := by decide +kernel
theorem dX12_works_92 : decode cX12_works 92 = .ok (.iconst 1, 1) := by decide +kernel
theorem dX12_works_93 : decode cX12_works 93 = .ok (.istore 5, 2) := by decide +kernel
theorem dX12_works_95 : decode cX12_works 95 = .ok (.iload 5, 2) := by decide +kernel
theorem dX12_works_97 : decode cX12_works 97 = .ok (.aload_n 0, 1) := by decide +kernel
theorem dX12_works_98 : decode cX12_works 98 = .ok (.getfield 186, 3) := by decide +kernel
theorem dX12_works_101 : decode cX12_works 101 = .ok (.if_icmp .ge 35, 3) := by decide +kernel
theorem dX12_works_104 : decode cX12_works 104 = .ok (.aload_n 0, 1) := by decide +kernel
theorem dX12_works_105 : decode cX12_works 105 = .ok (.getfield 189, 3) := by decide +kernel
theorem dX12_works_108 : decode cX12_works 108 = .ok (.iload 5, 2) := by decide +kernel
theorem dX12_works_110 : decode cX12_works 110 = .ok (.iaload, 1) := by decide +kernel
theorem dX12_works_111 : decode cX12_works 111 = .ok (.aload_n 0, 1) := by decide +kernel
theorem dX12_works_112 : decode cX12_works 112 = .ok (.getfield 189, 3) := by decide +kernel
theorem dX12_works_115 : decode cX12_works 115 = .ok (.iload 4, 2) := by decide +kernel
theorem dX12_works_117 : decode cX12_works 117 = .ok (.iaload, 1) := by decide +kernel
theorem dX12_works_118 : decode cX12_works 118 = .ok (.if_icmp .ge 8, 3) := by decide +kernel
theorem dX12_works_121 : decode cX12_works 121 = .ok (.iload 5, 2) := by decide +kernel
theorem dX12_works_123 : decode cX12_works 123 = .ok (.goto 5, 3) := by decide +kernel
theorem dX12_works_126 : decode cX12_works 126 = .ok (.iload 4, 2) := by decide +kernel
theorem dX12_works_128 : decode cX12_works 128 = .ok (.istore 4, 2) := by decide +kernel
theorem dX12_works_130 : decode cX12_works 130 = .ok (.iinc 5 1, 3) := by decide +kernel
theorem dX12_works_133 : decode cX12_works 133 = .ok (.goto (-38), 3) := by decide +kernel
theorem dX12_works_136 : decode cX12_works 136 = .ok (.aload_n 0, 1) := by decide +kernel
theorem dX12_works_137 : decode cX12_works 137 = .ok (.getfield 189, 3) := by decide +kernel
theorem dX12_works_140 : decode cX12_works 140 = .ok (.iload 4, 2) := by decide +kernel
theorem dX12_works_142 : decode cX12_works 142 = .ok (.dup2, 1) := by decide +kernel
theorem dX12_works_143 : decode cX12_works 143 = .ok (.iaload, 1) := by decide +kernel
theorem dX12_works_144 : decode cX12_works 144 = .ok (.aload_n 0, 1) := by decide +kernel
theorem dX12_works_145 : decode cX12_works 145 = .ok (.getfield 177, 3) := by decide +kernel
theorem dX12_works_148 : decode cX12_works 148 = .ok (.iload_n 3, 1) := by decide +kernel
theorem dX12_works_149 : decode cX12_works 149 = .ok (.iaload, 1) := by decide +kernel
theorem dX12_works_150 : decode cX12_works 150 = .ok (.iadd, 1) := by decide +kernel
theorem dX12_works_151 : decode cX12_works 151 = .ok (.iastore, 1) := by decide +kernel
theorem dX12_works_152 : decode cX12_works 152 = .ok (.aload_n 0, 1) := by decide +kernel
theorem dX12_works_153 : decode cX12_works 153 = .ok (.getfield 183, 3) := by decide +kernel
theorem dX12_works_156 : decode cX12_works 156 = .ok (.iload_n 3, 1) := by decide +kernel
theorem dX12_works_157 : decode cX12_works 157 = .ok (.aload_n 0, 1) := by decide +kernel
theorem dX12_works_158 : decode cX12_works 158 = .ok (.getfield 189, 3) := by decide +kernel
theorem dX12_works_161 : decode cX12_works 161 = .ok (.iload 4, 2) := by decide +kernel
theorem dX12_works_163 : decode cX12_works 163 = .ok (.iaload, 1) := by decide +kernel
theorem dX12_works_164 : decode cX12_works 164 = .ok (.aload_n 0, 1) := by decide +kernel
theorem dX12_works_165 : decode cX12_works 165 = .ok (.getfield 180, 3) := by decide +kernel
theorem dX12_works_168 : decode cX12_works 168 = .ok (.iload_n 3, 1) := by decide +kernel
theorem dX12_works_169 : decode cX12_works 169 = .ok (.iaload, 1) := by decide +kernel
theorem dX12_works_170 : decode cX12_works 170 = .ok (.isub, 1) := by decide +kernel
theorem dX12_works_171 : decode cX12_works 171 = .ok (.iastore, 1) := by decide +kernel
theorem dX12_works_172 : decode cX12_works 172 = .ok (.iload_n 1, 1) := by decide +kernel
theorem dX12_works_173 : decode cX12_works 173 = .ok (.iconst 1, 1) := by decide +kernel
theorem dX12_works_174 : decode cX12_works 174 = .ok (.iload_n 3, 1) := by decide +kernel
theorem dX12_works_175 : decode cX12_works 175 = .ok (.ishl, 1) := by decide +kernel
theorem dX12_works_176 : decode cX12_works 176 = .ok (.ior, 1) := by decide +kernel
theorem dX12_works_177 : decode cX12_works 177 = .ok (.istore_n 1, 1) := by decide +kernel
theorem dX12_works_178 : decode cX12_works 178 = .ok (.iinc 2 1, 3) := by decide +kernel
theorem dX12_works_181 : decode cX12_works 181 = .ok (.goto (-157), 3) := by decide +kernel
theorem dX12_works_184 : decode cX12_works 184 = .ok (.return_, 1) := by decide +kernel
theorem dX12_late_0 : decode cX12_late 0 = .ok (.iload_n 1, 1) := by decide +kernel
theorem dX12_late_1 : decode cX12_late 1 = .ok (.iconst 0, 1) := by decide +kernel
theorem dX12_late_2 : decode cX12_late 2 = .ok (.aload_n 0, 1) := by decide +kernel
theorem dX12_late_3 : decode cX12_late 3 = .ok (.getfield 437, 3) := by decide +kernel
theorem dX12_late_6 : decode cX12_late 6 = .ok (.iconst 1, 1) := by decide +kernel
theorem dX12_late_7 : decode cX12_late 7 = .ok (.isub, 1) := by decide +kernel
theorem dX12_late_8 : decode cX12_late 8 = .ok (.invokestatic 217, 3) := by decide +kernel
theorem dX12_late_11 : decode cX12_late 11 = .ok (.ifCond .ne 7, 3) := by decide +kernel
theorem dX12_late_14 : decode cX12_late 14 = .ok (.sipush (-10000), 3) := by decide +kernel
theorem dX12_late_17 : decode cX12_late 17 = .ok (.ireturn, 1) := by decide +kernel
theorem dX12_late_18 : decode cX12_late 18 = .ok (.aload_n 0, 1) := by decide +kernel
theorem dX12_late_19 : decode cX12_late 19 = .ok (.invokevirtual 440, 3) := by decide +kernel
theorem dX12_late_22 : decode cX12_late 22 = .ok (.aload_n 0, 1) := by decide +kernel
theorem dX12_late_23 : decode cX12_late 23 = .ok (.getfield 183, 3) := by decide +kernel
theorem dX12_late_26 : decode cX12_late 26 = .ok (.iload_n 1, 1) := by decide +kernel
theorem dX12_late_27 : decode cX12_late 27 = .ok (.iaload, 1) := by decide +kernel
theorem dX12_late_28 : decode cX12_late 28 = .ok (.ireturn, 1) := by decide +kernel
theorem dX12_latest_0 : decode cX12_latest 0 = .ok (.iload_n 1, 1) := by decide +kernel
theorem dX12_latest_1 : decode cX12_latest 1 = .ok (.iconst 0, 1) := by decide +kernel
theorem dX12_latest_2 : decode cX12_latest 2 = .ok (.iconst 1, 1) := by decide +kernel
theorem dX12_latest_3 : decode cX12_latest 3 = .ok (.invokestatic 217, 3) := by decide +kernel
theorem dX12_latest_6 : decode cX12_latest 6 = .ok (.ifCond .ne 6, 3) := by decide +kernel
theorem dX12_latest_9 : decode cX12_latest 9 = .ok (.bipush (-2), 2) := by decide +kernel
theorem dX12_latest_11 : decode cX12_latest 11 = .ok (.ireturn, 1) := by decide +kernel
theorem dX12_latest_12 : decode cX12_latest 12 = .ok (.aload_n 0, 1) := by decide +kernel
theorem dX12_latest_13 : decode cX12_latest 13 = .ok (.invokevirtual 440, 3) := by decide +kernel
theorem dX12_latest_16 : decode cX12_latest 16 = .ok (.iconst 0, 1) := by decide +kernel
theorem dX12_latest_17 : decode cX12_latest 17 = .ok (.istore_n 2, 1) := by decide +kernel
theorem dX12_latest_18 : decode cX12_latest 18 = .ok (.iconst 0, 1) := by decide +kernel
theorem dX12_latest_19 : decode cX12_latest 19 = .ok (.istore_n 3, 1) := by decide +kernel
theorem dX12_latest_20 : decode cX12_latest 20 = .ok (.iconst 0, 1) := by decide +kernel
theorem dX12_latest_21 : decode cX12_latest 21 = .ok (.istore 4, 2) := by decide +kernel
theorem dX12_latest_23 : decode cX12_latest 23 = .ok (.iload 4, 2) := by decide +kernel
theorem dX12_latest_25 : decode cX12_latest 25 = .ok (.aload_n 0, 1) := by decide +kernel
theorem dX12_latest_26 : decode cX12_latest 26 = .ok (.getfield 437, 3) := by decide +kernel
theorem dX12_latest_29 : decode cX12_latest 29 = .ok (.if_icmp .ge 50, 3) := by decide +kernel
theorem dX12_latest_32 : decode cX12_latest 32 = .ok (.aload_n 0, 1) := by decide +kernel
theorem dX12_latest_33 : decode cX12_latest 33 = .ok (.getfield 183, 3) := by decide +kernel
theorem dX12_latest_36 : decode cX12_latest 36 = .ok (.iload 4, 2) := by decide +kernel
theorem dX12_latest_38 : decode cX12_latest 38 = .ok (.iaload, 1) := by decide +kernel
theorem dX12_latest_39 : decode cX12_latest 39 = .ok (.iload_n 2, 1) := by decide +kernel
theorem dX12_latest_40 : decode cX12_latest 40 = .ok (.if_icmp .le 13, 3) := by decide +kernel
theorem dX12_latest_43 : decode cX12_latest 43 = .ok (.aload_n 0, 1) := by decide +kernel
theorem dX12_latest_44 : decode cX12_latest 44 = .ok (.getfield 183, 3) := by decide +kernel
theorem dX12_latest_47 : decode cX12_latest 47 = .ok (.iload 4, 2) := by decide +kernel
theorem dX12_latest_49 : decode cX12_latest 49 = .ok (.iaload, 1) := by decide +kernel
theorem dX12_latest_50 : decode cX12_latest 50 = .ok (.goto 4, 3) := by decide +kernel
theorem dX12_latest_53 : decode cX12_latest 53 = .ok (.iload_n 2, 1) := by decide +kernel
theorem dX12_latest_54 : decode cX12_latest 54 = .ok (.istore_n 2, 1) := by decide +kernel
theorem dX12_latest_55 : decode cX12_latest 55 = .ok (.iload_n 3, 1) := by decide +kernel
theorem dX12_latest_56 : decode cX12_latest 56 = .ok (.aload_n 0, 1) := by decide +kernel
theorem dX12_latest_57 : decode cX12_latest 57 = .ok (.getfield 183, 3) := by decide +kernel
theorem dX12_latest_60 : decode cX12_latest 60 = .ok (.iload 4, 2) := by decide +kernel
theorem dX12_latest_62 : decode cX12_latest 62 = .ok (.iaload, 1) := by decide +kernel
theorem dX12_latest_63 : decode cX12_latest 63 = .ok (.ifCond .le 7, 3) := by decide +kernel
theorem dX12_latest_66 : decode cX12_latest 66 = .ok (.iconst 1, 1) := by decide +kernel
theorem dX12_latest_67 : decode cX12_latest 67 = .ok (.goto 4, 3) := by decide +kernel
theorem dX12_latest_70 : decode cX12_latest 70 = .ok (.iconst 0, 1) := by decide +kernel
theorem dX12_latest_71 : decode cX12_latest 71 = .ok (.iadd, 1) := by decide +kernel
theorem dX12_latest_72 : decode cX12_latest 72 = .ok (.istore_n 3, 1) := by decide +kernel
theorem dX12_latest_73 : decode cX12_latest 73 = .ok (.iinc 4 1, 3) := by decide +kernel
theorem dX12_latest_76 : decode cX12_latest 76 = .ok (.goto (-53), 3) := by decide +kernel
theorem dX12_latest_79 : decode cX12_latest 79 = .ok (.iload_n 1, 1) := by decide +kernel
theorem dX12_latest_80 : decode cX12_latest 80 = .ok (.ifCond .ne 7, 3) := by decide +kernel
theorem dX12_latest_83 : decode cX12_latest 83 = .ok (.iload_n 2, 1) := by decide +kernel
theorem dX12_latest_84 : decode cX12_latest 84 = .ok (.goto 4, 3) := by decide +kernel
theorem dX12_latest_87 : decode cX12_latest 87 = .ok (.iload_n 3, 1) := by decide +kernel
theorem dX12_latest_88 : decode cX12_latest 88 = .ok (.ireturn, 1) := by decide +kernel
theorem dX12_type_0 : decode cX12_type 0 = .ok (.iload_n 1, 1) := by decide +kernel
theorem dX12_type_1 : decode cX12_type 1 = .ok (.iconst 0, 1) := by decide +kernel
theorem dX12_type_2 : decode cX12_type 2 = .ok (.sipush 255, 3) := by decide +kernel
theorem dX12_type_5 : decode cX12_type 5 = .ok (.invokestatic 217, 3) := by decide +kernel
theorem dX12_type_8 : decode cX12_type 8 = .ok (.ifCond .ne 6, 3) := by decide +kernel
theorem dX12_type_11 : decode cX12_type 11 = .ok (.bipush (-2), 2) := by decide +kernel
theorem dX12_type_13 : decode cX12_type 13 = .ok (.ireturn, 1) := by decide +kernel
theorem dX12_type_14 : decode cX12_type 14 = .ok (.aload_n 0, 1) := by decide +kernel
theorem dX12_type_15 : decode cX12_type 15 = .ok (.getfield 443, 3) := by decide +kernel
theorem dX12_type_18 : decode cX12_type 18 = .ok (.bipush 80, 2) := by decide +kernel
theorem dX12_type_20 : decode cX12_type 20 = .ok (.if_icmp .ne 6, 3) := by decide +kernel
theorem dX12_type_23 : decode cX12_type 23 = .ok (.bipush (-4), 2) := by decide +kernel
theorem dX12_type_25 : decode cX12_type 25 = .ok (.ireturn, 1) := by decide +kernel
theorem dX12_type_26 : decode cX12_type 26 = .ok (.aload_n 0, 1) := by decide +kernel
theorem dX12_type_27 : decode cX12_type 27 = .ok (.getfield 192, 3) := by decide +kernel
theorem dX12_type_30 : decode cX12_type 30 = .ok (.aload_n 0, 1) := by decide +kernel
theorem dX12_type_31 : decode cX12_type 31 = .ok (.getfield 443, 3) := by decide +kernel
theorem dX12_type_34 : decode cX12_type 34 = .ok (.iload_n 1, 1) := by decide +kernel
theorem dX12_type_35 : decode cX12_type 35 = .ok (.iastore, 1) := by decide +kernel
theorem dX12_type_36 : decode cX12_type 36 = .ok (.aload_n 0, 1) := by decide +kernel
theorem dX12_type_37 : decode cX12_type 37 = .ok (.dup, 1) := by decide +kernel
theorem dX12_type_38 : decode cX12_type 38 = .ok (.getfield 443, 3) := by decide +kernel
theorem dX12_type_41 : decode cX12_type 41 = .ok (.iconst 1, 1) := by decide +kernel
theorem dX12_type_42 : decode cX12_type 42 = .ok (.iadd, 1) := by decide +kernel
theorem dX12_type_43 : decode cX12_type 43 = .ok (.putfield 443, 3) := by decide +kernel
theorem dX12_type_46 : decode cX12_type 46 = .ok (.aload_n 0, 1) := by decide +kernel
theorem dX12_type_47 : decode cX12_type 47 = .ok (.getfield 443, 3) := by decide +kernel
theorem dX12_type_50 : decode cX12_type 50 = .ok (.ireturn, 1) := by decide +kernel
theorem dX12_tear_0 : decode cX12_tear 0 = .ok (.aload_n 0, 1) := by decide +kernel
theorem dX12_tear_1 : decode cX12_tear 1 = .ok (.getfield 443, 3) := by decide +kernel
theorem dX12_tear_4 : decode cX12_tear 4 = .ok (.istore_n 1, 1) := by decide +kernel
theorem dX12_tear_5 : decode cX12_tear 5 = .ok (.aload_n 0, 1) := by decide +kernel
theorem dX12_tear_6 : decode cX12_tear 6 = .ok (.iconst 0, 1) := by decide +kernel
theorem dX12_tear_7 : decode cX12_tear 7 = .ok (.putfield 443, 3) := by decide +kernel
theorem dX12_tear_10 : decode cX12_tear 10 = .ok (.iload_n 1, 1) := by decide +kernel
theorem dX12_tear_11 : decode cX12_tear 11 = .ok (.ireturn, 1) := by decide +kernel
theorem dX12_byteAt_0 : decode cX12_byteAt 0 = .ok (.iload_n 1, 1) := by decide +kernel
theorem dX12_byteAt_1 : decode cX12_byteAt 1 = .ok (.aload_n 0, 1) := by decide +kernel
theorem dX12_byteAt_2 : decode cX12_byteAt 2 = .ok (.getfield 443, 3) := by decide +kernel
theorem dX12_byteAt_5 : decode cX12_byteAt 5 = .ok (.if_icmp .ge 12, 3) := by decide +kernel
theorem dX12_byteAt_8 : decode cX12_byteAt 8 = .ok (.aload_n 0, 1) := by decide +kernel
theorem dX12_byteAt_9 : decode cX12_byteAt 9 = .ok (.getfield 192, 3) := by decide +kernel
theorem dX12_byteAt_12 : decode cX12_byteAt 12 = .ok (.iload_n 1, 1) := by decide +kernel
theorem dX12_byteAt_13 : decode cX12_byteAt 13 = .ok (.iaload, 1) := by decide +kernel
theorem dX12_byteAt_14 : decode cX12_byteAt 14 = .ok (.goto 4, 3) := by decide +kernel
theorem dX12_byteAt_17 : decode cX12_byteAt 17 = .ok (.iconst (-1), 1) := by decide +kernel
theorem dX12_byteAt_18 : decode cX12_byteAt 18 = .ok (.ireturn, 1) := by decide +kernel
theorem dX12_leastOf_0 : decode cX12_leastOf 0 = .ok (.iload_n 0, 1) := by decide +kernel
theorem dX12_leastOf_1 : decode cX12_leastOf 1 = .ok (.bipush 100, 2) := by decide +kernel
theorem dX12_leastOf_3 : decode cX12_leastOf 3 = .ok (.if_icmp .eq 15, 3) := by decide +kernel
theorem dX12_leastOf_6 : decode cX12_leastOf 6 = .ok (.iload_n 0, 1) := by decide +kernel
theorem dX12_leastOf_7 : decode cX12_leastOf 7 = .ok (.bipush 98, 2) := by decide +kernel
theorem dX12_leastOf_9 : decode cX12_leastOf 9 = .ok (.if_icmp .eq 9, 3) := by decide +kernel
theorem dX12_leastOf_12 : decode cX12_leastOf 12 = .ok (.iload_n 0, 1) := by decide +kernel
theorem dX12_leastOf_13 : decode cX12_leastOf 13 = .ok (.bipush 102, 2) := by decide +kernel
theorem dX12_leastOf_15 : decode cX12_leastOf 15 = .ok (.if_icmp .ne 7, 3) := by decide +kernel
theorem dX12_leastOf_18 : decode cX12_leastOf 18 = .ok (.iconst 1, 1) := by decide +kernel
theorem dX12_leastOf_19 : decode cX12_leastOf 19 = .ok (.goto 4, 3) := by decide +kernel
theorem dX12_leastOf_22 : decode cX12_leastOf 22 = .ok (.iconst 0, 1) := by decide +kernel
theorem dX12_leastOf_23 : decode cX12_leastOf 23 = .ok (.ireturn, 1) := by decide +kernel
theorem dX12_mostOf_0 : decode cX12_mostOf 0 = .ok (.iload_n 0, 1) := by decide +kernel
theorem dX12_mostOf_1 : decode cX12_mostOf 1 = .ok (.bipush 100, 2) := by decide +kernel
theorem dX12_mostOf_3 : decode cX12_mostOf 3 = .ok (.if_icmp .eq 9, 3) := by decide +kernel
theorem dX12_mostOf_6 : decode cX12_mostOf 6 = .ok (.iload_n 0, 1) := by decide +kernel
theorem dX12_mostOf_7 : decode cX12_mostOf 7 = .ok (.bipush 98, 2) := by decide +kernel
theorem dX12_mostOf_9 : decode cX12_mostOf 9 = .ok (.if_icmp .ne 8, 3) := by decide +kernel
theorem dX12_mostOf_12 : decode cX12_mostOf 12 = .ok (.bipush 40, 2) := by decide +kernel
theorem dX12_mostOf_14 : decode cX12_mostOf 14 = .ok (.goto 42, 3) := by decide +kernel
theorem dX12_mostOf_17 : decode cX12_mostOf 17 = .ok (.iload_n 0, 1) := by decide +kernel
theorem dX12_mostOf_18 : decode cX12_mostOf 18 = .ok (.bipush 108, 2) := by decide +kernel
theorem dX12_mostOf_20 : decode cX12_mostOf 20 = .ok (.if_icmp .eq 9, 3) := by decide +kernel
theorem dX12_mostOf_23 : decode cX12_mostOf 23 = .ok (.iload_n 0, 1) := by decide +kernel
theorem dX12_mostOf_24 : decode cX12_mostOf 24 = .ok (.bipush 114, 2) := by decide +kernel
theorem dX12_mostOf_26 : decode cX12_mostOf 26 = .ok (.if_icmp .ne 7, 3) := by decide +kernel
theorem dX12_mostOf_29 : decode cX12_mostOf 29 = .ok (.iconst 3, 1) := by decide +kernel
theorem dX12_mostOf_30 : decode cX12_mostOf 30 = .ok (.goto 26, 3) := by decide +kernel
theorem dX12_mostOf_33 : decode cX12_mostOf 33 = .ok (.iload_n 0, 1) := by decide +kernel
theorem dX12_mostOf_34 : decode cX12_mostOf 34 = .ok (.bipush 119, 2) := by decide +kernel
theorem dX12_mostOf_36 : decode cX12_mostOf 36 = .ok (.if_icmp .ne 8, 3) := by decide +kernel
theorem dX12_mostOf_39 : decode cX12_mostOf 39 = .ok (.bipush 9, 2) := by decide +kernel
theorem dX12_mostOf_41 : decode cX12_mostOf 41 = .ok (.goto 15, 3) := by decide +kernel
theorem dX12_mostOf_44 : decode cX12_mostOf 44 = .ok (.iload_n 0, 1) := by decide +kernel
theorem dX12_mostOf_45 : decode cX12_mostOf 45 = .ok (.bipush 102, 2) := by decide +kernel
theorem dX12_mostOf_47 : decode cX12_mostOf 47 = .ok (.if_icmp .ne 8, 3) := by decide +kernel
theorem dX12_mostOf_50 : decode cX12_mostOf 50 = .ok (.bipush 20, 2) := by decide +kernel
theorem dX12_mostOf_52 : decode cX12_mostOf 52 = .ok (.goto 4, 3) := by decide +kernel
theorem dX12_mostOf_55 : decode cX12_mostOf 55 = .ok (.iconst (-1), 1) := by decide +kernel
theorem dX12_mostOf_56 : decode cX12_mostOf 56 = .ok (.ireturn, 1) := by decide +kernel
theorem dX12_part_0 : decode cX12_part 0 = .ok (.aload_n 0, 1) := by decide +kernel
theorem dX12_part_1 : decode cX12_part 1 = .ok (.aload_n 0, 1) := by decide +kernel
theorem dX12_part_2 : decode cX12_part 2 = .ok (.getfield 446, 3) := by decide +kernel
theorem dX12_part_5 : decode cX12_part 5 = .ok (.invokevirtual 449, 3) := by decide +kernel
theorem dX12_part_8 : decode cX12_part 8 = .ok (.istore_n 1, 1) := by decide +kernel
theorem dX12_part_9 : decode cX12_part 9 = .ok (.iload_n 1, 1) := by decide +kernel
theorem dX12_part_10 : decode cX12_part 10 = .ok (.invokestatic 452, 3) := by decide +kernel
theorem dX12_part_13 : decode cX12_part 13 = .ok (.iconst (-1), 1) := by decide +kernel
theorem dX12_part_14 : decode cX12_part 14 = .ok (.if_icmp .ne 8, 3) := by decide +kernel
theorem dX12_part_17 : decode cX12_part 17 = .ok (.aload_n 0, 1) := by decide +kernel
theorem dX12_part_18 : decode cX12_part 18 = .ok (.getfield 446, 3) := by decide +kernel
theorem dX12_part_21 : decode cX12_part 21 = .ok (.ireturn, 1) := by decide +kernel
theorem dX12_part_22 : decode cX12_part 22 = .ok (.aload_n 0, 1) := by decide +kernel
theorem dX12_part_23 : decode cX12_part 23 = .ok (.dup, 1) := by decide +kernel
theorem dX12_part_24 : decode cX12_part 24 = .ok (.getfield 446, 3) := by decide +kernel
theorem dX12_part_27 : decode cX12_part 27 = .ok (.iconst 1, 1) := by decide +kernel
theorem dX12_part_28 : decode cX12_part 28 = .ok (.iadd, 1) := by decide +kernel
theorem dX12_part_29 : decode cX12_part 29 = .ok (.putfield 446, 3) := by decide +kernel
theorem dX12_part_32 : decode cX12_part 32 = .ok (.aload_n 0, 1) := by decide +kernel
theorem dX12_part_33 : decode cX12_part 33 = .ok (.getfield 446, 3) := by decide +kernel
theorem dX12_part_36 : decode cX12_part 36 = .ok (.istore_n 2, 1) := by decide +kernel
theorem dX12_part_37 : decode cX12_part 37 = .ok (.aload_n 0, 1) := by decide +kernel
theorem dX12_part_38 : decode cX12_part 38 = .ok (.iconst 0, 1) := by decide +kernel
theorem dX12_part_39 : decode cX12_part 39 = .ok (.putfield 455, 3) := by decide +kernel
theorem dX12_part_42 : decode cX12_part 42 = .ok (.aload_n 0, 1) := by decide +kernel
theorem dX12_part_43 : decode cX12_part 43 = .ok (.getfield 446, 3) := by decide +kernel
theorem dX12_part_46 : decode cX12_part 46 = .ok (.iload_n 2, 1) := by decide +kernel
theorem dX12_part_47 : decode cX12_part 47 = .ok (.iconst 2, 1) := by decide +kernel
theorem dX12_part_48 : decode cX12_part 48 = .ok (.iadd, 1) := by decide +kernel
theorem dX12_part_49 : decode cX12_part 49 = .ok (.if_icmp .ge 65, 3) := by decide +kernel
theorem dX12_part_52 : decode cX12_part 52 = .ok (.aload_n 0, 1) := by decide +kernel
theorem dX12_part_53 : decode cX12_part 53 = .ok (.aload_n 0, 1) := by decide +kernel
theorem dX12_part_54 : decode cX12_part 54 = .ok (.getfield 446, 3) := by decide +kernel
theorem dX12_part_57 : decode cX12_part 57 = .ok (.invokevirtual 449, 3) := by decide +kernel
theorem dX12_part_60 : decode cX12_part 60 = .ok (.bipush 48, 2) := by decide +kernel
theorem dX12_part_62 : decode cX12_part 62 = .ok (.if_icmp .lt 52, 3) := by decide +kernel
theorem dX12_part_65 : decode cX12_part 65 = .ok (.aload_n 0, 1) := by decide +kernel
theorem dX12_part_66 : decode cX12_part 66 = .ok (.aload_n 0, 1) := by decide +kernel
theorem dX12_part_67 : decode cX12_part 67 = .ok (.getfield 446, 3) := by decide +kernel
theorem dX12_part_70 : decode cX12_part 70 = .ok (.invokevirtual 449, 3) := by decide +kernel
theorem dX12_part_73 : decode cX12_part 73 = .ok (.bipush 57, 2) := by decide +kernel
theorem dX12_part_75 : decode cX12_part 75 = .ok (.if_icmp .gt 39, 3) := by decide +kernel
theorem dX12_part_78 : decode cX12_part 78 = .ok (.aload_n 0, 1) := by decide +kernel
theorem dX12_part_79 : decode cX12_part 79 = .ok (.bipush 10, 2) := by decide +kernel
theorem dX12_part_81 : decode cX12_part 81 = .ok (.aload_n 0, 1) := by decide +kernel
theorem dX12_part_82 : decode cX12_part 82 = .ok (.getfield 455, 3) := by decide +kernel
theorem dX12_part_85 : decode cX12_part 85 = .ok (.imul, 1) := by decide +kernel
theorem dX12_part_86 : decode cX12_part 86 = .ok (.aload_n 0, 1) := by decide +kernel
theorem dX12_part_87 : decode cX12_part 87 = .ok (.aload_n 0, 1) := by decide +kernel
theorem dX12_part_88 : decode cX12_part 88 = .ok (.getfield 446, 3) := by decide +kernel
theorem dX12_part_91 : decode cX12_part 91 = .ok (.invokevirtual 449, 3) := by decide +kernel
theorem dX12_part_94 : decode cX12_part 94 = .ok (.iadd, 1) := by decide +kernel
theorem dX12_part_95 : decode cX12_part 95 = .ok (.bipush 48, 2) := by decide +kernel
theorem dX12_part_97 : decode cX12_part 97 = .ok (.isub, 1) := by decide +kernel
theorem dX12_part_98 : decode cX12_part 98 = .ok (.putfield 455, 3) := by decide +kernel
theorem dX12_part_101 : decode cX12_part 101 = .ok (.aload_n 0, 1) := by decide +kernel
theorem dX12_part_102 : decode cX12_part 102 = .ok (.dup, 1) := by decide +kernel
theorem dX12_part_103 : decode cX12_part 103 = .ok (.getfield 446, 3) := by decide +kernel
theorem dX12_part_106 : decode cX12_part 106 = .ok (.iconst 1, 1) := by decide +kernel
theorem dX12_part_107 : decode cX12_part 107 = .ok (.iadd, 1) := by decide +kernel
theorem dX12_part_108 : decode cX12_part 108 = .ok (.putfield 446, 3) := by decide +kernel
theorem dX12_part_111 : decode cX12_part 111 = .ok (.goto (-69), 3) := by decide +kernel
theorem dX12_part_114 : decode cX12_part 114 = .ok (.aload_n 0, 1) := by decide +kernel
theorem dX12_part_115 : decode cX12_part 115 = .ok (.getfield 446, 3) := by decide +kernel
theorem dX12_part_118 : decode cX12_part 118 = .ok (.iload_n 2, 1) := by decide +kernel
theorem dX12_part_119 : decode cX12_part 119 = .ok (.if_icmp .eq 21, 3) := by decide +kernel
theorem dX12_part_122 : decode cX12_part 122 = .ok (.aload_n 0, 1) := by decide +kernel
theorem dX12_part_123 : decode cX12_part 123 = .ok (.getfield 455, 3) := by decide +kernel
theorem dX12_part_126 : decode cX12_part 126 = .ok (.iload_n 1, 1) := by decide +kernel
theorem dX12_part_127 : decode cX12_part 127 = .ok (.invokestatic 458, 3) := by decide +kernel
theorem dX12_part_130 : decode cX12_part 130 = .ok (.iload_n 1, 1) := by decide +kernel
theorem dX12_part_131 : decode cX12_part 131 = .ok (.invokestatic 452, 3) := by decide +kernel
theorem dX12_part_134 : decode cX12_part 134 = .ok (.invokestatic 217, 3) := by decide +kernel
theorem dX12_part_137 : decode cX12_part 137 = .ok (.ifCond .ne 7, 3) := by decide +kernel
theorem dX12_part_140 : decode cX12_part 140 = .ok (.iload_n 2, 1) := by decide +kernel
theorem dX12_part_141 : decode cX12_part 141 = .ok (.goto 4, 3) := by decide +kernel
theorem dX12_part_144 : decode cX12_part 144 = .ok (.iconst (-1), 1) := by decide +kernel
theorem dX12_part_145 : decode cX12_part 145 = .ok (.ireturn, 1) := by decide +kernel
theorem dX12_faultNow_0 : decode cX12_faultNow 0 = .ok (.aload_n 0, 1) := by decide +kernel
theorem dX12_faultNow_1 : decode cX12_faultNow 1 = .ok (.iconst 0, 1) := by decide +kernel
theorem dX12_faultNow_2 : decode cX12_faultNow 2 = .ok (.putfield 446, 3) := by decide +kernel
theorem dX12_faultNow_5 : decode cX12_faultNow 5 = .ok (.aload_n 0, 1) := by decide +kernel
theorem dX12_faultNow_6 : decode cX12_faultNow 6 = .ok (.invokevirtual 461, 3) := by decide +kernel
theorem dX12_faultNow_9 : decode cX12_faultNow 9 = .ok (.istore_n 1, 1) := by decide +kernel
theorem dX12_faultNow_10 : decode cX12_faultNow 10 = .ok (.iload_n 1, 1) := by decide +kernel
theorem dX12_faultNow_11 : decode cX12_faultNow 11 = .ok (.iconst (-1), 1) := by decide +kernel
theorem dX12_faultNow_12 : decode cX12_faultNow 12 = .ok (.if_icmp .ne 50, 3) := by decide +kernel
theorem dX12_faultNow_15 : decode cX12_faultNow 15 = .ok (.aload_n 0, 1) := by decide +kernel
theorem dX12_faultNow_16 : decode cX12_faultNow 16 = .ok (.getfield 446, 3) := by decide +kernel
theorem dX12_faultNow_19 : decode cX12_faultNow 19 = .ok (.aload_n 0, 1) := by decide +kernel
theorem dX12_faultNow_20 : decode cX12_faultNow 20 = .ok (.getfield 443, 3) := by decide +kernel
theorem dX12_faultNow_23 : decode cX12_faultNow 23 = .ok (.if_icmp .ge 39, 3) := by decide +kernel
theorem dX12_faultNow_26 : decode cX12_faultNow 26 = .ok (.aload_n 0, 1) := by decide +kernel
theorem dX12_faultNow_27 : decode cX12_faultNow 27 = .ok (.aload_n 0, 1) := by decide +kernel
theorem dX12_faultNow_28 : decode cX12_faultNow 28 = .ok (.getfield 446, 3) := by decide +kernel
theorem dX12_faultNow_31 : decode cX12_faultNow 31 = .ok (.invokevirtual 449, 3) := by decide +kernel
theorem dX12_faultNow_34 : decode cX12_faultNow 34 = .ok (.bipush 59, 2) := by decide +kernel
theorem dX12_faultNow_36 : decode cX12_faultNow 36 = .ok (.if_icmp .eq 8, 3) := by decide +kernel
theorem dX12_faultNow_39 : decode cX12_faultNow 39 = .ok (.aload_n 0, 1) := by decide +kernel
theorem dX12_faultNow_40 : decode cX12_faultNow 40 = .ok (.getfield 446, 3) := by decide +kernel
theorem dX12_faultNow_43 : decode cX12_faultNow 43 = .ok (.ireturn, 1) := by decide +kernel
theorem dX12_faultNow_44 : decode cX12_faultNow 44 = .ok (.aload_n 0, 1) := by decide +kernel
theorem dX12_faultNow_45 : decode cX12_faultNow 45 = .ok (.dup, 1) := by decide +kernel
theorem dX12_faultNow_46 : decode cX12_faultNow 46 = .ok (.getfield 446, 3) := by decide +kernel
theorem dX12_faultNow_49 : decode cX12_faultNow 49 = .ok (.iconst 1, 1) := by decide +kernel
theorem dX12_faultNow_50 : decode cX12_faultNow 50 = .ok (.iadd, 1) := by decide +kernel
theorem dX12_faultNow_51 : decode cX12_faultNow 51 = .ok (.putfield 446, 3) := by decide +kernel
theorem dX12_faultNow_54 : decode cX12_faultNow 54 = .ok (.aload_n 0, 1) := by decide +kernel
theorem dX12_faultNow_55 : decode cX12_faultNow 55 = .ok (.invokevirtual 461, 3) := by decide +kernel
theorem dX12_faultNow_58 : decode cX12_faultNow 58 = .ok (.istore_n 1, 1) := by decide +kernel
theorem dX12_faultNow_59 : decode cX12_faultNow 59 = .ok (.goto (-49), 3) := by decide +kernel
theorem dX12_faultNow_62 : decode cX12_faultNow 62 = .ok (.iload_n 1, 1) := by decide +kernel
theorem dX12_faultNow_63 : decode cX12_faultNow 63 = .ok (.ireturn, 1) := by decide +kernel
theorem dX12_fault_0 : decode cX12_fault 0 = .ok (.aload_n 0, 1) := by decide +kernel
theorem dX12_fault_1 : decode cX12_fault 1 = .ok (.invokevirtual 464, 3) := by decide +kernel
theorem dX12_fault_4 : decode cX12_fault 4 = .ok (.ireturn, 1) := by decide +kernel
theorem dX12_perform_0 : decode cX12_perform 0 = .ok (.aload_n 0, 1) := by decide +kernel
theorem dX12_perform_1 : decode cX12_perform 1 = .ok (.iload_n 1, 1) := by decide +kernel
theorem dX12_perform_2 : decode cX12_perform 2 = .ok (.invokevirtual 257, 3) := by decide +kernel
theorem dX12_perform_5 : decode cX12_perform 5 = .ok (.ifCond .ne 6, 3) := by decide +kernel
theorem dX12_perform_8 : decode cX12_perform 8 = .ok (.bipush (-2), 2) := by decide +kernel
theorem dX12_perform_10 : decode cX12_perform 10 = .ok (.ireturn, 1) := by decide +kernel
theorem dX12_perform_11 : decode cX12_perform 11 = .ok (.aload_n 0, 1) := by decide +kernel
theorem dX12_perform_12 : decode cX12_perform 12 = .ok (.invokevirtual 464, 3) := by decide +kernel
theorem dX12_perform_15 : decode cX12_perform 15 = .ok (.iconst (-1), 1) := by decide +kernel
theorem dX12_perform_16 : decode cX12_perform 16 = .ok (.if_icmp .ne 12, 3) := by decide +kernel
theorem dX12_perform_19 : decode cX12_perform 19 = .ok (.aload_n 0, 1) := by decide +kernel
theorem dX12_perform_20 : decode cX12_perform 20 = .ok (.getfield 71, 3) := by decide +kernel
theorem dX12_perform_23 : decode cX12_perform 23 = .ok (.iload_n 1, 1) := by decide +kernel
theorem dX12_perform_24 : decode cX12_perform 24 = .ok (.baload, 1) := by decide +kernel
theorem dX12_perform_25 : decode cX12_perform 25 = .ok (.ifCond .ne 6, 3) := by decide +kernel
theorem dX12_perform_28 : decode cX12_perform 28 = .ok (.bipush (-3), 2) := by decide +kernel
theorem dX12_perform_30 : decode cX12_perform 30 = .ok (.ireturn, 1) := by decide +kernel
theorem dX12_perform_31 : decode cX12_perform 31 = .ok (.iconst 0, 1) := by decide +kernel
theorem dX12_perform_32 : decode cX12_perform 32 = .ok (.istore_n 2, 1) := by decide +kernel
theorem dX12_perform_33 : decode cX12_perform 33 = .ok (.aload_n 0, 1) := by decide +kernel
theorem dX12_perform_34 : decode cX12_perform 34 = .ok (.iconst 0, 1) := by decide +kernel
theorem dX12_perform_35 : decode cX12_perform 35 = .ok (.putfield 446, 3) := by decide +kernel
theorem dX12_perform_38 : decode cX12_perform 38 = .ok (.aload_n 0, 1) := by decide +kernel
theorem dX12_perform_39 : decode cX12_perform 39 = .ok (.getfield 446, 3) := by decide +kernel
theorem dX12_perform_42 : decode cX12_perform 42 = .ok (.aload_n 0, 1) := by decide +kernel
theorem dX12_perform_43 : decode cX12_perform 43 = .ok (.getfield 443, 3) := by decide +kernel
theorem dX12_perform_46 : decode cX12_perform 46 = .ok (.if_icmp .ge 177, 3) := by decide +kernel
theorem dX12_perform_49 : decode cX12_perform 49 = .ok (.aload_n 0, 1) := by decide +kernel
theorem dX12_perform_50 : decode cX12_perform 50 = .ok (.aload_n 0, 1) := by decide +kernel
theorem dX12_perform_51 : decode cX12_perform 51 = .ok (.getfield 446, 3) := by decide +kernel
theorem dX12_perform_54 : decode cX12_perform 54 = .ok (.invokevirtual 449, 3) := by decide +kernel
theorem dX12_perform_57 : decode cX12_perform 57 = .ok (.istore_n 3, 1) := by decide +kernel
theorem dX12_perform_58 : decode cX12_perform 58 = .ok (.aload_n 0, 1) := by decide +kernel
theorem dX12_perform_59 : decode cX12_perform 59 = .ok (.invokevirtual 461, 3) := by decide +kernel
theorem dX12_perform_62 : decode cX12_perform 62 = .ok (.istore 4, 2) := by decide +kernel
theorem dX12_perform_64 : decode cX12_perform 64 = .ok (.aload_n 0, 1) := by decide +kernel
theorem dX12_perform_65 : decode cX12_perform 65 = .ok (.dup, 1) := by decide +kernel
theorem dX12_perform_66 : decode cX12_perform 66 = .ok (.getfield 446, 3) := by decide +kernel
theorem dX12_perform_69 : decode cX12_perform 69 = .ok (.iconst 1, 1) := by decide +kernel
theorem dX12_perform_70 : decode cX12_perform 70 = .ok (.iadd, 1) := by decide +kernel
theorem dX12_perform_71 : decode cX12_perform 71 = .ok (.putfield 446, 3) := by decide +kernel
theorem dX12_perform_74 : decode cX12_perform 74 = .ok (.iload_n 3, 1) := by decide +kernel
theorem dX12_perform_75 : decode cX12_perform 75 = .ok (.bipush 102, 2) := by decide +kernel
theorem dX12_perform_77 : decode cX12_perform 77 = .ok (.if_icmp .ne 14, 3) := by decide +kernel
theorem dX12_perform_80 : decode cX12_perform 80 = .ok (.aload_n 0, 1) := by decide +kernel
theorem dX12_perform_81 : decode cX12_perform 81 = .ok (.aload_n 0, 1) := by decide +kernel
theorem dX12_perform_82 : decode cX12_perform 82 = .ok (.getfield 455, 3) := by decide +kernel
theorem dX12_perform_85 : decode cX12_perform 85 = .ok (.putfield 86, 3) := by decide +kernel
theorem dX12_perform_88 : decode cX12_perform 88 = .ok (.goto 132, 3) := by decide +kernel
theorem dX12_perform_91 : decode cX12_perform 91 = .ok (.iload_n 3, 1) := by decide +kernel
theorem dX12_perform_92 : decode cX12_perform 92 = .ok (.bipush 119, 2) := by decide +kernel
theorem dX12_perform_94 : decode cX12_perform 94 = .ok (.if_icmp .ne 29, 3) := by decide +kernel
theorem dX12_perform_97 : decode cX12_perform 97 = .ok (.aload_n 0, 1) := by decide +kernel
theorem dX12_perform_98 : decode cX12_perform 98 = .ok (.getfield 455, 3) := by decide +kernel
theorem dX12_perform_101 : decode cX12_perform 101 = .ok (.aload_n 0, 1) := by decide +kernel
theorem dX12_perform_102 : decode cX12_perform 102 = .ok (.getfield 242, 3) := by decide +kernel
theorem dX12_perform_105 : decode cX12_perform 105 = .ok (.if_icmp .lt 5, 3) := by decide +kernel
theorem dX12_perform_108 : decode cX12_perform 108 = .ok (.iload_n 2, 1) := by decide +kernel
theorem dX12_perform_109 : decode cX12_perform 109 = .ok (.ireturn, 1) := by decide +kernel
theorem dX12_perform_110 : decode cX12_perform 110 = .ok (.aload_n 0, 1) := by decide +kernel
theorem dX12_perform_111 : decode cX12_perform 111 = .ok (.getfield 31, 3) := by decide +kernel
theorem dX12_perform_114 : decode cX12_perform 114 = .ok (.aload_n 0, 1) := by decide +kernel
theorem dX12_perform_115 : decode cX12_perform 115 = .ok (.getfield 455, 3) := by decide +kernel
theorem dX12_perform_118 : decode cX12_perform 118 = .ok (.iconst 1, 1) := by decide +kernel
theorem dX12_perform_119 : decode cX12_perform 119 = .ok (.bastore, 1) := by decide +kernel
theorem dX12_perform_120 : decode cX12_perform 120 = .ok (.goto 100, 3) := by decide +kernel
theorem dX12_perform_123 : decode cX12_perform 123 = .ok (.iload_n 3, 1) := by decide +kernel
theorem dX12_perform_124 : decode cX12_perform 124 = .ok (.bipush 100, 2) := by decide +kernel
theorem dX12_perform_126 : decode cX12_perform 126 = .ok (.if_icmp .eq 9, 3) := by decide +kernel
theorem dX12_perform_129 : decode cX12_perform 129 = .ok (.iload_n 3, 1) := by decide +kernel
theorem dX12_perform_130 : decode cX12_perform 130 = .ok (.bipush 98, 2) := by decide +kernel
theorem dX12_perform_132 : decode cX12_perform 132 = .ok (.if_icmp .ne 10, 3) := by decide +kernel
theorem dX12_perform_135 : decode cX12_perform 135 = .ok (.aload_n 0, 1) := by decide +kernel
theorem dX12_perform_136 : decode cX12_perform 136 = .ok (.getfield 455, 3) := by decide +kernel
theorem dX12_perform_139 : decode cX12_perform 139 = .ok (.goto 4, 3) := by decide +kernel
theorem dX12_perform_142 : decode cX12_perform 142 = .ok (.iconst 1, 1) := by decide +kernel
theorem dX12_perform_143 : decode cX12_perform 143 = .ok (.istore 5, 2) := by decide +kernel
theorem dX12_perform_145 : decode cX12_perform 145 = .ok (.iload_n 3, 1) := by decide +kernel
theorem dX12_perform_146 : decode cX12_perform 146 = .ok (.bipush 100, 2) := by decide +kernel
theorem dX12_perform_148 : decode cX12_perform 148 = .ok (.if_icmp .ne 7, 3) := by decide +kernel
theorem dX12_perform_151 : decode cX12_perform 151 = .ok (.iconst 0, 1) := by decide +kernel
theorem dX12_perform_152 : decode cX12_perform 152 = .ok (.goto 35, 3) := by decide +kernel
theorem dX12_perform_155 : decode cX12_perform 155 = .ok (.iload_n 3, 1) := by decide +kernel
theorem dX12_perform_156 : decode cX12_perform 156 = .ok (.bipush 98, 2) := by decide +kernel
theorem dX12_perform_158 : decode cX12_perform 158 = .ok (.if_icmp .ne 7, 3) := by decide +kernel
theorem dX12_perform_161 : decode cX12_perform 161 = .ok (.iconst 1, 1) := by decide +kernel
theorem dX12_perform_162 : decode cX12_perform 162 = .ok (.goto 25, 3) := by decide +kernel
theorem dX12_perform_165 : decode cX12_perform 165 = .ok (.iload_n 3, 1) := by decide +kernel
theorem dX12_perform_166 : decode cX12_perform 166 = .ok (.bipush 108, 2) := by decide +kernel
theorem dX12_perform_168 : decode cX12_perform 168 = .ok (.if_icmp .ne 12, 3) := by decide +kernel
theorem dX12_perform_171 : decode cX12_perform 171 = .ok (.iconst 2, 1) := by decide +kernel
theorem dX12_perform_172 : decode cX12_perform 172 = .ok (.aload_n 0, 1) := by decide +kernel
theorem dX12_perform_173 : decode cX12_perform 173 = .ok (.getfield 455, 3) := by decide +kernel
theorem dX12_perform_176 : decode cX12_perform 176 = .ok (.iadd, 1) := by decide +kernel
theorem dX12_perform_177 : decode cX12_perform 177 = .ok (.goto 10, 3) := by decide +kernel
theorem dX12_perform_180 : decode cX12_perform 180 = .ok (.bipush 6, 2) := by decide +kernel
theorem dX12_perform_182 : decode cX12_perform 182 = .ok (.aload_n 0, 1) := by decide +kernel
theorem dX12_perform_183 : decode cX12_perform 183 = .ok (.getfield 455, 3) := by decide +kernel
theorem dX12_perform_186 : decode cX12_perform 186 = .ok (.iadd, 1) := by decide +kernel
theorem dX12_perform_187 : decode cX12_perform 187 = .ok (.istore 6, 2) := by decide +kernel
theorem dX12_perform_189 : decode cX12_perform 189 = .ok (.iconst 0, 1) := by decide +kernel
theorem dX12_perform_190 : decode cX12_perform 190 = .ok (.istore 7, 2) := by decide +kernel
theorem dX12_perform_192 : decode cX12_perform 192 = .ok (.iload 7, 2) := by decide +kernel
theorem dX12_perform_194 : decode cX12_perform 194 = .ok (.iload 5, 2) := by decide +kernel
theorem dX12_perform_196 : decode cX12_perform 196 = .ok (.if_icmp .ge 24, 3) := by decide +kernel
theorem dX12_perform_199 : decode cX12_perform 199 = .ok (.aload_n 0, 1) := by decide +kernel
theorem dX12_perform_200 : decode cX12_perform 200 = .ok (.iload_n 1, 1) := by decide +kernel
theorem dX12_perform_201 : decode cX12_perform 201 = .ok (.iload 6, 2) := by decide +kernel
theorem dX12_perform_203 : decode cX12_perform 203 = .ok (.invokevirtual 337, 3) := by decide +kernel
theorem dX12_perform_206 : decode cX12_perform 206 = .ok (.ifCond .ne 5, 3) := by decide +kernel
theorem dX12_perform_209 : decode cX12_perform 209 = .ok (.iload_n 2, 1) := by decide +kernel
theorem dX12_perform_210 : decode cX12_perform 210 = .ok (.ireturn, 1) := by decide +kernel
theorem dX12_perform_211 : decode cX12_perform 211 = .ok (.iinc 2 1, 3) := by decide +kernel
theorem dX12_perform_214 : decode cX12_perform 214 = .ok (.iinc 7 1, 3) := by decide +kernel
theorem dX12_perform_217 : decode cX12_perform 217 = .ok (.goto (-25), 3) := by decide +kernel
theorem dX12_perform_220 : decode cX12_perform 220 = .ok (.goto (-182), 3) := by decide +kernel
theorem dX12_perform_223 : decode cX12_perform 223 = .ok (.iload_n 2, 1) := by decide +kernel
theorem dX12_perform_224 : decode cX12_perform 224 = .ok (.ireturn, 1) := by decide +kernel
theorem dX12_finds_0 : decode cX12_finds 0 = .ok (.aload_n 0, 1) := by decide +kernel
theorem dX12_finds_1 : decode cX12_finds 1 = .ok (.iload_n 1, 1) := by decide +kernel
theorem dX12_finds_2 : decode cX12_finds 2 = .ok (.putfield 467, 3) := by decide +kernel
theorem dX12_finds_5 : decode cX12_finds 5 = .ok (.bipush (-10), 2) := by decide +kernel
theorem dX12_finds_7 : decode cX12_finds 7 = .ok (.iload_n 1, 1) := by decide +kernel
theorem dX12_finds_8 : decode cX12_finds 8 = .ok (.isub, 1) := by decide +kernel
theorem dX12_finds_9 : decode cX12_finds 9 = .ok (.ireturn, 1) := by decide +kernel
theorem dX12_isSheet_0 : decode cX12_isSheet 0 = .ok (.iload_n 0, 1) := by decide +kernel
theorem dX12_isSheet_1 : decode cX12_isSheet 1 = .ok (.iconst 0, 1) := by decide +kernel
theorem dX12_isSheet_2 : decode cX12_isSheet 2 = .ok (.iconst 3, 1) := by decide +kernel
theorem dX12_isSheet_3 : decode cX12_isSheet 3 = .ok (.invokestatic 217, 3) := by decide +kernel
theorem dX12_isSheet_6 : decode cX12_isSheet 6 = .ok (.ireturn, 1) := by decide +kernel
theorem dX12_sheet_0 : decode cX12_sheet 0 = .ok (.iload_n 1, 1) := by decide +kernel
theorem dX12_sheet_1 : decode cX12_sheet 1 = .ok (.invokestatic 470, 3) := by decide +kernel
theorem dX12_sheet_4 : decode cX12_sheet 4 = .ok (.ifCond .eq 18, 3) := by decide +kernel
theorem dX12_sheet_7 : decode cX12_sheet 7 = .ok (.iload_n 2, 1) := by decide +kernel
theorem dX12_sheet_8 : decode cX12_sheet 8 = .ok (.iconst 0, 1) := by decide +kernel
theorem dX12_sheet_9 : decode cX12_sheet 9 = .ok (.iconst 2, 1) := by decide +kernel
theorem dX12_sheet_10 : decode cX12_sheet 10 = .ok (.invokestatic 217, 3) := by decide +kernel
theorem dX12_sheet_13 : decode cX12_sheet 13 = .ok (.ifCond .eq 9, 3) := by decide +kernel
theorem dX12_sheet_16 : decode cX12_sheet 16 = .ok (.iload_n 3, 1) := by decide +kernel
theorem dX12_sheet_17 : decode cX12_sheet 17 = .ok (.bipush 60, 2) := by decide +kernel
theorem dX12_sheet_19 : decode cX12_sheet 19 = .ok (.if_icmp .le 6, 3) := by decide +kernel
theorem dX12_sheet_22 : decode cX12_sheet 22 = .ok (.bipush (-2), 2) := by decide +kernel
theorem dX12_sheet_24 : decode cX12_sheet 24 = .ok (.ireturn, 1) := by decide +kernel
theorem dX12_sheet_25 : decode cX12_sheet 25 = .ok (.iload_n 3, 1) := by decide +kernel
theorem dX12_sheet_26 : decode cX12_sheet 26 = .ok (.ifCond .ge 9, 3) := by decide +kernel
theorem dX12_sheet_29 : decode cX12_sheet 29 = .ok (.aload_n 0, 1) := by decide +kernel
theorem dX12_sheet_30 : decode cX12_sheet 30 = .ok (.iconst 5, 1) := by decide +kernel
theorem dX12_sheet_31 : decode cX12_sheet 31 = .ok (.invokevirtual 473, 3) := by decide +kernel
theorem dX12_sheet_34 : decode cX12_sheet 34 = .ok (.ireturn, 1) := by decide +kernel
theorem dX12_sheet_35 : decode cX12_sheet 35 = .ok (.aload_n 0, 1) := by decide +kernel
theorem dX12_sheet_36 : decode cX12_sheet 36 = .ok (.getfield 195, 3) := by decide +kernel
theorem dX12_sheet_39 : decode cX12_sheet 39 = .ok (.iload_n 1, 1) := by decide +kernel
theorem dX12_sheet_40 : decode cX12_sheet 40 = .ok (.iconst 1, 1) := by decide +kernel
theorem dX12_sheet_41 : decode cX12_sheet 41 = .ok (.bastore, 1) := by decide +kernel
theorem dX12_sheet_42 : decode cX12_sheet 42 = .ok (.aload_n 0, 1) := by decide +kernel
theorem dX12_sheet_43 : decode cX12_sheet 43 = .ok (.getfield 198, 3) := by decide +kernel
theorem dX12_sheet_46 : decode cX12_sheet 46 = .ok (.iload_n 1, 1) := by decide +kernel
theorem dX12_sheet_47 : decode cX12_sheet 47 = .ok (.iload_n 2, 1) := by decide +kernel
theorem dX12_sheet_48 : decode cX12_sheet 48 = .ok (.iastore, 1) := by decide +kernel
theorem dX12_sheet_49 : decode cX12_sheet 49 = .ok (.aload_n 0, 1) := by decide +kernel
theorem dX12_sheet_50 : decode cX12_sheet 50 = .ok (.getfield 201, 3) := by decide +kernel
theorem dX12_sheet_53 : decode cX12_sheet 53 = .ok (.iload_n 1, 1) := by decide +kernel
theorem dX12_sheet_54 : decode cX12_sheet 54 = .ok (.iload_n 3, 1) := by decide +kernel
theorem dX12_sheet_55 : decode cX12_sheet 55 = .ok (.iastore, 1) := by decide +kernel
theorem dX12_sheet_56 : decode cX12_sheet 56 = .ok (.iconst 0, 1) := by decide +kernel
theorem dX12_sheet_57 : decode cX12_sheet 57 = .ok (.istore 4, 2) := by decide +kernel
theorem dX12_sheet_59 : decode cX12_sheet 59 = .ok (.iload 4, 2) := by decide +kernel
theorem dX12_sheet_61 : decode cX12_sheet 61 = .ok (.bipush 60, 2) := by decide +kernel
theorem dX12_sheet_63 : decode cX12_sheet 63 = .ok (.if_icmp .ge 22, 3) := by decide +kernel
theorem dX12_sheet_66 : decode cX12_sheet 66 = .ok (.aload_n 0, 1) := by decide +kernel
theorem dX12_sheet_67 : decode cX12_sheet 67 = .ok (.getfield 204, 3) := by decide +kernel
theorem dX12_sheet_70 : decode cX12_sheet 70 = .ok (.bipush 60, 2) := by decide +kernel
theorem dX12_sheet_72 : decode cX12_sheet 72 = .ok (.iload_n 1, 1) := by decide +kernel
theorem dX12_sheet_73 : decode cX12_sheet 73 = .ok (.imul, 1) := by decide +kernel
theorem dX12_sheet_74 : decode cX12_sheet 74 = .ok (.iload 4, 2) := by decide +kernel
theorem dX12_sheet_76 : decode cX12_sheet 76 = .ok (.iadd, 1) := by decide +kernel
theorem dX12_sheet_77 : decode cX12_sheet 77 = .ok (.iconst 0, 1) := by decide +kernel
theorem dX12_sheet_78 : decode cX12_sheet 78 = .ok (.iastore, 1) := by decide +kernel
theorem dX12_sheet_79 : decode cX12_sheet 79 = .ok (.iinc 4 1, 3) := by decide +kernel
theorem dX12_sheet_82 : decode cX12_sheet 82 = .ok (.goto (-23), 3) := by decide +kernel
theorem dX12_sheet_85 : decode cX12_sheet 85 = .ok (.iload_n 3, 1) := by decide +kernel
theorem dX12_sheet_86 : decode cX12_sheet 86 = .ok (.ireturn, 1) := by decide +kernel
theorem dX12_lose_0 : decode cX12_lose 0 = .ok (.iload_n 1, 1) := by decide +kernel
theorem dX12_lose_1 : decode cX12_lose 1 = .ok (.invokestatic 470, 3) := by decide +kernel
theorem dX12_lose_4 : decode cX12_lose 4 = .ok (.ifCond .ne 6, 3) := by decide +kernel
theorem dX12_lose_7 : decode cX12_lose 7 = .ok (.bipush (-2), 2) := by decide +kernel
theorem dX12_lose_9 : decode cX12_lose 9 = .ok (.ireturn, 1) := by decide +kernel
theorem dX12_lose_10 : decode cX12_lose 10 = .ok (.aload_n 0, 1) := by decide +kernel
theorem dX12_lose_11 : decode cX12_lose 11 = .ok (.getfield 195, 3) := by decide +kernel
theorem dX12_lose_14 : decode cX12_lose 14 = .ok (.iload_n 1, 1) := by decide +kernel
theorem dX12_lose_15 : decode cX12_lose 15 = .ok (.baload, 1) := by decide +kernel
theorem dX12_lose_16 : decode cX12_lose 16 = .ok (.ifCond .ne 9, 3) := by decide +kernel
theorem dX12_lose_19 : decode cX12_lose 19 = .ok (.aload_n 0, 1) := by decide +kernel
theorem dX12_lose_20 : decode cX12_lose 20 = .ok (.iconst 1, 1) := by decide +kernel
theorem dX12_lose_21 : decode cX12_lose 21 = .ok (.invokevirtual 473, 3) := by decide +kernel
theorem dX12_lose_24 : decode cX12_lose 24 = .ok (.ireturn, 1) := by decide +kernel
theorem dX12_lose_25 : decode cX12_lose 25 = .ok (.aload_n 0, 1) := by decide +kernel
theorem dX12_lose_26 : decode cX12_lose 26 = .ok (.getfield 195, 3) := by decide +kernel
theorem dX12_lose_29 : decode cX12_lose 29 = .ok (.iload_n 1, 1) := by decide +kernel
theorem dX12_lose_30 : decode cX12_lose 30 = .ok (.iconst 0, 1) := by decide +kernel
theorem dX12_lose_31 : decode cX12_lose 31 = .ok (.bastore, 1) := by decide +kernel
theorem dX12_lose_32 : decode cX12_lose 32 = .ok (.aload_n 0, 1) := by decide +kernel
theorem dX12_lose_33 : decode cX12_lose 33 = .ok (.getfield 201, 3) := by decide +kernel
theorem dX12_lose_36 : decode cX12_lose 36 = .ok (.iload_n 1, 1) := by decide +kernel
theorem dX12_lose_37 : decode cX12_lose 37 = .ok (.iaload, 1) := by decide +kernel
theorem dX12_lose_38 : decode cX12_lose 38 = .ok (.ireturn, 1) := by decide +kernel
theorem dX12_lacks_0 : decode cX12_lacks 0 = .ok (.aload_n 0, 1) := by decide +kernel
theorem dX12_lacks_1 : decode cX12_lacks 1 = .ok (.getfield 195, 3) := by decide +kernel
theorem dX12_lacks_4 : decode cX12_lacks 4 = .ok (.iload_n 1, 1) := by decide +kernel
theorem dX12_lacks_5 : decode cX12_lacks 5 = .ok (.baload, 1) := by decide +kernel
theorem dX12_lacks_6 : decode cX12_lacks 6 = .ok (.ifCond .ne 7, 3) := by decide +kernel
theorem dX12_lacks_9 : decode cX12_lacks 9 = .ok (.iconst 1, 1) := by decide +kernel
theorem dX12_lacks_10 : decode cX12_lacks 10 = .ok (.goto 38, 3) := by decide +kernel
theorem dX12_lacks_13 : decode cX12_lacks 13 = .ok (.aload_n 0, 1) := by decide +kernel
theorem dX12_lacks_14 : decode cX12_lacks 14 = .ok (.getfield 198, 3) := by decide +kernel
theorem dX12_lacks_17 : decode cX12_lacks 17 = .ok (.iload_n 1, 1) := by decide +kernel
theorem dX12_lacks_18 : decode cX12_lacks 18 = .ok (.iaload, 1) := by decide +kernel
theorem dX12_lacks_19 : decode cX12_lacks 19 = .ok (.iload_n 2, 1) := by decide +kernel
theorem dX12_lacks_20 : decode cX12_lacks 20 = .ok (.if_icmp .eq 7, 3) := by decide +kernel
theorem dX12_lacks_23 : decode cX12_lacks 23 = .ok (.iconst 3, 1) := by decide +kernel
theorem dX12_lacks_24 : decode cX12_lacks 24 = .ok (.goto 24, 3) := by decide +kernel
theorem dX12_lacks_27 : decode cX12_lacks 27 = .ok (.iload_n 3, 1) := by decide +kernel
theorem dX12_lacks_28 : decode cX12_lacks 28 = .ok (.iconst 0, 1) := by decide +kernel
theorem dX12_lacks_29 : decode cX12_lacks 29 = .ok (.aload_n 0, 1) := by decide +kernel
theorem dX12_lacks_30 : decode cX12_lacks 30 = .ok (.getfield 201, 3) := by decide +kernel
theorem dX12_lacks_33 : decode cX12_lacks 33 = .ok (.iload_n 1, 1) := by decide +kernel
theorem dX12_lacks_34 : decode cX12_lacks 34 = .ok (.iaload, 1) := by decide +kernel
theorem dX12_lacks_35 : decode cX12_lacks 35 = .ok (.iconst 1, 1) := by decide +kernel
theorem dX12_lacks_36 : decode cX12_lacks 36 = .ok (.isub, 1) := by decide +kernel
theorem dX12_lacks_37 : decode cX12_lacks 37 = .ok (.invokestatic 217, 3) := by decide +kernel
theorem dX12_lacks_40 : decode cX12_lacks 40 = .ok (.ifCond .eq 7, 3) := by decide +kernel
theorem dX12_lacks_43 : decode cX12_lacks 43 = .ok (.iconst 0, 1) := by decide +kernel
theorem dX12_lacks_44 : decode cX12_lacks 44 = .ok (.goto 4, 3) := by decide +kernel
theorem dX12_lacks_47 : decode cX12_lacks 47 = .ok (.iconst 2, 1) := by decide +kernel
theorem dX12_lacks_48 : decode cX12_lacks 48 = .ok (.ireturn, 1) := by decide +kernel
theorem dX12_put_0 : decode cX12_put 0 = .ok (.iload_n 1, 1) := by decide +kernel
theorem dX12_put_1 : decode cX12_put 1 = .ok (.invokestatic 470, 3) := by decide +kernel
theorem dX12_put_4 : decode cX12_put 4 = .ok (.ifCond .eq 12, 3) := by decide +kernel
theorem dX12_put_7 : decode cX12_put 7 = .ok (.iload_n 2, 1) := by decide +kernel
theorem dX12_put_8 : decode cX12_put 8 = .ok (.iconst 0, 1) := by decide +kernel
theorem dX12_put_9 : decode cX12_put 9 = .ok (.iconst 2, 1) := by decide +kernel
theorem dX12_put_10 : decode cX12_put 10 = .ok (.invokestatic 217, 3) := by decide +kernel
theorem dX12_put_13 : decode cX12_put 13 = .ok (.ifCond .ne 6, 3) := by decide +kernel
theorem dX12_put_16 : decode cX12_put 16 = .ok (.bipush (-2), 2) := by decide +kernel
theorem dX12_put_18 : decode cX12_put 18 = .ok (.ireturn, 1) := by decide +kernel
theorem dX12_put_19 : decode cX12_put 19 = .ok (.aload_n 0, 1) := by decide +kernel
theorem dX12_put_20 : decode cX12_put 20 = .ok (.iload_n 1, 1) := by decide +kernel
theorem dX12_put_21 : decode cX12_put 21 = .ok (.iload_n 2, 1) := by decide +kernel
theorem dX12_put_22 : decode cX12_put 22 = .ok (.iload_n 3, 1) := by decide +kernel
theorem dX12_put_23 : decode cX12_put 23 = .ok (.invokevirtual 476, 3) := by decide +kernel
theorem dX12_put_26 : decode cX12_put 26 = .ok (.istore 5, 2) := by decide +kernel
theorem dX12_put_28 : decode cX12_put 28 = .ok (.iload 5, 2) := by decide +kernel
theorem dX12_put_30 : decode cX12_put 30 = .ok (.ifCond .le 10, 3) := by decide +kernel
theorem dX12_put_33 : decode cX12_put 33 = .ok (.aload_n 0, 1) := by decide +kernel
theorem dX12_put_34 : decode cX12_put 34 = .ok (.iload 5, 2) := by decide +kernel
theorem dX12_put_36 : decode cX12_put 36 = .ok (.invokevirtual 473, 3) := by decide +kernel
theorem dX12_put_39 : decode cX12_put 39 = .ok (.ireturn, 1) := by decide +kernel
theorem dX12_put_40 : decode cX12_put 40 = .ok (.aload_n 0, 1) := by decide +kernel
theorem dX12_put_41 : decode cX12_put 41 = .ok (.getfield 204, 3) := by decide +kernel
theorem dX12_put_44 : decode cX12_put 44 = .ok (.bipush 60, 2) := by decide +kernel
theorem dX12_put_46 : decode cX12_put 46 = .ok (.iload_n 1, 1) := by decide +kernel
theorem dX12_put_47 : decode cX12_put 47 = .ok (.imul, 1) := by decide +kernel
theorem dX12_put_48 : decode cX12_put 48 = .ok (.iload_n 3, 1) := by decide +kernel
theorem dX12_put_49 : decode cX12_put 49 = .ok (.iadd, 1) := by decide +kernel
theorem dX12_put_50 : decode cX12_put 50 = .ok (.iload_n 2, 1) := by decide +kernel
theorem dX12_put_51 : decode cX12_put 51 = .ok (.ifCond .ne 9, 3) := by decide +kernel
theorem dX12_put_54 : decode cX12_put 54 = .ok (.iload 4, 2) := by decide +kernel
theorem dX12_put_56 : decode cX12_put 56 = .ok (.i2b, 1) := by decide +kernel
theorem dX12_put_57 : decode cX12_put 57 = .ok (.goto 16, 3) := by decide +kernel
theorem dX12_put_60 : decode cX12_put 60 = .ok (.iload_n 2, 1) := by decide +kernel
theorem dX12_put_61 : decode cX12_put 61 = .ok (.iconst 1, 1) := by decide +kernel
theorem dX12_put_62 : decode cX12_put 62 = .ok (.if_icmp .ne 9, 3) := by decide +kernel
theorem dX12_put_65 : decode cX12_put 65 = .ok (.iload 4, 2) := by decide +kernel
theorem dX12_put_67 : decode cX12_put 67 = .ok (.i2s, 1) := by decide +kernel
theorem dX12_put_68 : decode cX12_put 68 = .ok (.goto 5, 3) := by decide +kernel
theorem dX12_put_71 : decode cX12_put 71 = .ok (.iload 4, 2) := by decide +kernel
theorem dX12_put_73 : decode cX12_put 73 = .ok (.iastore, 1) := by decide +kernel
theorem dX12_put_74 : decode cX12_put 74 = .ok (.iconst 1, 1) := by decide +kernel
theorem dX12_put_75 : decode cX12_put 75 = .ok (.ireturn, 1) := by decide +kernel
theorem dX12_get_0 : decode cX12_get 0 = .ok (.iload_n 1, 1) := by decide +kernel
theorem dX12_get_1 : decode cX12_get 1 = .ok (.invokestatic 470, 3) := by decide +kernel
theorem dX12_get_4 : decode cX12_get 4 = .ok (.ifCond .eq 12, 3) := by decide +kernel
theorem dX12_get_7 : decode cX12_get 7 = .ok (.iload_n 2, 1) := by decide +kernel
theorem dX12_get_8 : decode cX12_get 8 = .ok (.iconst 0, 1) := by decide +kernel
theorem dX12_get_9 : decode cX12_get 9 = .ok (.iconst 2, 1) := by decide +kernel
theorem dX12_get_10 : decode cX12_get 10 = .ok (.invokestatic 217, 3) := by decide +kernel
theorem dX12_get_13 : decode cX12_get 13 = .ok (.ifCond .ne 7, 3) := by decide +kernel
theorem dX12_get_16 : decode cX12_get 16 = .ok (.ldc_w 329, 3) := by decide +kernel
theorem dX12_get_19 : decode cX12_get 19 = .ok (.ireturn, 1) := by decide +kernel
theorem dX12_get_20 : decode cX12_get 20 = .ok (.aload_n 0, 1) := by decide +kernel
theorem dX12_get_21 : decode cX12_get 21 = .ok (.iload_n 1, 1) := by decide +kernel
theorem dX12_get_22 : decode cX12_get 22 = .ok (.iload_n 2, 1) := by decide +kernel
theorem dX12_get_23 : decode cX12_get 23 = .ok (.iload_n 3, 1) := by decide +kernel
theorem dX12_get_24 : decode cX12_get 24 = .ok (.invokevirtual 476, 3) := by decide +kernel
theorem dX12_get_27 : decode cX12_get 27 = .ok (.istore 4, 2) := by decide +kernel
theorem dX12_get_29 : decode cX12_get 29 = .ok (.iload 4, 2) := by decide +kernel
theorem dX12_get_31 : decode cX12_get 31 = .ok (.ifCond .le 13, 3) := by decide +kernel
theorem dX12_get_34 : decode cX12_get 34 = .ok (.aload_n 0, 1) := by decide +kernel
theorem dX12_get_35 : decode cX12_get 35 = .ok (.iload 4, 2) := by decide +kernel
theorem dX12_get_37 : decode cX12_get 37 = .ok (.putfield 467, 3) := by decide +kernel
theorem dX12_get_40 : decode cX12_get 40 = .ok (.ldc_w 329, 3) := by decide +kernel
theorem dX12_get_43 : decode cX12_get 43 = .ok (.ireturn, 1) := by decide +kernel
theorem dX12_get_44 : decode cX12_get 44 = .ok (.aload_n 0, 1) := by decide +kernel
theorem dX12_get_45 : decode cX12_get 45 = .ok (.getfield 204, 3) := by decide +kernel
theorem dX12_get_48 : decode cX12_get 48 = .ok (.bipush 60, 2) := by decide +kernel
theorem dX12_get_50 : decode cX12_get 50 = .ok (.iload_n 1, 1) := by decide +kernel
theorem dX12_get_51 : decode cX12_get 51 = .ok (.imul, 1) := by decide +kernel
theorem dX12_get_52 : decode cX12_get 52 = .ok (.iload_n 3, 1) := by decide +kernel
theorem dX12_get_53 : decode cX12_get 53 = .ok (.iadd, 1) := by decide +kernel
theorem dX12_get_54 : decode cX12_get 54 = .ok (.iaload, 1) := by decide +kernel
theorem dX12_get_55 : decode cX12_get 55 = .ok (.ireturn, 1) := by decide +kernel
theorem dX12_copy_0 : decode cX12_copy 0 = .ok (.iload_n 1, 1) := by decide +kernel
theorem dX12_copy_1 : decode cX12_copy 1 = .ok (.invokestatic 470, 3) := by decide +kernel
theorem dX12_copy_4 : decode cX12_copy 4 = .ok (.ifCond .eq 10, 3) := by decide +kernel
theorem dX12_copy_7 : decode cX12_copy 7 = .ok (.iload_n 3, 1) := by decide +kernel
theorem dX12_copy_8 : decode cX12_copy 8 = .ok (.invokestatic 470, 3) := by decide +kernel
theorem dX12_copy_11 : decode cX12_copy 11 = .ok (.ifCond .ne 6, 3) := by decide +kernel
theorem dX12_copy_14 : decode cX12_copy 14 = .ok (.bipush (-2), 2) := by decide +kernel
theorem dX12_copy_16 : decode cX12_copy 16 = .ok (.ireturn, 1) := by decide +kernel
theorem dX12_copy_17 : decode cX12_copy 17 = .ok (.aload_n 0, 1) := by decide +kernel
theorem dX12_copy_18 : decode cX12_copy 18 = .ok (.getfield 195, 3) := by decide +kernel
theorem dX12_copy_21 : decode cX12_copy 21 = .ok (.iload_n 1, 1) := by decide +kernel
theorem dX12_copy_22 : decode cX12_copy 22 = .ok (.baload, 1) := by decide +kernel
theorem dX12_copy_23 : decode cX12_copy 23 = .ok (.ifCond .eq 12, 3) := by decide +kernel
theorem dX12_copy_26 : decode cX12_copy 26 = .ok (.aload_n 0, 1) := by decide +kernel
theorem dX12_copy_27 : decode cX12_copy 27 = .ok (.getfield 195, 3) := by decide +kernel
theorem dX12_copy_30 : decode cX12_copy 30 = .ok (.iload_n 3, 1) := by decide +kernel
theorem dX12_copy_31 : decode cX12_copy 31 = .ok (.baload, 1) := by decide +kernel
theorem dX12_copy_32 : decode cX12_copy 32 = .ok (.ifCond .ne 9, 3) := by decide +kernel
theorem dX12_copy_35 : decode cX12_copy 35 = .ok (.aload_n 0, 1) := by decide +kernel
theorem dX12_copy_36 : decode cX12_copy 36 = .ok (.iconst 1, 1) := by decide +kernel
theorem dX12_copy_37 : decode cX12_copy 37 = .ok (.invokevirtual 473, 3) := by decide +kernel
theorem dX12_copy_40 : decode cX12_copy 40 = .ok (.ireturn, 1) := by decide +kernel
theorem dX12_copy_41 : decode cX12_copy 41 = .ok (.aload_n 0, 1) := by decide +kernel
theorem dX12_copy_42 : decode cX12_copy 42 = .ok (.getfield 198, 3) := by decide +kernel
theorem dX12_copy_45 : decode cX12_copy 45 = .ok (.iload_n 1, 1) := by decide +kernel
theorem dX12_copy_46 : decode cX12_copy 46 = .ok (.iaload, 1) := by decide +kernel
theorem dX12_copy_47 : decode cX12_copy 47 = .ok (.aload_n 0, 1) := by decide +kernel
theorem dX12_copy_48 : decode cX12_copy 48 = .ok (.getfield 198, 3) := by decide +kernel
theorem dX12_copy_51 : decode cX12_copy 51 = .ok (.iload_n 3, 1) := by decide +kernel
theorem dX12_copy_52 : decode cX12_copy 52 = .ok (.iaload, 1) := by decide +kernel
theorem dX12_copy_53 : decode cX12_copy 53 = .ok (.if_icmp .eq 9, 3) := by decide +kernel
theorem dX12_copy_56 : decode cX12_copy 56 = .ok (.aload_n 0, 1) := by decide +kernel
theorem dX12_copy_57 : decode cX12_copy 57 = .ok (.iconst 4, 1) := by decide +kernel
theorem dX12_copy_58 : decode cX12_copy 58 = .ok (.invokevirtual 473, 3) := by decide +kernel
theorem dX12_copy_61 : decode cX12_copy 61 = .ok (.ireturn, 1) := by decide +kernel
theorem dX12_copy_62 : decode cX12_copy 62 = .ok (.iload_n 2, 1) := by decide +kernel
theorem dX12_copy_63 : decode cX12_copy 63 = .ok (.ifCond .lt 48, 3) := by decide +kernel
theorem dX12_copy_66 : decode cX12_copy 66 = .ok (.iload 4, 2) := by decide +kernel
theorem dX12_copy_68 : decode cX12_copy 68 = .ok (.ifCond .lt 43, 3) := by decide +kernel
theorem dX12_copy_71 : decode cX12_copy 71 = .ok (.iload 5, 2) := by decide +kernel
theorem dX12_copy_73 : decode cX12_copy 73 = .ok (.ifCond .lt 38, 3) := by decide +kernel
theorem dX12_copy_76 : decode cX12_copy 76 = .ok (.iload_n 2, 1) := by decide +kernel
theorem dX12_copy_77 : decode cX12_copy 77 = .ok (.i2l, 1) := by decide +kernel
theorem dX12_copy_78 : decode cX12_copy 78 = .ok (.iload 5, 2) := by decide +kernel
theorem dX12_copy_80 : decode cX12_copy 80 = .ok (.i2l, 1) := by decide +kernel
theorem dX12_copy_81 : decode cX12_copy 81 = .ok (.ladd, 1) := by decide +kernel
theorem dX12_copy_82 : decode cX12_copy 82 = .ok (.aload_n 0, 1) := by decide +kernel
theorem dX12_copy_83 : decode cX12_copy 83 = .ok (.getfield 201, 3) := by decide +kernel
theorem dX12_copy_86 : decode cX12_copy 86 = .ok (.iload_n 1, 1) := by decide +kernel
theorem dX12_copy_87 : decode cX12_copy 87 = .ok (.iaload, 1) := by decide +kernel
theorem dX12_copy_88 : decode cX12_copy 88 = .ok (.i2l, 1) := by decide +kernel
theorem dX12_copy_89 : decode cX12_copy 89 = .ok (.lcmp, 1) := by decide +kernel
theorem dX12_copy_90 : decode cX12_copy 90 = .ok (.ifCond .gt 21, 3) := by decide +kernel
theorem dX12_copy_93 : decode cX12_copy 93 = .ok (.iload 4, 2) := by decide +kernel
theorem dX12_copy_95 : decode cX12_copy 95 = .ok (.i2l, 1) := by decide +kernel
theorem dX12_copy_96 : decode cX12_copy 96 = .ok (.iload 5, 2) := by decide +kernel
theorem dX12_copy_98 : decode cX12_copy 98 = .ok (.i2l, 1) := by decide +kernel
theorem dX12_copy_99 : decode cX12_copy 99 = .ok (.ladd, 1) := by decide +kernel
theorem dX12_copy_100 : decode cX12_copy 100 = .ok (.aload_n 0, 1) := by decide +kernel
theorem dX12_copy_101 : decode cX12_copy 101 = .ok (.getfield 201, 3) := by decide +kernel
theorem dX12_copy_104 : decode cX12_copy 104 = .ok (.iload_n 3, 1) := by decide +kernel
theorem dX12_copy_105 : decode cX12_copy 105 = .ok (.iaload, 1) := by decide +kernel
theorem dX12_copy_106 : decode cX12_copy 106 = .ok (.i2l, 1) := by decide +kernel
theorem dX12_copy_107 : decode cX12_copy 107 = .ok (.lcmp, 1) := by decide +kernel
theorem dX12_copy_108 : decode cX12_copy 108 = .ok (.ifCond .le 9, 3) := by decide +kernel
theorem dX12_copy_111 : decode cX12_copy 111 = .ok (.aload_n 0, 1) := by decide +kernel
theorem dX12_copy_112 : decode cX12_copy 112 = .ok (.iconst 2, 1) := by decide +kernel
theorem dX12_copy_113 : decode cX12_copy 113 = .ok (.invokevirtual 473, 3) := by decide +kernel
theorem dX12_copy_116 : decode cX12_copy 116 = .ok (.ireturn, 1) := by decide +kernel
theorem dX12_copy_117 : decode cX12_copy 117 = .ok (.iconst 0, 1) := by decide +kernel
theorem dX12_copy_118 : decode cX12_copy 118 = .ok (.istore 6, 2) := by decide +kernel
theorem dX12_copy_120 : decode cX12_copy 120 = .ok (.iload 6, 2) := by decide +kernel
theorem dX12_copy_122 : decode cX12_copy 122 = .ok (.iload 5, 2) := by decide +kernel
theorem dX12_copy_124 : decode cX12_copy 124 = .ok (.if_icmp .ge 30, 3) := by decide +kernel
theorem dX12_copy_127 : decode cX12_copy 127 = .ok (.aload_n 0, 1) := by decide +kernel
theorem dX12_copy_128 : decode cX12_copy 128 = .ok (.getfield 207, 3) := by decide +kernel
theorem dX12_copy_131 : decode cX12_copy 131 = .ok (.iload 6, 2) := by decide +kernel
theorem dX12_copy_133 : decode cX12_copy 133 = .ok (.aload_n 0, 1) := by decide +kernel
theorem dX12_copy_134 : decode cX12_copy 134 = .ok (.getfield 204, 3) := by decide +kernel
theorem dX12_copy_137 : decode cX12_copy 137 = .ok (.bipush 60, 2) := by decide +kernel
theorem dX12_copy_139 : decode cX12_copy 139 = .ok (.iload_n 1, 1) := by decide +kernel
theorem dX12_copy_140 : decode cX12_copy 140 = .ok (.imul, 1) := by decide +kernel
theorem dX12_copy_141 : decode cX12_copy 141 = .ok (.iload_n 2, 1) := by decide +kernel
theorem dX12_copy_142 : decode cX12_copy 142 = .ok (.iadd, 1) := by decide +kernel
theorem dX12_copy_143 : decode cX12_copy 143 = .ok (.iload 6, 2) := by decide +kernel
theorem dX12_copy_145 : decode cX12_copy 145 = .ok (.iadd, 1) := by decide +kernel
theorem dX12_copy_146 : decode cX12_copy 146 = .ok (.iaload, 1) := by decide +kernel
theorem dX12_copy_147 : decode cX12_copy 147 = .ok (.iastore, 1) := by decide +kernel
theorem dX12_copy_148 : decode cX12_copy 148 = .ok (.iinc 6 1, 3) := by decide +kernel
theorem dX12_copy_151 : decode cX12_copy 151 = .ok (.goto (-31), 3) := by decide +kernel
theorem dX12_copy_154 : decode cX12_copy 154 = .ok (.iconst 0, 1) := by decide +kernel
theorem dX12_copy_155 : decode cX12_copy 155 = .ok (.istore 6, 2) := by decide +kernel
theorem dX12_copy_157 : decode cX12_copy 157 = .ok (.iload 6, 2) := by decide +kernel
theorem dX12_copy_159 : decode cX12_copy 159 = .ok (.iload 5, 2) := by decide +kernel
theorem dX12_copy_161 : decode cX12_copy 161 = .ok (.if_icmp .ge 31, 3) := by decide +kernel
theorem dX12_copy_164 : decode cX12_copy 164 = .ok (.aload_n 0, 1) := by decide +kernel
theorem dX12_copy_165 : decode cX12_copy 165 = .ok (.getfield 204, 3) := by decide +kernel
theorem dX12_copy_168 : decode cX12_copy 168 = .ok (.bipush 60, 2) := by decide +kernel
theorem dX12_copy_170 : decode cX12_copy 170 = .ok (.iload_n 3, 1) := by decide +kernel
theorem dX12_copy_171 : decode cX12_copy 171 = .ok (.imul, 1) := by decide +kernel
theorem dX12_copy_172 : decode cX12_copy 172 = .ok (.iload 4, 2) := by decide +kernel
theorem dX12_copy_174 : decode cX12_copy 174 = .ok (.iadd, 1) := by decide +kernel
theorem dX12_copy_175 : decode cX12_copy 175 = .ok (.iload 6, 2) := by decide +kernel
theorem dX12_copy_177 : decode cX12_copy 177 = .ok (.iadd, 1) := by decide +kernel
theorem dX12_copy_178 : decode cX12_copy 178 = .ok (.aload_n 0, 1) := by decide +kernel
theorem dX12_copy_179 : decode cX12_copy 179 = .ok (.getfield 207, 3) := by decide +kernel
theorem dX12_copy_182 : decode cX12_copy 182 = .ok (.iload 6, 2) := by decide +kernel
theorem dX12_copy_184 : decode cX12_copy 184 = .ok (.iaload, 1) := by decide +kernel
theorem dX12_copy_185 : decode cX12_copy 185 = .ok (.iastore, 1) := by decide +kernel
theorem dX12_copy_186 : decode cX12_copy 186 = .ok (.iinc 6 1, 3) := by decide +kernel
theorem dX12_copy_189 : decode cX12_copy 189 = .ok (.goto (-32), 3) := by decide +kernel
theorem dX12_copy_192 : decode cX12_copy 192 = .ok (.iconst 1, 1) := by decide +kernel
theorem dX12_copy_193 : decode cX12_copy 193 = .ok (.ireturn, 1) := by decide +kernel
theorem dX12_measure_0 : decode cX12_measure 0 = .ok (.iload_n 1, 1) := by decide +kernel
theorem dX12_measure_1 : decode cX12_measure 1 = .ok (.invokestatic 470, 3) := by decide +kernel
theorem dX12_measure_4 : decode cX12_measure 4 = .ok (.ifCond .ne 6, 3) := by decide +kernel
theorem dX12_measure_7 : decode cX12_measure 7 = .ok (.bipush (-2), 2) := by decide +kernel
theorem dX12_measure_9 : decode cX12_measure 9 = .ok (.ireturn, 1) := by decide +kernel
theorem dX12_measure_10 : decode cX12_measure 10 = .ok (.aload_n 0, 1) := by decide +kernel
theorem dX12_measure_11 : decode cX12_measure 11 = .ok (.getfield 195, 3) := by decide +kernel
theorem dX12_measure_14 : decode cX12_measure 14 = .ok (.iload_n 1, 1) := by decide +kernel
theorem dX12_measure_15 : decode cX12_measure 15 = .ok (.baload, 1) := by decide +kernel
theorem dX12_measure_16 : decode cX12_measure 16 = .ok (.ifCond .ne 9, 3) := by decide +kernel
theorem dX12_measure_19 : decode cX12_measure 19 = .ok (.aload_n 0, 1) := by decide +kernel
theorem dX12_measure_20 : decode cX12_measure 20 = .ok (.iconst 1, 1) := by decide +kernel
theorem dX12_measure_21 : decode cX12_measure 21 = .ok (.invokevirtual 473, 3) := by decide +kernel
theorem dX12_measure_24 : decode cX12_measure 24 = .ok (.ireturn, 1) := by decide +kernel
theorem dX12_measure_25 : decode cX12_measure 25 = .ok (.iconst 0, 1) := by decide +kernel
theorem dX12_measure_26 : decode cX12_measure 26 = .ok (.istore_n 2, 1) := by decide +kernel
theorem dX12_measure_27 : decode cX12_measure 27 = .ok (.iconst 0, 1) := by decide +kernel
theorem dX12_measure_28 : decode cX12_measure 28 = .ok (.istore_n 3, 1) := by decide +kernel
theorem dX12_measure_29 : decode cX12_measure 29 = .ok (.bipush 7, 2) := by decide +kernel
theorem dX12_measure_31 : decode cX12_measure 31 = .ok (.iload_n 3, 1) := by decide +kernel
theorem dX12_measure_32 : decode cX12_measure 32 = .ok (.imul, 1) := by decide +kernel
theorem dX12_measure_33 : decode cX12_measure 33 = .ok (.bipush 6, 2) := by decide +kernel
theorem dX12_measure_35 : decode cX12_measure 35 = .ok (.iadd, 1) := by decide +kernel
theorem dX12_measure_36 : decode cX12_measure 36 = .ok (.aload_n 0, 1) := by decide +kernel
theorem dX12_measure_37 : decode cX12_measure 37 = .ok (.getfield 201, 3) := by decide +kernel
theorem dX12_measure_40 : decode cX12_measure 40 = .ok (.iload_n 1, 1) := by decide +kernel
theorem dX12_measure_41 : decode cX12_measure 41 = .ok (.iaload, 1) := by decide +kernel
theorem dX12_measure_42 : decode cX12_measure 42 = .ok (.if_icmp .ge 94, 3) := by decide +kernel
theorem dX12_measure_45 : decode cX12_measure 45 = .ok (.bipush 60, 2) := by decide +kernel
theorem dX12_measure_47 : decode cX12_measure 47 = .ok (.iload_n 1, 1) := by decide +kernel
theorem dX12_measure_48 : decode cX12_measure 48 = .ok (.imul, 1) := by decide +kernel
theorem dX12_measure_49 : decode cX12_measure 49 = .ok (.bipush 7, 2) := by decide +kernel
theorem dX12_measure_51 : decode cX12_measure 51 = .ok (.iload_n 3, 1) := by decide +kernel
theorem dX12_measure_52 : decode cX12_measure 52 = .ok (.imul, 1) := by decide +kernel
theorem dX12_measure_53 : decode cX12_measure 53 = .ok (.iadd, 1) := by decide +kernel
theorem dX12_measure_54 : decode cX12_measure 54 = .ok (.istore 4, 2) := by decide +kernel
theorem dX12_measure_56 : decode cX12_measure 56 = .ok (.aload_n 0, 1) := by decide +kernel
theorem dX12_measure_57 : decode cX12_measure 57 = .ok (.aload_n 0, 1) := by decide +kernel
theorem dX12_measure_58 : decode cX12_measure 58 = .ok (.getfield 204, 3) := by decide +kernel
theorem dX12_measure_61 : decode cX12_measure 61 = .ok (.iload 4, 2) := by decide +kernel
theorem dX12_measure_63 : decode cX12_measure 63 = .ok (.iaload, 1) := by decide +kernel
theorem dX12_measure_64 : decode cX12_measure 64 = .ok (.aload_n 0, 1) := by decide +kernel
theorem dX12_measure_65 : decode cX12_measure 65 = .ok (.getfield 204, 3) := by decide +kernel
theorem dX12_measure_68 : decode cX12_measure 68 = .ok (.iload 4, 2) := by decide +kernel
theorem dX12_measure_70 : decode cX12_measure 70 = .ok (.iconst 1, 1) := by decide +kernel
theorem dX12_measure_71 : decode cX12_measure 71 = .ok (.iadd, 1) := by decide +kernel
theorem dX12_measure_72 : decode cX12_measure 72 = .ok (.iaload, 1) := by decide +kernel
theorem dX12_measure_73 : decode cX12_measure 73 = .ok (.aload_n 0, 1) := by decide +kernel
theorem dX12_measure_74 : decode cX12_measure 74 = .ok (.getfield 204, 3) := by decide +kernel
theorem dX12_measure_77 : decode cX12_measure 77 = .ok (.iload 4, 2) := by decide +kernel
theorem dX12_measure_79 : decode cX12_measure 79 = .ok (.iconst 2, 1) := by decide +kernel
theorem dX12_measure_80 : decode cX12_measure 80 = .ok (.iadd, 1) := by decide +kernel
theorem dX12_measure_81 : decode cX12_measure 81 = .ok (.iaload, 1) := by decide +kernel
theorem dX12_measure_82 : decode cX12_measure 82 = .ok (.aload_n 0, 1) := by decide +kernel
theorem dX12_measure_83 : decode cX12_measure 83 = .ok (.getfield 204, 3) := by decide +kernel
theorem dX12_measure_86 : decode cX12_measure 86 = .ok (.iload 4, 2) := by decide +kernel
theorem dX12_measure_88 : decode cX12_measure 88 = .ok (.iconst 3, 1) := by decide +kernel
theorem dX12_measure_89 : decode cX12_measure 89 = .ok (.iadd, 1) := by decide +kernel
theorem dX12_measure_90 : decode cX12_measure 90 = .ok (.iaload, 1) := by decide +kernel
theorem dX12_measure_91 : decode cX12_measure 91 = .ok (.aload_n 0, 1) := by decide +kernel
theorem dX12_measure_92 : decode cX12_measure 92 = .ok (.getfield 204, 3) := by decide +kernel
theorem dX12_measure_95 : decode cX12_measure 95 = .ok (.iload 4, 2) := by decide +kernel
theorem dX12_measure_97 : decode cX12_measure 97 = .ok (.iconst 4, 1) := by decide +kernel
theorem dX12_measure_98 : decode cX12_measure 98 = .ok (.iadd, 1) := by decide +kernel
theorem dX12_measure_99 : decode cX12_measure 99 = .ok (.iaload, 1) := by decide +kernel
theorem dX12_measure_100 : decode cX12_measure 100 = .ok (.aload_n 0, 1) := by decide +kernel
theorem dX12_measure_101 : decode cX12_measure 101 = .ok (.getfield 204, 3) := by decide +kernel
theorem dX12_measure_104 : decode cX12_measure 104 = .ok (.iload 4, 2) := by decide +kernel
theorem dX12_measure_106 : decode cX12_measure 106 = .ok (.iconst 5, 1) := by decide +kernel
theorem dX12_measure_107 : decode cX12_measure 107 = .ok (.iadd, 1) := by decide +kernel
theorem dX12_measure_108 : decode cX12_measure 108 = .ok (.iaload, 1) := by decide +kernel
theorem dX12_measure_109 : decode cX12_measure 109 = .ok (.aload_n 0, 1) := by decide +kernel
theorem dX12_measure_110 : decode cX12_measure 110 = .ok (.getfield 204, 3) := by decide +kernel
theorem dX12_measure_113 : decode cX12_measure 113 = .ok (.iload 4, 2) := by decide +kernel
theorem dX12_measure_115 : decode cX12_measure 115 = .ok (.bipush 6, 2) := by decide +kernel
theorem dX12_measure_117 : decode cX12_measure 117 = .ok (.iadd, 1) := by decide +kernel
theorem dX12_measure_118 : decode cX12_measure 118 = .ok (.iaload, 1) := by decide +kernel
theorem dX12_measure_119 : decode cX12_measure 119 = .ok (.invokevirtual 479, 3) := by decide +kernel
theorem dX12_measure_122 : decode cX12_measure 122 = .ok (.ifCond .ge 5, 3) := by decide +kernel
theorem dX12_measure_125 : decode cX12_measure 125 = .ok (.iload_n 2, 1) := by decide +kernel
theorem dX12_measure_126 : decode cX12_measure 126 = .ok (.ireturn, 1) := by decide +kernel
theorem dX12_measure_127 : decode cX12_measure 127 = .ok (.iinc 2 1, 3) := by decide +kernel
theorem dX12_measure_130 : decode cX12_measure 130 = .ok (.iinc 3 1, 3) := by decide +kernel
theorem dX12_measure_133 : decode cX12_measure 133 = .ok (.goto (-104), 3) := by decide +kernel
theorem dX12_measure_136 : decode cX12_measure 136 = .ok (.iload_n 2, 1) := by decide +kernel
theorem dX12_measure_137 : decode cX12_measure 137 = .ok (.ireturn, 1) := by decide +kernel
theorem dX12_count_0 : decode cX12_count 0 = .ok (.iconst 0, 1) := by decide +kernel
theorem dX12_count_1 : decode cX12_count 1 = .ok (.istore_n 2, 1) := by decide +kernel
theorem dX12_count_2 : decode cX12_count 2 = .ok (.iload_n 1, 1) := by decide +kernel
theorem dX12_count_3 : decode cX12_count 3 = .ok (.tableswitch 190 0 12 #[65, 70, 75, 110, 115, 120, 155, 160, 165, 170, 175, 180, 185], 65) := by decide +kernel
theorem dX12_count_68 : decode cX12_count 68 = .ok (.aload_n 0, 1) := by decide +kernel
theorem dX12_count_69 : decode cX12_count 69 = .ok (.getfield 232, 3) := by decide +kernel
theorem dX12_count_72 : decode cX12_count 72 = .ok (.ireturn, 1) := by decide +kernel
theorem dX12_count_73 : decode cX12_count 73 = .ok (.aload_n 0, 1) := by decide +kernel
theorem dX12_count_74 : decode cX12_count 74 = .ok (.getfield 239, 3) := by decide +kernel
theorem dX12_count_77 : decode cX12_count 77 = .ok (.ireturn, 1) := by decide +kernel
theorem dX12_count_78 : decode cX12_count 78 = .ok (.iconst 0, 1) := by decide +kernel
theorem dX12_count_79 : decode cX12_count 79 = .ok (.istore_n 3, 1) := by decide +kernel
theorem dX12_count_80 : decode cX12_count 80 = .ok (.iload_n 3, 1) := by decide +kernel
theorem dX12_count_81 : decode cX12_count 81 = .ok (.aload_n 0, 1) := by decide +kernel
theorem dX12_count_82 : decode cX12_count 82 = .ok (.getfield 242, 3) := by decide +kernel
theorem dX12_count_85 : decode cX12_count 85 = .ok (.if_icmp .ge 26, 3) := by decide +kernel
theorem dX12_count_88 : decode cX12_count 88 = .ok (.iload_n 2, 1) := by decide +kernel
theorem dX12_count_89 : decode cX12_count 89 = .ok (.aload_n 0, 1) := by decide +kernel
theorem dX12_count_90 : decode cX12_count 90 = .ok (.getfield 31, 3) := by decide +kernel
theorem dX12_count_93 : decode cX12_count 93 = .ok (.iload_n 3, 1) := by decide +kernel
theorem dX12_count_94 : decode cX12_count 94 = .ok (.baload, 1) := by decide +kernel
theorem dX12_count_95 : decode cX12_count 95 = .ok (.ifCond .eq 7, 3) := by decide +kernel
theorem dX12_count_98 : decode cX12_count 98 = .ok (.iconst 0, 1) := by decide +kernel
theorem dX12_count_99 : decode cX12_count 99 = .ok (.goto 4, 3) := by decide +kernel
theorem dX12_count_102 : decode cX12_count 102 = .ok (.iconst 1, 1) := by decide +kernel
theorem dX12_count_103 : decode cX12_count 103 = .ok (.iadd, 1) := by decide +kernel
theorem dX12_count_104 : decode cX12_count 104 = .ok (.istore_n 2, 1) := by decide +kernel
theorem dX12_count_105 : decode cX12_count 105 = .ok (.iinc 3 1, 3) := by decide +kernel
theorem dX12_count_108 : decode cX12_count 108 = .ok (.goto (-28), 3) := by decide +kernel
theorem dX12_count_111 : decode cX12_count 111 = .ok (.iload_n 2, 1) := by decide +kernel
theorem dX12_count_112 : decode cX12_count 112 = .ok (.ireturn, 1) := by decide +kernel
theorem dX12_count_113 : decode cX12_count 113 = .ok (.aload_n 0, 1) := by decide +kernel
theorem dX12_count_114 : decode cX12_count 114 = .ok (.getfield 245, 3) := by decide +kernel
theorem dX12_count_117 : decode cX12_count 117 = .ok (.ireturn, 1) := by decide +kernel
theorem dX12_count_118 : decode cX12_count 118 = .ok (.aload_n 0, 1) := by decide +kernel
theorem dX12_count_119 : decode cX12_count 119 = .ok (.getfield 254, 3) := by decide +kernel
theorem dX12_count_122 : decode cX12_count 122 = .ok (.ireturn, 1) := by decide +kernel
theorem dX12_count_123 : decode cX12_count 123 = .ok (.iconst 0, 1) := by decide +kernel
theorem dX12_count_124 : decode cX12_count 124 = .ok (.istore_n 3, 1) := by decide +kernel
theorem dX12_count_125 : decode cX12_count 125 = .ok (.iload_n 3, 1) := by decide +kernel
theorem dX12_count_126 : decode cX12_count 126 = .ok (.aload_n 0, 1) := by decide +kernel
theorem dX12_count_127 : decode cX12_count 127 = .ok (.getfield 254, 3) := by decide +kernel
theorem dX12_count_130 : decode cX12_count 130 = .ok (.if_icmp .ge 26, 3) := by decide +kernel
theorem dX12_count_133 : decode cX12_count 133 = .ok (.iload_n 2, 1) := by decide +kernel
theorem dX12_count_134 : decode cX12_count 134 = .ok (.aload_n 0, 1) := by decide +kernel
theorem dX12_count_135 : decode cX12_count 135 = .ok (.getfield 71, 3) := by decide +kernel
theorem dX12_count_138 : decode cX12_count 138 = .ok (.iload_n 3, 1) := by decide +kernel
theorem dX12_count_139 : decode cX12_count 139 = .ok (.baload, 1) := by decide +kernel
theorem dX12_count_140 : decode cX12_count 140 = .ok (.ifCond .eq 7, 3) := by decide +kernel
theorem dX12_count_143 : decode cX12_count 143 = .ok (.iconst 1, 1) := by decide +kernel
theorem dX12_count_144 : decode cX12_count 144 = .ok (.goto 4, 3) := by decide +kernel
theorem dX12_count_147 : decode cX12_count 147 = .ok (.iconst 0, 1) := by decide +kernel
theorem dX12_count_148 : decode cX12_count 148 = .ok (.iadd, 1) := by decide +kernel
theorem dX12_count_149 : decode cX12_count 149 = .ok (.istore_n 2, 1) := by decide +kernel
theorem dX12_count_150 : decode cX12_count 150 = .ok (.iinc 3 1, 3) := by decide +kernel
theorem dX12_count_153 : decode cX12_count 153 = .ok (.goto (-28), 3) := by decide +kernel
theorem dX12_count_156 : decode cX12_count 156 = .ok (.iload_n 2, 1) := by decide +kernel
theorem dX12_count_157 : decode cX12_count 157 = .ok (.ireturn, 1) := by decide +kernel
theorem dX12_count_158 : decode cX12_count 158 = .ok (.aload_n 0, 1) := by decide +kernel
theorem dX12_count_159 : decode cX12_count 159 = .ok (.getfield 420, 3) := by decide +kernel
theorem dX12_count_162 : decode cX12_count 162 = .ok (.ireturn, 1) := by decide +kernel
theorem dX12_count_163 : decode cX12_count 163 = .ok (.aload_n 0, 1) := by decide +kernel
theorem dX12_count_164 : decode cX12_count 164 = .ok (.getfield 437, 3) := by decide +kernel
theorem dX12_count_167 : decode cX12_count 167 = .ok (.ireturn, 1) := by decide +kernel
theorem dX12_count_168 : decode cX12_count 168 = .ok (.aload_n 0, 1) := by decide +kernel
theorem dX12_count_169 : decode cX12_count 169 = .ok (.getfield 443, 3) := by decide +kernel
theorem dX12_count_172 : decode cX12_count 172 = .ok (.ireturn, 1) := by decide +kernel
theorem dX12_count_173 : decode cX12_count 173 = .ok (.aload_n 0, 1) := by decide +kernel
theorem dX12_count_174 : decode cX12_count 174 = .ok (.getfield 467, 3) := by decide +kernel
theorem dX12_count_177 : decode cX12_count 177 = .ok (.ireturn, 1) := by decide +kernel
theorem dX12_count_178 : decode cX12_count 178 = .ok (.aload_n 0, 1) := by decide +kernel
theorem dX12_count_179 : decode cX12_count 179 = .ok (.getfield 396, 3) := by decide +kernel
theorem dX12_count_182 : decode cX12_count 182 = .ok (.ireturn, 1) := by decide +kernel
theorem dX12_count_183 : decode cX12_count 183 = .ok (.aload_n 0, 1) := by decide +kernel
theorem dX12_count_184 : decode cX12_count 184 = .ok (.getfield 399, 3) := by decide +kernel
theorem dX12_count_187 : decode cX12_count 187 = .ok (.ireturn, 1) := by decide +kernel
theorem dX12_count_188 : decode cX12_count 188 = .ok (.aload_n 0, 1) := by decide +kernel
theorem dX12_count_189 : decode cX12_count 189 = .ok (.getfield 86, 3) := by decide +kernel
theorem dX12_count_192 : decode cX12_count 192 = .ok (.ireturn, 1) := by decide +kernel
theorem dX12_count_193 : decode cX12_count 193 = .ok (.bipush (-2), 2) := by decide +kernel
theorem dX12_count_195 : decode cX12_count 195 = .ok (.ireturn, 1) := by decide +kernel
theorem dX12_digest_0 : decode cX12_digest 0 = .ok (.ldc2_w 483, 3) := by decide +kernel
theorem dX12_digest_3 : decode cX12_digest 3 = .ok (.lstore_n 1, 1) := by decide +kernel
theorem dX12_digest_4 : decode cX12_digest 4 = .ok (.iconst 0, 1) := by decide +kernel
theorem dX12_digest_5 : decode cX12_digest 5 = .ok (.istore_n 3, 1) := by decide +kernel
theorem dX12_digest_6 : decode cX12_digest 6 = .ok (.iload_n 3, 1) := by decide +kernel
theorem dX12_digest_7 : decode cX12_digest 7 = .ok (.bipush 13, 2) := by decide +kernel
theorem dX12_digest_9 : decode cX12_digest 9 = .ok (.if_icmp .ge 32, 3) := by decide +kernel
theorem dX12_digest_12 : decode cX12_digest 12 = .ok (.iload_n 3, 1) := by decide +kernel
theorem dX12_digest_13 : decode cX12_digest 13 = .ok (.bipush 9, 2) := by decide +kernel
theorem dX12_digest_15 : decode cX12_digest 15 = .ok (.if_icmp .ne 7, 3) := by decide +kernel
theorem dX12_digest_18 : decode cX12_digest 18 = .ok (.lload_n 1, 1) := by decide +kernel
theorem dX12_digest_19 : decode cX12_digest 19 = .ok (.goto 15, 3) := by decide +kernel
theorem dX12_digest_22 : decode cX12_digest 22 = .ok (.ldc2_w 485, 3) := by decide +kernel
theorem dX12_digest_25 : decode cX12_digest 25 = .ok (.lload_n 1, 1) := by decide +kernel
theorem dX12_digest_26 : decode cX12_digest 26 = .ok (.lmul, 1) := by decide +kernel
theorem dX12_digest_27 : decode cX12_digest 27 = .ok (.aload_n 0, 1) := by decide +kernel
theorem dX12_digest_28 : decode cX12_digest 28 = .ok (.iload_n 3, 1) := by decide +kernel
theorem dX12_digest_29 : decode cX12_digest 29 = .ok (.invokevirtual 487, 3) := by decide +kernel
theorem dX12_digest_32 : decode cX12_digest 32 = .ok (.i2l, 1) := by decide +kernel
theorem dX12_digest_33 : decode cX12_digest 33 = .ok (.ladd, 1) := by decide +kernel
theorem dX12_digest_34 : decode cX12_digest 34 = .ok (.lstore_n 1, 1) := by decide +kernel
theorem dX12_digest_35 : decode cX12_digest 35 = .ok (.iinc 3 1, 3) := by decide +kernel
theorem dX12_digest_38 : decode cX12_digest 38 = .ok (.goto (-32), 3) := by decide +kernel
theorem dX12_digest_41 : decode cX12_digest 41 = .ok (.iconst 0, 1) := by decide +kernel
theorem dX12_digest_42 : decode cX12_digest 42 = .ok (.istore_n 3, 1) := by decide +kernel
theorem dX12_digest_43 : decode cX12_digest 43 = .ok (.iload_n 3, 1) := by decide +kernel
theorem dX12_digest_44 : decode cX12_digest 44 = .ok (.aload_n 0, 1) := by decide +kernel
theorem dX12_digest_45 : decode cX12_digest 45 = .ok (.getfield 254, 3) := by decide +kernel
theorem dX12_digest_48 : decode cX12_digest 48 = .ok (.if_icmp .ge 40, 3) := by decide +kernel
theorem dX12_digest_51 : decode cX12_digest 51 = .ok (.iconst 0, 1) := by decide +kernel
theorem dX12_digest_52 : decode cX12_digest 52 = .ok (.istore 4, 2) := by decide +kernel
theorem dX12_digest_54 : decode cX12_digest 54 = .ok (.iload 4, 2) := by decide +kernel
theorem dX12_digest_56 : decode cX12_digest 56 = .ok (.bipush 10, 2) := by decide +kernel
theorem dX12_digest_58 : decode cX12_digest 58 = .ok (.if_icmp .ge 24, 3) := by decide +kernel
theorem dX12_digest_61 : decode cX12_digest 61 = .ok (.ldc2_w 485, 3) := by decide +kernel
theorem dX12_digest_64 : decode cX12_digest 64 = .ok (.lload_n 1, 1) := by decide +kernel
theorem dX12_digest_65 : decode cX12_digest 65 = .ok (.lmul, 1) := by decide +kernel
theorem dX12_digest_66 : decode cX12_digest 66 = .ok (.aload_n 0, 1) := by decide +kernel
theorem dX12_digest_67 : decode cX12_digest 67 = .ok (.iload_n 3, 1) := by decide +kernel
theorem dX12_digest_68 : decode cX12_digest 68 = .ok (.iload 4, 2) := by decide +kernel
theorem dX12_digest_70 : decode cX12_digest 70 = .ok (.invokevirtual 330, 3) := by decide +kernel
theorem dX12_digest_73 : decode cX12_digest 73 = .ok (.i2l, 1) := by decide +kernel
theorem dX12_digest_74 : decode cX12_digest 74 = .ok (.ladd, 1) := by decide +kernel
theorem dX12_digest_75 : decode cX12_digest 75 = .ok (.lstore_n 1, 1) := by decide +kernel
theorem dX12_digest_76 : decode cX12_digest 76 = .ok (.iinc 4 1, 3) := by decide +kernel
theorem dX12_digest_79 : decode cX12_digest 79 = .ok (.goto (-25), 3) := by decide +kernel
theorem dX12_digest_82 : decode cX12_digest 82 = .ok (.iinc 3 1, 3) := by decide +kernel
theorem dX12_digest_85 : decode cX12_digest 85 = .ok (.goto (-42), 3) := by decide +kernel
theorem dX12_digest_88 : decode cX12_digest 88 = .ok (.iconst 0, 1) := by decide +kernel
theorem dX12_digest_89 : decode cX12_digest 89 = .ok (.istore_n 3, 1) := by decide +kernel
theorem dX12_digest_90 : decode cX12_digest 90 = .ok (.iload_n 3, 1) := by decide +kernel
theorem dX12_digest_91 : decode cX12_digest 91 = .ok (.aload_n 0, 1) := by decide +kernel
theorem dX12_digest_92 : decode cX12_digest 92 = .ok (.getfield 254, 3) := by decide +kernel
theorem dX12_digest_95 : decode cX12_digest 95 = .ok (.if_icmp .ge 44, 3) := by decide +kernel
theorem dX12_digest_98 : decode cX12_digest 98 = .ok (.aload_n 0, 1) := by decide +kernel
theorem dX12_digest_99 : decode cX12_digest 99 = .ok (.getfield 71, 3) := by decide +kernel
theorem dX12_digest_102 : decode cX12_digest 102 = .ok (.iload_n 3, 1) := by decide +kernel
theorem dX12_digest_103 : decode cX12_digest 103 = .ok (.baload, 1) := by decide +kernel
theorem dX12_digest_104 : decode cX12_digest 104 = .ok (.ifCond .eq 29, 3) := by decide +kernel
theorem dX12_digest_107 : decode cX12_digest 107 = .ok (.ldc2_w 485, 3) := by decide +kernel
theorem dX12_digest_110 : decode cX12_digest 110 = .ok (.lload_n 1, 1) := by decide +kernel
theorem dX12_digest_111 : decode cX12_digest 111 = .ok (.lmul, 1) := by decide +kernel
theorem dX12_digest_112 : decode cX12_digest 112 = .ok (.aload_n 0, 1) := by decide +kernel
theorem dX12_digest_113 : decode cX12_digest 113 = .ok (.iload_n 3, 1) := by decide +kernel
theorem dX12_digest_114 : decode cX12_digest 114 = .ok (.invokevirtual 382, 3) := by decide +kernel
theorem dX12_digest_117 : decode cX12_digest 117 = .ok (.i2l, 1) := by decide +kernel
theorem dX12_digest_118 : decode cX12_digest 118 = .ok (.ladd, 1) := by decide +kernel
theorem dX12_digest_119 : decode cX12_digest 119 = .ok (.lstore_n 1, 1) := by decide +kernel
theorem dX12_digest_120 : decode cX12_digest 120 = .ok (.ldc2_w 485, 3) := by decide +kernel
theorem dX12_digest_123 : decode cX12_digest 123 = .ok (.lload_n 1, 1) := by decide +kernel
theorem dX12_digest_124 : decode cX12_digest 124 = .ok (.lmul, 1) := by decide +kernel
theorem dX12_digest_125 : decode cX12_digest 125 = .ok (.aload_n 0, 1) := by decide +kernel
theorem dX12_digest_126 : decode cX12_digest 126 = .ok (.iload_n 3, 1) := by decide +kernel
theorem dX12_digest_127 : decode cX12_digest 127 = .ok (.invokevirtual 393, 3) := by decide +kernel
theorem dX12_digest_130 : decode cX12_digest 130 = .ok (.i2l, 1) := by decide +kernel
theorem dX12_digest_131 : decode cX12_digest 131 = .ok (.ladd, 1) := by decide +kernel
theorem dX12_digest_132 : decode cX12_digest 132 = .ok (.lstore_n 1, 1) := by decide +kernel
theorem dX12_digest_133 : decode cX12_digest 133 = .ok (.iinc 3 1, 3) := by decide +kernel
theorem dX12_digest_136 : decode cX12_digest 136 = .ok (.goto (-46), 3) := by decide +kernel
theorem dX12_digest_139 : decode cX12_digest 139 = .ok (.aload_n 0, 1) := by decide +kernel
theorem dX12_digest_140 : decode cX12_digest 140 = .ok (.sipush 2000, 3) := by decide +kernel
theorem dX12_digest_143 : decode cX12_digest 143 = .ok (.invokevirtual 434, 3) := by decide +kernel
theorem dX12_digest_146 : decode cX12_digest 146 = .ok (.iconst 0, 1) := by decide +kernel
theorem dX12_digest_147 : decode cX12_digest 147 = .ok (.istore_n 3, 1) := by decide +kernel
theorem dX12_digest_148 : decode cX12_digest 148 = .ok (.iload_n 3, 1) := by decide +kernel
theorem dX12_digest_149 : decode cX12_digest 149 = .ok (.aload_n 0, 1) := by decide +kernel
theorem dX12_digest_150 : decode cX12_digest 150 = .ok (.getfield 420, 3) := by decide +kernel
theorem dX12_digest_153 : decode cX12_digest 153 = .ok (.if_icmp .ge 23, 3) := by decide +kernel
theorem dX12_digest_156 : decode cX12_digest 156 = .ok (.ldc2_w 485, 3) := by decide +kernel
theorem dX12_digest_159 : decode cX12_digest 159 = .ok (.lload_n 1, 1) := by decide +kernel
theorem dX12_digest_160 : decode cX12_digest 160 = .ok (.lmul, 1) := by decide +kernel
theorem dX12_digest_161 : decode cX12_digest 161 = .ok (.aload_n 0, 1) := by decide +kernel
theorem dX12_digest_162 : decode cX12_digest 162 = .ok (.getfield 174, 3) := by decide +kernel
theorem dX12_digest_165 : decode cX12_digest 165 = .ok (.iload_n 3, 1) := by decide +kernel
theorem dX12_digest_166 : decode cX12_digest 166 = .ok (.iaload, 1) := by decide +kernel
theorem dX12_digest_167 : decode cX12_digest 167 = .ok (.i2l, 1) := by decide +kernel
theorem dX12_digest_168 : decode cX12_digest 168 = .ok (.ladd, 1) := by decide +kernel
theorem dX12_digest_169 : decode cX12_digest 169 = .ok (.lstore_n 1, 1) := by decide +kernel
theorem dX12_digest_170 : decode cX12_digest 170 = .ok (.iinc 3 1, 3) := by decide +kernel
theorem dX12_digest_173 : decode cX12_digest 173 = .ok (.goto (-25), 3) := by decide +kernel
theorem dX12_digest_176 : decode cX12_digest 176 = .ok (.aload_n 0, 1) := by decide +kernel
theorem dX12_digest_177 : decode cX12_digest 177 = .ok (.invokevirtual 440, 3) := by decide +kernel
theorem dX12_digest_180 : decode cX12_digest 180 = .ok (.iconst 0, 1) := by decide +kernel
theorem dX12_digest_181 : decode cX12_digest 181 = .ok (.istore_n 3, 1) := by decide +kernel
theorem dX12_digest_182 : decode cX12_digest 182 = .ok (.iload_n 3, 1) := by decide +kernel
theorem dX12_digest_183 : decode cX12_digest 183 = .ok (.aload_n 0, 1) := by decide +kernel
theorem dX12_digest_184 : decode cX12_digest 184 = .ok (.getfield 437, 3) := by decide +kernel
theorem dX12_digest_187 : decode cX12_digest 187 = .ok (.if_icmp .ge 23, 3) := by decide +kernel
theorem dX12_digest_190 : decode cX12_digest 190 = .ok (.ldc2_w 485, 3) := by decide +kernel
theorem dX12_digest_193 : decode cX12_digest 193 = .ok (.lload_n 1, 1) := by decide +kernel
theorem dX12_digest_194 : decode cX12_digest 194 = .ok (.lmul, 1) := by decide +kernel
theorem dX12_digest_195 : decode cX12_digest 195 = .ok (.aload_n 0, 1) := by decide +kernel
theorem dX12_digest_196 : decode cX12_digest 196 = .ok (.getfield 183, 3) := by decide +kernel
theorem dX12_digest_199 : decode cX12_digest 199 = .ok (.iload_n 3, 1) := by decide +kernel
theorem dX12_digest_200 : decode cX12_digest 200 = .ok (.iaload, 1) := by decide +kernel
theorem dX12_digest_201 : decode cX12_digest 201 = .ok (.i2l, 1) := by decide +kernel
theorem dX12_digest_202 : decode cX12_digest 202 = .ok (.ladd, 1) := by decide +kernel
theorem dX12_digest_203 : decode cX12_digest 203 = .ok (.lstore_n 1, 1) := by decide +kernel
theorem dX12_digest_204 : decode cX12_digest 204 = .ok (.iinc 3 1, 3) := by decide +kernel
theorem dX12_digest_207 : decode cX12_digest 207 = .ok (.goto (-25), 3) := by decide +kernel
theorem dX12_digest_210 : decode cX12_digest 210 = .ok (.ldc2_w 485, 3) := by decide +kernel
theorem dX12_digest_213 : decode cX12_digest 213 = .ok (.lload_n 1, 1) := by decide +kernel
theorem dX12_digest_214 : decode cX12_digest 214 = .ok (.lmul, 1) := by decide +kernel
theorem dX12_digest_215 : decode cX12_digest 215 = .ok (.aload_n 0, 1) := by decide +kernel
theorem dX12_digest_216 : decode cX12_digest 216 = .ok (.invokevirtual 417, 3) := by decide +kernel
theorem dX12_digest_219 : decode cX12_digest 219 = .ok (.i2l, 1) := by decide +kernel
theorem dX12_digest_220 : decode cX12_digest 220 = .ok (.ladd, 1) := by decide +kernel
theorem dX12_digest_221 : decode cX12_digest 221 = .ok (.lreturn, 1) := by decide +kernel
def f_X12_gone (w : Wd) (a1 : Int32) : Option (Int32 × Wd) :=
q_gt w 63 59 (fun v_3 =>
if (f_X12_in a1 (0 : Int32) (v_3 - (1 : Int32))) = 0 then
some ((-2 : Int32), w)
else
q_bo (f_X12_days w (2000 : Int32)) (fun w_21 =>
q_ld w_21 113 4 a1 (fun v_29 =>
some (v_29, w_21))))
set_option maxRecDepth 100000 in
set_option maxHeartbeats 4000000 in
theorem c_X12_gone (l : Launch) (D : va_G) (cT : Nat → ClassId) (lo : Nat) (w : Wd) (ad : Nat → Nat) (a1 : Int32) (r : Int32) (w9 : Wd) (h : f_X12_gone w a1 = some (r, w9)) : Met l yX12_gone (.code yX12_gone cX12_gone 2 (some .int) :: TW) { frames := 4, cells := 0, slots := 0, locals := 92 } (mPc D cT lo NB w ad [.ref (ad 63), .int a1]) (mQ D cT lo NB w w9 ad (some (.int r))) 0 0 (fun q => lo ≤ q) := by
  unfold f_X12_gone at h
  refine x_met (lv := [(0, .ref (ad 63)), (1, .int a1)]) (by decide +kernel) (Nat.le_of_ble_eq_true rfl) rfl ?_
  intro p e s m args below meth c ls F hr hlk hP hin hl
  have hx := F.1
  have hb := F.2.1
  have hS : va_S (fun q => lo ≤ q) s.heap s.heap [] := va_S.rf
  have hM_w : mono w w := mono.refl
  refine lv_iload_n hx hb dX12_gone_0 rfl (lv_at hl 1 rfl) ?_
  refine lv_iconst (v := 0) hx hb dX12_gone_1 ic_0 ?_
  refine lv_aload_n hx hb dX12_gone_2 rfl (lv_at hl 0 rfl) ?_
  refine y_geti h F hP k_63 (n2 (hP.al 63 rfl)) fl_X12_420 rfl dX12_gone_3 (fun v_3 h => ?_)
  refine lv_iconst (v := 1) hx hb dX12_gone_6 ic_1 ?_
  refine lv_isub hx hb dX12_gone_7 ?_
  refine x_goesZ (x_runS (As := [.int a1, .int (0 : Int32), .int (v_3 - (1 : Int32))]) (rest := []) F hP hS (c_X12_in l D cT lo NB w ad a1 (0 : Int32) (v_3 - (1 : Int32))) cw_X12_in lk_X12_217 st_X12_in ⟨rfl, rfl, Nat.le_of_ble_eq_true rfl, Nat.le_of_ble_eq_true rfl⟩ hl.1 rfl (Nat.le_of_ble_eq_true rfl) dX12_gone_8 ⟨Nat.zero_le _, Nat.zero_le _⟩) hS (fun H locs hz_8 hP hS _ => ?_)
  refine lv_if_ne (tgt := 17) hx hb dX12_gone_11 (by decide) (fun hc => ?_) (fun hc => ?_)
  · have h := if_f _ hc h
    refine lv_aload_n hx hb dX12_gone_17 rfl (lv_at hl 0 rfl) ?_
    refine lv_sipush (v := 2000) hx hb dX12_gone_18 is_2000 ?_
    obtain ⟨w_21, hc_21, h⟩ := bo_s h
    refine x_goes (x_runV (As := [.int (2000 : Int32)]) (rest := []) F hP hS (c_X12_days l D cT lo w ad (2000 : Int32) w_21 hc_21) cw_X12_days lk_X12_434 vi_X12_days k_63 (n2 (hP.al 63 rfl)) rfl ⟨rfl, rfl, Nat.le_of_ble_eq_true rfl, Nat.le_of_ble_eq_true rfl⟩ hl.1 rfl (Nat.le_of_ble_eq_true rfl) dX12_gone_21 ⟨Nat.zero_le _, Nat.zero_le _⟩) hS (fun H locs hP hS hm => ?_)
    have hM_w := hm
    refine lv_aload_n hx hb dX12_gone_24 rfl (lv_at hl 0 rfl) ?_
    refine x_getr F hP k_63 (hP.al 63 rfl) fl_X12_174 rfl r_63_67 dX12_gone_25 ?_
    refine lv_iload_n hx hb dX12_gone_28 rfl (lv_at hl 1 rfl) ?_
    refine y_iald h F hP k_113 (n2 (hP.al 113 rfl)) dX12_gone_29 (fun v_29 h => ?_)
    exact y_iretM h F hr hP hS hM_w hlk dX12_gone_30
  · have h := if_t _ hc h
    refine lv_bipush (v := -2) hx hb dX12_gone_14 ib_m2 ?_
    exact y_iretM h F hr hP hS mono.refl hlk dX12_gone_16
def f_X12_where (w : Wd) (a1 : Int32) (a2 : Int32) : Option (Int32 × Wd) :=
q_gt w 63 59 (fun v_3 =>
if (f_X12_in a1 (0 : Int32) (v_3 - (1 : Int32))) = 0 then
some ((-2 : Int32), w)
else
if (f_X12_in a2 (0 : Int32) (2000 : Int32)) = 0 then
some ((-2 : Int32), w)
else
q_bo (f_X12_days w a2) (fun w_30 =>
q_ld w_30 111 4 a1 (fun v_38 =>
some (v_38, w_30))))
set_option maxRecDepth 100000 in
set_option maxHeartbeats 4000000 in
theorem c_X12_where (l : Launch) (D : va_G) (cT : Nat → ClassId) (lo : Nat) (w : Wd) (ad : Nat → Nat) (a1 : Int32) (a2 : Int32) (r : Int32) (w9 : Wd) (h : f_X12_where w a1 a2 = some (r, w9)) : Met l yX12_where (.code yX12_where cX12_where 3 (some .int) :: TW) { frames := 4, cells := 0, slots := 0, locals := 92 } (mPc D cT lo NB w ad [.ref (ad 63), .int a1, .int a2]) (mQ D cT lo NB w w9 ad (some (.int r))) 0 0 (fun q => lo ≤ q) := by
  unfold f_X12_where at h
  refine x_met (lv := [(0, .ref (ad 63)), (1, .int a1), (2, .int a2)]) (by decide +kernel) (Nat.le_of_ble_eq_true rfl) rfl ?_
  intro p e s m args below meth c ls F hr hlk hP hin hl
  have hx := F.1
  have hb := F.2.1
  have hS : va_S (fun q => lo ≤ q) s.heap s.heap [] := va_S.rf
  have hM_w : mono w w := mono.refl
  refine lv_iload_n hx hb dX12_where_0 rfl (lv_at hl 1 rfl) ?_
  refine lv_iconst (v := 0) hx hb dX12_where_1 ic_0 ?_
  refine lv_aload_n hx hb dX12_where_2 rfl (lv_at hl 0 rfl) ?_
  refine y_geti h F hP k_63 (n2 (hP.al 63 rfl)) fl_X12_420 rfl dX12_where_3 (fun v_3 h => ?_)
  refine lv_iconst (v := 1) hx hb dX12_where_6 ic_1 ?_
  refine lv_isub hx hb dX12_where_7 ?_
  refine x_goesZ (x_runS (As := [.int a1, .int (0 : Int32), .int (v_3 - (1 : Int32))]) (rest := []) F hP hS (c_X12_in l D cT lo NB w ad a1 (0 : Int32) (v_3 - (1 : Int32))) cw_X12_in lk_X12_217 st_X12_in ⟨rfl, rfl, Nat.le_of_ble_eq_true rfl, Nat.le_of_ble_eq_true rfl⟩ hl.1 rfl (Nat.le_of_ble_eq_true rfl) dX12_where_8 ⟨Nat.zero_le _, Nat.zero_le _⟩) hS (fun H locs hz_8 hP hS _ => ?_)
  refine lv_if_eq (tgt := 25) hx hb dX12_where_11 (by decide) (fun hc => ?_) (fun hc => ?_)
  · have h := if_t _ hc h
    refine lv_bipush (v := -2) hx hb dX12_where_25 ib_m2 ?_
    exact y_iretM h F hr hP hS mono.refl hlk dX12_where_27
  · have h := if_f _ hc h
    refine lv_iload_n hx hb dX12_where_14 rfl (lv_at hl 2 rfl) ?_
    refine lv_iconst (v := 0) hx hb dX12_where_15 ic_0 ?_
    refine lv_sipush (v := 2000) hx hb dX12_where_16 is_2000 ?_
    refine x_goesZ (x_runS (As := [.int a2, .int (0 : Int32), .int (2000 : Int32)]) (rest := []) F hP hS (c_X12_in l D cT lo NB w ad a2 (0 : Int32) (2000 : Int32)) cw_X12_in lk_X12_217 st_X12_in ⟨rfl, rfl, Nat.le_of_ble_eq_true rfl, Nat.le_of_ble_eq_true rfl⟩ hl.1 rfl (Nat.le_of_ble_eq_true rfl) dX12_where_19 ⟨Nat.zero_le _, Nat.zero_le _⟩) hS (fun H locs hz_19 hP hS _ => ?_)
    refine lv_if_ne (tgt := 28) hx hb dX12_where_22 (by decide) (fun hc => ?_) (fun hc => ?_)
    · have h := if_f _ hc h
      refine lv_aload_n hx hb dX12_where_28 rfl (lv_at hl 0 rfl) ?_
      refine lv_iload_n hx hb dX12_where_29 rfl (lv_at hl 2 rfl) ?_
      obtain ⟨w_30, hc_30, h⟩ := bo_s h
      refine x_goes (x_runV (As := [.int a2]) (rest := []) F hP hS (c_X12_days l D cT lo w ad a2 w_30 hc_30) cw_X12_days lk_X12_434 vi_X12_days k_63 (n2 (hP.al 63 rfl)) rfl ⟨rfl, rfl, Nat.le_of_ble_eq_true rfl, Nat.le_of_ble_eq_true rfl⟩ hl.1 rfl (Nat.le_of_ble_eq_true rfl) dX12_where_30 ⟨Nat.zero_le _, Nat.zero_le _⟩) hS (fun H locs hP hS hm => ?_)
      have hM_w := hm
      refine lv_aload_n hx hb dX12_where_33 rfl (lv_at hl 0 rfl) ?_
      refine x_getr F hP k_63 (hP.al 63 rfl) fl_X12_168 rfl r_63_65 dX12_where_34 ?_
      refine lv_iload_n hx hb dX12_where_37 rfl (lv_at hl 1 rfl) ?_
      refine y_iald h F hP k_111 (n2 (hP.al 111 rfl)) dX12_where_38 (fun v_38 h => ?_)
      exact y_iretM h F hr hP hS hM_w hlk dX12_where_39
    · have h := if_t _ hc h
      refine lv_bipush (v := -2) hx hb dX12_where_25 ib_m2 ?_
      exact y_iretM h F hr hP hS mono.refl hlk dX12_where_27
def f_X12_task (w : Wd) (a1 : Int32) (a2 : Int32) : Option (Int32 × Wd) :=
if (f_X12_in a1 (1 : Int32) (200 : Int32)) = 0 then
some ((-2 : Int32), w)
else
if (f_X12_in a2 (0 : Int32) (2000 : Int32)) = 0 then
some ((-2 : Int32), w)
else
q_gt w 63 68 (fun v_26 =>
if v_26 = (12 : Int32) then
some ((-4 : Int32), w)
else
q_gt w 63 68 (fun v_42 =>
q_st w 114 12 v_42 a1 (fun w_46 =>
q_gt w_46 63 68 (fun v_52 =>
q_st w_46 115 12 v_52 a2 (fun w_56 =>
q_gt w_56 63 68 (fun v_59 =>
q_pt w_56 63 68 (v_59 + (1 : Int32)) (fun w_64 =>
q_gt w_64 63 68 (fun v_68 =>
some (v_68 - (1 : Int32), w_64)))))))))
set_option maxRecDepth 100000 in
set_option maxHeartbeats 4000000 in
theorem c_X12_task (l : Launch) (D : va_G) (cT : Nat → ClassId) (lo : Nat) (w : Wd) (ad : Nat → Nat) (a1 : Int32) (a2 : Int32) (r : Int32) (w9 : Wd) (h : f_X12_task w a1 a2 = some (r, w9)) : Met l yX12_task (.code yX12_task cX12_task 3 (some .int) :: TW) { frames := 1, cells := 0, slots := 0, locals := 22 } (mPc D cT lo NB w ad [.ref (ad 63), .int a1, .int a2]) (mQ D cT lo NB w w9 ad (some (.int r))) 0 0 (fun q => lo ≤ q) := by
  unfold f_X12_task at h
  refine x_met (lv := [(0, .ref (ad 63)), (1, .int a1), (2, .int a2)]) (by decide +kernel) (Nat.le_of_ble_eq_true rfl) rfl ?_
  intro p e s m args below meth c ls F hr hlk hP hin hl
  have hx := F.1
  have hb := F.2.1
  have hS : va_S (fun q => lo ≤ q) s.heap s.heap [] := va_S.rf
  have hM_w : mono w w := mono.refl
  refine lv_iload_n hx hb dX12_task_0 rfl (lv_at hl 1 rfl) ?_
  refine lv_iconst (v := 1) hx hb dX12_task_1 ic_1 ?_
  refine lv_sipush (v := 200) hx hb dX12_task_2 is_200 ?_
  refine x_goesZ (x_runS (As := [.int a1, .int (1 : Int32), .int (200 : Int32)]) (rest := []) F hP hS (c_X12_in l D cT lo NB w ad a1 (1 : Int32) (200 : Int32)) cw_X12_in lk_X12_217 st_X12_in ⟨rfl, rfl, Nat.le_of_ble_eq_true rfl, Nat.le_of_ble_eq_true rfl⟩ hl.1 rfl (Nat.le_of_ble_eq_true rfl) dX12_task_5 ⟨Nat.zero_le _, Nat.zero_le _⟩) hS (fun H locs hz_5 hP hS _ => ?_)
  refine lv_if_eq (tgt := 22) hx hb dX12_task_8 (by decide) (fun hc => ?_) (fun hc => ?_)
  · have h := if_t _ hc h
    refine lv_bipush (v := -2) hx hb dX12_task_22 ib_m2 ?_
    exact y_iretM h F hr hP hS mono.refl hlk dX12_task_24
  · have h := if_f _ hc h
    refine lv_iload_n hx hb dX12_task_11 rfl (lv_at hl 2 rfl) ?_
    refine lv_iconst (v := 0) hx hb dX12_task_12 ic_0 ?_
    refine lv_sipush (v := 2000) hx hb dX12_task_13 is_2000 ?_
    refine x_goesZ (x_runS (As := [.int a2, .int (0 : Int32), .int (2000 : Int32)]) (rest := []) F hP hS (c_X12_in l D cT lo NB w ad a2 (0 : Int32) (2000 : Int32)) cw_X12_in lk_X12_217 st_X12_in ⟨rfl, rfl, Nat.le_of_ble_eq_true rfl, Nat.le_of_ble_eq_true rfl⟩ hl.1 rfl (Nat.le_of_ble_eq_true rfl) dX12_task_16 ⟨Nat.zero_le _, Nat.zero_le _⟩) hS (fun H locs hz_16 hP hS _ => ?_)
    refine lv_if_ne (tgt := 25) hx hb dX12_task_19 (by decide) (fun hc => ?_) (fun hc => ?_)
    · have h := if_f _ hc h
      refine lv_aload_n hx hb dX12_task_25 rfl (lv_at hl 0 rfl) ?_
      refine y_geti h F hP k_63 (n2 (hP.al 63 rfl)) fl_X12_437 rfl dX12_task_26 (fun v_26 h => ?_)
      refine lv_bipush (v := 12) hx hb dX12_task_29 ib_12 ?_
      refine lv_icmp_ne (tgt := 37) hx hb dX12_task_31 (by decide) (fun hc => ?_) (fun hc => ?_)
      · have h := if_f _ hc h
        refine lv_aload_n hx hb dX12_task_37 rfl (lv_at hl 0 rfl) ?_
        refine x_getr F hP k_63 (hP.al 63 rfl) fl_X12_177 rfl r_63_69 dX12_task_38 ?_
        refine lv_aload_n hx hb dX12_task_41 rfl (lv_at hl 0 rfl) ?_
        refine y_geti h F hP k_63 (n2 (hP.al 63 rfl)) fl_X12_437 rfl dX12_task_42 (fun v_42 h => ?_)
        refine lv_iload_n hx hb dX12_task_45 rfl (lv_at hl 1 rfl) ?_
        refine y_iast h F hP hS k_114 (n2 (hP.al 114 rfl)) dX12_task_46 (fun w_46 H locs hm h hP hS => ?_)
        have hM_w := hm
        refine lv_aload_n hx hb dX12_task_47 rfl (lv_at hl 0 rfl) ?_
        refine x_getr F hP k_63 (hP.al 63 rfl) fl_X12_180 rfl r_63_70 dX12_task_48 ?_
        refine lv_aload_n hx hb dX12_task_51 rfl (lv_at hl 0 rfl) ?_
        refine y_geti h F hP k_63 (n2 (hP.al 63 rfl)) fl_X12_437 rfl dX12_task_52 (fun v_52 h => ?_)
        refine lv_iload_n hx hb dX12_task_55 rfl (lv_at hl 2 rfl) ?_
        refine y_iast h F hP hS k_115 (n2 (hP.al 115 rfl)) dX12_task_56 (fun w_56 H locs hm h hP hS => ?_)
        have hM_w := hM_w.trans hm
        refine lv_aload_n hx hb dX12_task_57 rfl (lv_at hl 0 rfl) ?_
        refine lv_dup hx hb dX12_task_58 rfl ?_
        refine y_geti h F hP k_63 (n2 (hP.al 63 rfl)) fl_X12_437 rfl dX12_task_59 (fun v_59 h => ?_)
        refine lv_iconst (v := 1) hx hb dX12_task_62 ic_1 ?_
        refine lv_iadd hx hb dX12_task_63 ?_
        refine y_puti h F hP hS k_63 (n2 (hP.al 63 rfl)) fl_X12_437 rfl dX12_task_64 (fun w_64 H locs hm h hP hS => ?_)
        have hM_w := hM_w.trans hm
        refine lv_aload_n hx hb dX12_task_67 rfl (lv_at hl 0 rfl) ?_
        refine y_geti h F hP k_63 (n2 (hP.al 63 rfl)) fl_X12_437 rfl dX12_task_68 (fun v_68 h => ?_)
        refine lv_iconst (v := 1) hx hb dX12_task_71 ic_1 ?_
        refine lv_isub hx hb dX12_task_72 ?_
        exact y_iretM h F hr hP hS hM_w hlk dX12_task_73
      · have h := if_t _ hc h
        refine lv_bipush (v := -4) hx hb dX12_task_34 ib_m4 ?_
        exact y_iretM h F hr hP hS mono.refl hlk dX12_task_36
    · have h := if_t _ hc h
      refine lv_bipush (v := -2) hx hb dX12_task_22 ib_m2 ?_
      exact y_iretM h F hr hP hS mono.refl hlk dX12_task_24
def f_X12_crews (w : Wd) (a1 : Int32) : Option (Int32 × Wd) :=
if (f_X12_in a1 (1 : Int32) (4 : Int32)) = 0 then
some ((-2 : Int32), w)
else
q_gt w 63 72 (fun v_13 =>
q_pt w 63 72 a1 (fun w_19 =>
some (v_13, w_19)))
set_option maxRecDepth 100000 in
set_option maxHeartbeats 4000000 in
theorem c_X12_crews (l : Launch) (D : va_G) (cT : Nat → ClassId) (lo : Nat) (w : Wd) (ad : Nat → Nat) (a1 : Int32) (r : Int32) (w9 : Wd) (h : f_X12_crews w a1 = some (r, w9)) : Met l yX12_crews (.code yX12_crews cX12_crews 3 (some .int) :: TW) { frames := 1, cells := 0, slots := 0, locals := 22 } (mPc D cT lo NB w ad [.ref (ad 63), .int a1]) (mQ D cT lo NB w w9 ad (some (.int r))) 0 0 (fun q => lo ≤ q) := by
  unfold f_X12_crews at h
  refine x_met (lv := [(0, .ref (ad 63)), (1, .int a1)]) (by decide +kernel) (Nat.le_of_ble_eq_true rfl) rfl ?_
  intro p e s m args below meth c ls F hr hlk hP hin hl
  have hx := F.1
  have hb := F.2.1
  have hS : va_S (fun q => lo ≤ q) s.heap s.heap [] := va_S.rf
  have hM_w : mono w w := mono.refl
  refine lv_iload_n hx hb dX12_crews_0 rfl (lv_at hl 1 rfl) ?_
  refine lv_iconst (v := 1) hx hb dX12_crews_1 ic_1 ?_
  refine lv_iconst (v := 4) hx hb dX12_crews_2 ic_4 ?_
  refine x_goesZ (x_runS (As := [.int a1, .int (1 : Int32), .int (4 : Int32)]) (rest := []) F hP hS (c_X12_in l D cT lo NB w ad a1 (1 : Int32) (4 : Int32)) cw_X12_in lk_X12_217 st_X12_in ⟨rfl, rfl, Nat.le_of_ble_eq_true rfl, Nat.le_of_ble_eq_true rfl⟩ hl.1 rfl (Nat.le_of_ble_eq_true rfl) dX12_crews_3 ⟨Nat.zero_le _, Nat.zero_le _⟩) hS (fun H locs hz_3 hP hS _ => ?_)
  refine lv_if_ne (tgt := 12) hx hb dX12_crews_6 (by decide) (fun hc => ?_) (fun hc => ?_)
  · have h := if_f _ hc h
    refine lv_aload_n hx hb dX12_crews_12 rfl (lv_at hl 0 rfl) ?_
    refine y_geti h F hP k_63 (n2 (hP.al 63 rfl)) fl_X12_186 rfl dX12_crews_13 (fun v_13 h => ?_)
    refine lv_istore_n (lv' := [(2, .int v_13), (0, .ref (ad 63)), (1, .int a1)]) hx hb dX12_crews_16 rfl hl (Nat.le_of_ble_eq_true rfl) rfl (fun ls hl => ?_)
    refine lv_aload_n hx hb dX12_crews_17 rfl (lv_at hl 1 rfl) ?_
    refine lv_iload_n hx hb dX12_crews_18 rfl (lv_at hl 2 rfl) ?_
    refine y_puti h F hP hS k_63 (n2 (hP.al 63 rfl)) fl_X12_186 rfl dX12_crews_19 (fun w_19 H locs hm h hP hS => ?_)
    have hM_w := hm
    refine lv_iload_n hx hb dX12_crews_22 rfl (lv_at hl 0 rfl) ?_
    exact y_iretM h F hr hP hS hM_w hlk dX12_crews_23
  · have h := if_t _ hc h
    refine lv_bipush (v := -2) hx hb dX12_crews_9 ib_m2 ?_
    exact y_iretM h F hr hP hS mono.refl hlk dX12_crews_11
def l_X12_works_95 (w_24l : Wd) (j_136 : Int32 → Option Wd) : Nat → Int32 → Int32 → Option Wd
  | 0, _, _ => none
  | n_95 + 1, x5_95l, x4_95l =>
    q_gt w_24l 63 72 (fun v_98 =>
    if v_98 ≤ x5_95l then
    j_136 x4_95l
    else
    q_ld w_24l 117 4 x5_95l (fun v_110 =>
    q_ld w_24l 117 4 x4_95l (fun v_117 =>
    q_jn (fun (s0_128 : Int32) =>
    q_lt (x5_95l + (1 : Int32)) (fun v_130 =>
    l_X12_works_95 w_24l j_136 n_95 v_130 s0_128)) (fun j_128 =>
    if v_117 ≤ v_110 then
    j_128 x4_95l
    else
    j_128 x5_95l))))
def l_X12_works_37 (x1_24l : Int32) (w_24l : Wd) (j_89 : Int32 → Option Wd) : Nat → Int32 → Int32 → Option Wd
  | 0, _, _ => none
  | n_37 + 1, x4_37l, x3_37l =>
    q_gt w_24l 63 68 (fun v_40 =>
    if v_40 ≤ x4_37l then
    j_89 x3_37l
    else
    q_jn (fun (s0_82 : Int32) =>
    q_lt (x4_37l + (1 : Int32)) (fun v_83 =>
    l_X12_works_37 x1_24l w_24l j_89 n_37 v_83 s0_82)) (fun j_82 =>
    q_jn (j_82 x3_37l) (fun j_81 =>
    if ((x1_24l >>> (x4_37l &&& 31)) &&& (1 : Int32)) = 0 then
    q_jn (j_82 x4_37l) (fun j_76 =>
    if x3_37l = (-1 : Int32) then
    j_76
    else
    q_ld w_24l 115 12 x4_37l (fun v_66 =>
    q_ld w_24l 115 12 x3_37l (fun v_72 =>
    if v_72 ≤ v_66 then
    j_81
    else
    j_76)))
    else
    j_81)))
def l_X12_works_24  : Nat → Wd → Int32 → Int32 → Option Wd
  | 0, _, _, _ => none
  | n_24 + 1, w_24l, x2_24l, x1_24l =>
    q_gt w_24l 63 68 (fun v_26 =>
    if v_26 ≤ x2_24l then
    some w_24l
    else
    q_jn (fun (x3_89 : Int32) =>
    q_jn (fun (x4_136 : Int32) =>
    q_ld w_24l 117 4 x4_136 (fun v_143 =>
    q_ld w_24l 114 12 x3_89 (fun v_149 =>
    q_st w_24l 117 4 x4_136 (v_143 + v_149) (fun w_151 =>
    q_ld w_151 117 4 x4_136 (fun v_163 =>
    q_ld w_151 115 12 x3_89 (fun v_169 =>
    q_st w_151 116 12 x3_89 (v_163 - v_169) (fun w_171 =>
    q_lt (x1_24l ||| ((1 : Int32) <<< (x3_89 &&& 31))) (fun v_177 =>
    q_lt (x2_24l + (1 : Int32)) (fun v_178 =>
    l_X12_works_24 n_24 w_171 v_178 v_177))))))))) (fun j_136 =>
    l_X12_works_95 w_24l j_136 FU (1 : Int32) (0 : Int32))) (fun j_89 =>
    l_X12_works_37 x1_24l w_24l j_89 FU (0 : Int32) (-1 : Int32)))
def l_X12_works_4 (j_22 : Wd → Option Wd) : Nat → Wd → Int32 → Option Wd
  | 0, _, _ => none
  | n_4 + 1, w_4l, x2_4l =>
    if (4 : Int32) ≤ x2_4l then
    j_22 w_4l
    else
    q_st w_4l 117 4 x2_4l (0 : Int32) (fun w_15 =>
    q_lt (x2_4l + (1 : Int32)) (fun v_16 =>
    l_X12_works_4 j_22 n_4 w_15 v_16))
def f_X12_works (w : Wd) : Option Wd :=
q_jn (fun (w_22j : Wd) =>
l_X12_works_24 FU w_22j (0 : Int32) (0 : Int32)) (fun j_22 =>
l_X12_works_4 j_22 FU w (0 : Int32))
set_option maxRecDepth 100000 in
set_option maxHeartbeats 4000000 in
theorem c_X12_works (l : Launch) (D : va_G) (cT : Nat → ClassId) (lo : Nat) (w : Wd) (ad : Nat → Nat)  (w9 : Wd) (h : f_X12_works w = some w9) : Met l yX12_works (.code yX12_works cX12_works 6 none :: TW) { frames := 0, cells := 0, slots := 0, locals := 0 } (mPc D cT lo NB w ad [.ref (ad 63)]) (mQ D cT lo NB w w9 ad none) 0 0 (fun q => lo ≤ q) := by
  unfold f_X12_works at h
  refine x_met (lv := [(0, .ref (ad 63))]) (by decide +kernel) (Nat.le_of_ble_eq_true rfl) rfl ?_
  intro p e s m args below meth c ls F hr hlk hP hin hl
  have hx := F.1
  have hb := F.2.1
  have hS : va_S (fun q => lo ≤ q) s.heap s.heap [] := va_S.rf
  have hM_w : mono w w := mono.refl
  refine lv_iconst (v := 0) hx hb dX12_works_0 ic_0 ?_
  refine lv_istore_n (lv' := [(1, .int (0 : Int32)), (0, .ref (ad 63))]) hx hb dX12_works_1 rfl hl (Nat.le_of_ble_eq_true rfl) rfl (fun ls hl => ?_)
  refine lv_iconst (v := 0) hx hb dX12_works_2 ic_0 ?_
  refine lv_istore_n (lv' := [(2, .int (0 : Int32)), (1, .int (0 : Int32)), (0, .ref (ad 63))]) hx hb dX12_works_3 rfl hl (Nat.le_of_ble_eq_true rfl) rfl (fun ls hl => ?_)
  refine jn_use (fun (j_22 : Wd → Option Wd) => ∀ (w_22j : Wd), mono w w_22j → j_22 w_22j = some w9 → GG p l e { frames := 0, cells := 0, slots := 0, locals := 0 } s m args below meth c 0 0 (MQ below (mQ D cT lo NB w w9 ad none) args s 0 0 (fun q => lo ≤ q)) D cT lo NB 6 ad w_22j 22 [(1, .int (0 : Int32)), (0, .ref (ad 63))] []) h (fun w_22j hm h H locs ls hP hS hl => ?_) (fun j_22 J_22 h => ?_)
  · have hM_w := hm
    refine lv_iconst (v := 0) hx hb dX12_works_22 ic_0 ?_
    refine lv_istore_n (lv' := [(2, .int (0 : Int32)), (1, .int (0 : Int32)), (0, .ref (ad 63))]) hx hb dX12_works_23 rfl hl (Nat.le_of_ble_eq_true rfl) rfl (fun ls hl => ?_)
    have L_24 : ∀ (n_24 : Nat) (w_24l : Wd) (x2_24l : Int32) (x1_24l : Int32), mono w_22j w_24l → l_X12_works_24 n_24 w_24l x2_24l x1_24l = some w9 → GG p l e { frames := 0, cells := 0, slots := 0, locals := 0 } s m args below meth c 0 0 (MQ below (mQ D cT lo NB w w9 ad none) args s 0 0 (fun q => lo ≤ q)) D cT lo NB 6 ad w_24l 24 [(2, .int x2_24l), (1, .int x1_24l), (0, .ref (ad 63))] [] := by
      intro n_24
      induction n_24 with
      | zero =>
        intro w_24l x2_24l x1_24l _ h
        exact absurd h (by unfold l_X12_works_24; exact fun z => by cases z)
      | succ n_24 ih_24 =>
        intro w_24l x2_24l x1_24l hm h H locs ls hP hS hl
        unfold l_X12_works_24 at h
        have hM_w := hM_w.trans hm
        have hM_w_22j := hm
        refine lv_iload_n hx hb dX12_works_24 rfl (lv_at hl 0 rfl) ?_
        refine lv_aload_n hx hb dX12_works_25 rfl (lv_at hl 2 rfl) ?_
        refine y_geti h F hP k_63 (n2 (hP.al 63 rfl)) fl_X12_437 rfl dX12_works_26 (fun v_26 h => ?_)
        refine lv_icmp_ge (tgt := 184) hx hb dX12_works_29 (by decide) (fun hc => ?_) (fun hc => ?_)
        · have h := if_t _ hc h
          exact y_vret h F hr hP hS hM_w hlk dX12_works_184
        · have h := if_f _ hc h
          refine lv_iconst (v := -1) hx hb dX12_works_32 ic_m1 ?_
          refine lv_istore_n (lv' := [(3, .int (-1 : Int32)), (2, .int x2_24l), (1, .int x1_24l), (0, .ref (ad 63))]) hx hb dX12_works_33 rfl hl (Nat.le_of_ble_eq_true rfl) rfl (fun ls hl => ?_)
          refine lv_iconst (v := 0) hx hb dX12_works_34 ic_0 ?_
          refine lv_istore (lv' := [(4, .int (0 : Int32)), (3, .int (-1 : Int32)), (2, .int x2_24l), (1, .int x1_24l), (0, .ref (ad 63))]) hx hb dX12_works_35 hl (Nat.le_of_ble_eq_true rfl) rfl (fun ls hl => ?_)
          refine jn_use (fun (j_89 : Int32 → Option Wd) => ∀ (x3_89 : Int32), j_89 x3_89 = some w9 → GG p l e { frames := 0, cells := 0, slots := 0, locals := 0 } s m args below meth c 0 0 (MQ below (mQ D cT lo NB w w9 ad none) args s 0 0 (fun q => lo ≤ q)) D cT lo NB 6 ad w_24l 89 [(3, .int x3_89), (2, .int x2_24l), (1, .int x1_24l), (0, .ref (ad 63))] []) h (fun x3_89 h H locs ls hP hS hl => ?_) (fun j_89 J_89 h => ?_)
          · refine lv_iconst (v := 0) hx hb dX12_works_89 ic_0 ?_
            refine lv_istore (lv' := [(4, .int (0 : Int32)), (3, .int x3_89), (2, .int x2_24l), (1, .int x1_24l), (0, .ref (ad 63))]) hx hb dX12_works_90 hl (Nat.le_of_ble_eq_true rfl) rfl (fun ls hl => ?_)
            refine lv_iconst (v := 1) hx hb dX12_works_92 ic_1 ?_
            refine lv_istore (lv' := [(5, .int (1 : Int32)), (4, .int (0 : Int32)), (3, .int x3_89), (2, .int x2_24l), (1, .int x1_24l), (0, .ref (ad 63))]) hx hb dX12_works_93 hl (Nat.le_of_ble_eq_true rfl) rfl (fun ls hl => ?_)
            refine jn_use (fun (j_136 : Int32 → Option Wd) => ∀ (x4_136 : Int32), j_136 x4_136 = some w9 → GG p l e { frames := 0, cells := 0, slots := 0, locals := 0 } s m args below meth c 0 0 (MQ below (mQ D cT lo NB w w9 ad none) args s 0 0 (fun q => lo ≤ q)) D cT lo NB 6 ad w_24l 136 [(4, .int x4_136), (3, .int x3_89), (2, .int x2_24l), (1, .int x1_24l), (0, .ref (ad 63))] []) h (fun x4_136 h H locs ls hP hS hl => ?_) (fun j_136 J_136 h => ?_)
            · refine lv_aload_n hx hb dX12_works_136 rfl (lv_at hl 4 rfl) ?_
              refine x_getr F hP k_63 (hP.al 63 rfl) fl_X12_189 rfl r_63_73 dX12_works_137 ?_
              refine lv_iload hx hb dX12_works_140 (lv_at hl 0 rfl) ?_
              refine lv_dup2_11 hx hb dX12_works_142 rfl rfl ?_
              refine y_iald h F hP k_117 (n2 (hP.al 117 rfl)) dX12_works_143 (fun v_143 h => ?_)
              refine lv_aload_n hx hb dX12_works_144 rfl (lv_at hl 4 rfl) ?_
              refine x_getr F hP k_63 (hP.al 63 rfl) fl_X12_177 rfl r_63_69 dX12_works_145 ?_
              refine lv_iload_n hx hb dX12_works_148 rfl (lv_at hl 1 rfl) ?_
              refine y_iald h F hP k_114 (n2 (hP.al 114 rfl)) dX12_works_149 (fun v_149 h => ?_)
              refine lv_iadd hx hb dX12_works_150 ?_
              refine y_iast h F hP hS k_117 (n2 (hP.al 117 rfl)) dX12_works_151 (fun w_151 H locs hm h hP hS => ?_)
              have hM_w := hM_w.trans hm
              have hM_w_22j := hM_w_22j.trans hm
              refine lv_aload_n hx hb dX12_works_152 rfl (lv_at hl 4 rfl) ?_
              refine x_getr F hP k_63 (hP.al 63 rfl) fl_X12_183 rfl r_63_71 dX12_works_153 ?_
              refine lv_iload_n hx hb dX12_works_156 rfl (lv_at hl 1 rfl) ?_
              refine lv_aload_n hx hb dX12_works_157 rfl (lv_at hl 4 rfl) ?_
              refine x_getr F hP k_63 (hP.al 63 rfl) fl_X12_189 rfl r_63_73 dX12_works_158 ?_
              refine lv_iload hx hb dX12_works_161 (lv_at hl 0 rfl) ?_
              refine y_iald h F hP k_117 (n2 (hP.al 117 rfl)) dX12_works_163 (fun v_163 h => ?_)
              refine lv_aload_n hx hb dX12_works_164 rfl (lv_at hl 4 rfl) ?_
              refine x_getr F hP k_63 (hP.al 63 rfl) fl_X12_180 rfl r_63_70 dX12_works_165 ?_
              refine lv_iload_n hx hb dX12_works_168 rfl (lv_at hl 1 rfl) ?_
              refine y_iald h F hP k_115 (n2 (hP.al 115 rfl)) dX12_works_169 (fun v_169 h => ?_)
              refine lv_isub hx hb dX12_works_170 ?_
              refine y_iast h F hP hS k_116 (n2 (hP.al 116 rfl)) dX12_works_171 (fun w_171 H locs hm h hP hS => ?_)
              have hM_w := hM_w.trans hm
              have hM_w_22j := hM_w_22j.trans hm
              refine lv_iload_n hx hb dX12_works_172 rfl (lv_at hl 3 rfl) ?_
              refine lv_iconst (v := 1) hx hb dX12_works_173 ic_1 ?_
              refine lv_iload_n hx hb dX12_works_174 rfl (lv_at hl 1 rfl) ?_
              refine lv_ishl hx hb dX12_works_175 ?_
              refine lv_ior hx hb dX12_works_176 ?_
              refine y_let h (fun v_177 h => ?_)
              refine lv_istore_n (lv' := [(1, .int v_177), (4, .int x4_136), (3, .int x3_89), (2, .int x2_24l), (0, .ref (ad 63))]) hx hb dX12_works_177 rfl hl (Nat.le_of_ble_eq_true rfl) rfl (fun ls hl => ?_)
              refine y_iinc (lv' := fun (v_178 : Int32) => [(2, .int v_178), (1, .int v_177), (4, .int x4_136), (3, .int x3_89), (0, .ref (ad 63))]) h F ic_1 dX12_works_178 hl (kq := 3) rfl (Nat.le_of_ble_eq_true rfl) (fun _ => rfl) (fun v_178 ls hl h => ?_)
              refine lv_goto (tgt := 24) hx hb dX12_works_181 (by decide) ?_
              exact ih_24 w_171 v_178 v_177 hM_w_22j h _ _ _ hP hS (lv_sub hl [0, 1, 4] rfl)
            · have L_95 : ∀ (n_95 : Nat) (x5_95l : Int32) (x4_95l : Int32), l_X12_works_95 w_24l j_136 n_95 x5_95l x4_95l = some w9 → GG p l e { frames := 0, cells := 0, slots := 0, locals := 0 } s m args below meth c 0 0 (MQ below (mQ D cT lo NB w w9 ad none) args s 0 0 (fun q => lo ≤ q)) D cT lo NB 6 ad w_24l 95 [(5, .int x5_95l), (4, .int x4_95l), (3, .int x3_89), (2, .int x2_24l), (1, .int x1_24l), (0, .ref (ad 63))] [] := by
                intro n_95
                induction n_95 with
                | zero =>
                  intro x5_95l x4_95l h
                  exact absurd h (by unfold l_X12_works_95; exact fun z => by cases z)
                | succ n_95 ih_95 =>
                  intro x5_95l x4_95l h H locs ls hP hS hl
                  unfold l_X12_works_95 at h
                  refine lv_iload hx hb dX12_works_95 (lv_at hl 0 rfl) ?_
                  refine lv_aload_n hx hb dX12_works_97 rfl (lv_at hl 5 rfl) ?_
                  refine y_geti h F hP k_63 (n2 (hP.al 63 rfl)) fl_X12_186 rfl dX12_works_98 (fun v_98 h => ?_)
                  refine lv_icmp_ge (tgt := 136) hx hb dX12_works_101 (by decide) (fun hc => ?_) (fun hc => ?_)
                  · have h := if_t _ hc h
                    exact J_136 x4_95l h _ _ _ hP hS (lv_sub hl [1, 2, 3, 4, 5] rfl)
                  · have h := if_f _ hc h
                    refine lv_aload_n hx hb dX12_works_104 rfl (lv_at hl 5 rfl) ?_
                    refine x_getr F hP k_63 (hP.al 63 rfl) fl_X12_189 rfl r_63_73 dX12_works_105 ?_
                    refine lv_iload hx hb dX12_works_108 (lv_at hl 0 rfl) ?_
                    refine y_iald h F hP k_117 (n2 (hP.al 117 rfl)) dX12_works_110 (fun v_110 h => ?_)
                    refine lv_aload_n hx hb dX12_works_111 rfl (lv_at hl 5 rfl) ?_
                    refine x_getr F hP k_63 (hP.al 63 rfl) fl_X12_189 rfl r_63_73 dX12_works_112 ?_
                    refine lv_iload hx hb dX12_works_115 (lv_at hl 1 rfl) ?_
                    refine y_iald h F hP k_117 (n2 (hP.al 117 rfl)) dX12_works_117 (fun v_117 h => ?_)
                    refine jn_use (fun (j_128 : Int32 → Option Wd) => ∀ (s0_128 : Int32), j_128 s0_128 = some w9 → GG p l e { frames := 0, cells := 0, slots := 0, locals := 0 } s m args below meth c 0 0 (MQ below (mQ D cT lo NB w w9 ad none) args s 0 0 (fun q => lo ≤ q)) D cT lo NB 6 ad w_24l 128 [(5, .int x5_95l), (3, .int x3_89), (2, .int x2_24l), (1, .int x1_24l), (0, .ref (ad 63))] [.int s0_128]) h (fun s0_128 h H locs ls hP hS hl => ?_) (fun j_128 J_128 h => ?_)
                    · refine lv_istore (lv' := [(4, .int s0_128), (5, .int x5_95l), (3, .int x3_89), (2, .int x2_24l), (1, .int x1_24l), (0, .ref (ad 63))]) hx hb dX12_works_128 hl (Nat.le_of_ble_eq_true rfl) rfl (fun ls hl => ?_)
                      refine y_iinc (lv' := fun (v_130 : Int32) => [(5, .int v_130), (4, .int s0_128), (3, .int x3_89), (2, .int x2_24l), (1, .int x1_24l), (0, .ref (ad 63))]) h F ic_1 dX12_works_130 hl (kq := 1) rfl (Nat.le_of_ble_eq_true rfl) (fun _ => rfl) (fun v_130 ls hl h => ?_)
                      refine lv_goto (tgt := 95) hx hb dX12_works_133 (by decide) ?_
                      exact ih_95 v_130 s0_128 h _ _ _ hP hS (lv_sub hl [0, 1, 2, 3, 4, 5] rfl)
                    · refine lv_icmp_ge (tgt := 126) hx hb dX12_works_118 (by decide) (fun hc => ?_) (fun hc => ?_)
                      · have h := if_t _ hc h
                        refine lv_iload hx hb dX12_works_126 (lv_at hl 1 rfl) ?_
                        exact J_128 x4_95l h _ _ _ hP hS (lv_sub hl [0, 2, 3, 4, 5] rfl)
                      · have h := if_f _ hc h
                        refine lv_iload hx hb dX12_works_121 (lv_at hl 0 rfl) ?_
                        refine lv_goto (tgt := 128) hx hb dX12_works_123 (by decide) ?_
                        exact J_128 x5_95l h _ _ _ hP hS (lv_sub hl [0, 2, 3, 4, 5] rfl)
              exact L_95 FU (1 : Int32) (0 : Int32) h _ _ _ hP hS (lv_sub hl [0, 1, 2, 3, 4, 5] rfl)
          · have L_37 : ∀ (n_37 : Nat) (x4_37l : Int32) (x3_37l : Int32), l_X12_works_37 x1_24l w_24l j_89 n_37 x4_37l x3_37l = some w9 → GG p l e { frames := 0, cells := 0, slots := 0, locals := 0 } s m args below meth c 0 0 (MQ below (mQ D cT lo NB w w9 ad none) args s 0 0 (fun q => lo ≤ q)) D cT lo NB 6 ad w_24l 37 [(4, .int x4_37l), (3, .int x3_37l), (2, .int x2_24l), (1, .int x1_24l), (0, .ref (ad 63))] [] := by
              intro n_37
              induction n_37 with
              | zero =>
                intro x4_37l x3_37l h
                exact absurd h (by unfold l_X12_works_37; exact fun z => by cases z)
              | succ n_37 ih_37 =>
                intro x4_37l x3_37l h H locs ls hP hS hl
                unfold l_X12_works_37 at h
                refine lv_iload hx hb dX12_works_37 (lv_at hl 0 rfl) ?_
                refine lv_aload_n hx hb dX12_works_39 rfl (lv_at hl 4 rfl) ?_
                refine y_geti h F hP k_63 (n2 (hP.al 63 rfl)) fl_X12_437 rfl dX12_works_40 (fun v_40 h => ?_)
                refine lv_icmp_ge (tgt := 89) hx hb dX12_works_43 (by decide) (fun hc => ?_) (fun hc => ?_)
                · have h := if_t _ hc h
                  exact J_89 x3_37l h _ _ _ hP hS (lv_sub hl [1, 2, 3, 4] rfl)
                · have h := if_f _ hc h
                  refine lv_iload_n hx hb dX12_works_46 rfl (lv_at hl 3 rfl) ?_
                  refine lv_iload hx hb dX12_works_47 (lv_at hl 0 rfl) ?_
                  refine lv_ishr hx hb dX12_works_49 ?_
                  refine lv_iconst (v := 1) hx hb dX12_works_50 ic_1 ?_
                  refine lv_iand hx hb dX12_works_51 ?_
                  refine jn_use (fun (j_82 : Int32 → Option Wd) => ∀ (s0_82 : Int32), j_82 s0_82 = some w9 → GG p l e { frames := 0, cells := 0, slots := 0, locals := 0 } s m args below meth c 0 0 (MQ below (mQ D cT lo NB w w9 ad none) args s 0 0 (fun q => lo ≤ q)) D cT lo NB 6 ad w_24l 82 [(4, .int x4_37l), (2, .int x2_24l), (1, .int x1_24l), (0, .ref (ad 63))] [.int s0_82]) h (fun s0_82 h H locs ls hP hS hl => ?_) (fun j_82 J_82 h => ?_)
                  · refine lv_istore_n (lv' := [(3, .int s0_82), (4, .int x4_37l), (2, .int x2_24l), (1, .int x1_24l), (0, .ref (ad 63))]) hx hb dX12_works_82 rfl hl (Nat.le_of_ble_eq_true rfl) rfl (fun ls hl => ?_)
                    refine y_iinc (lv' := fun (v_83 : Int32) => [(4, .int v_83), (3, .int s0_82), (2, .int x2_24l), (1, .int x1_24l), (0, .ref (ad 63))]) h F ic_1 dX12_works_83 hl (kq := 1) rfl (Nat.le_of_ble_eq_true rfl) (fun _ => rfl) (fun v_83 ls hl h => ?_)
                    refine lv_goto (tgt := 37) hx hb dX12_works_86 (by decide) ?_
                    exact ih_37 v_83 s0_82 h _ _ _ hP hS (lv_sub hl [0, 1, 2, 3, 4] rfl)
                  · refine jn_use (fun (j_81 : Option Wd) => j_81 = some w9 → GG p l e { frames := 0, cells := 0, slots := 0, locals := 0 } s m args below meth c 0 0 (MQ below (mQ D cT lo NB w w9 ad none) args s 0 0 (fun q => lo ≤ q)) D cT lo NB 6 ad w_24l 81 [(4, .int x4_37l), (3, .int x3_37l), (2, .int x2_24l), (1, .int x1_24l), (0, .ref (ad 63))] []) h (fun h H locs ls hP hS hl => ?_) (fun j_81 J_81 h => ?_)
                    · refine lv_iload_n hx hb dX12_works_81 rfl (lv_at hl 1 rfl) ?_
                      exact J_82 x3_37l h _ _ _ hP hS (lv_sub hl [0, 2, 3, 4] rfl)
                    · refine lv_if_ne (tgt := 81) hx hb dX12_works_52 (by decide) (fun hc => ?_) (fun hc => ?_)
                      · have h := if_f _ hc h
                        exact J_81  h _ _ _ hP hS (lv_sub hl [0, 1, 2, 3, 4] rfl)
                      · have h := if_t _ hc h
                        refine lv_iload_n hx hb dX12_works_55 rfl (lv_at hl 1 rfl) ?_
                        refine lv_iconst (v := -1) hx hb dX12_works_56 ic_m1 ?_
                        refine jn_use (fun (j_76 : Option Wd) => j_76 = some w9 → GG p l e { frames := 0, cells := 0, slots := 0, locals := 0 } s m args below meth c 0 0 (MQ below (mQ D cT lo NB w w9 ad none) args s 0 0 (fun q => lo ≤ q)) D cT lo NB 6 ad w_24l 76 [(4, .int x4_37l), (2, .int x2_24l), (1, .int x1_24l), (0, .ref (ad 63))] []) h (fun h H locs ls hP hS hl => ?_) (fun j_76 J_76 h => ?_)
                        · refine lv_iload hx hb dX12_works_76 (lv_at hl 0 rfl) ?_
                          refine lv_goto (tgt := 82) hx hb dX12_works_78 (by decide) ?_
                          exact J_82 x4_37l h _ _ _ hP hS (lv_sub hl [0, 1, 2, 3] rfl)
                        · refine lv_icmp_eq (tgt := 76) hx hb dX12_works_57 (by decide) (fun hc => ?_) (fun hc => ?_)
                          · have h := if_t _ hc h
                            exact J_76  h _ _ _ hP hS (lv_sub hl [0, 2, 3, 4] rfl)
                          · have h := if_f _ hc h
                            refine lv_aload_n hx hb dX12_works_60 rfl (lv_at hl 4 rfl) ?_
                            refine x_getr F hP k_63 (hP.al 63 rfl) fl_X12_180 rfl r_63_70 dX12_works_61 ?_
                            refine lv_iload hx hb dX12_works_64 (lv_at hl 0 rfl) ?_
                            refine y_iald h F hP k_115 (n2 (hP.al 115 rfl)) dX12_works_66 (fun v_66 h => ?_)
                            refine lv_aload_n hx hb dX12_works_67 rfl (lv_at hl 4 rfl) ?_
                            refine x_getr F hP k_63 (hP.al 63 rfl) fl_X12_180 rfl r_63_70 dX12_works_68 ?_
                            refine lv_iload_n hx hb dX12_works_71 rfl (lv_at hl 1 rfl) ?_
                            refine y_iald h F hP k_115 (n2 (hP.al 115 rfl)) dX12_works_72 (fun v_72 h => ?_)
                            refine lv_icmp_ge (tgt := 81) hx hb dX12_works_73 (by decide) (fun hc => ?_) (fun hc => ?_)
                            · have h := if_t _ hc h
                              exact J_81  h _ _ _ hP hS (lv_sub hl [0, 1, 2, 3, 4] rfl)
                            · have h := if_f _ hc h
                              exact J_76  h _ _ _ hP hS (lv_sub hl [0, 2, 3, 4] rfl)
            exact L_37 FU (0 : Int32) (-1 : Int32) h _ _ _ hP hS (lv_sub hl [0, 1, 2, 3, 4] rfl)
    exact L_24 FU w_22j (0 : Int32) (0 : Int32) mono.refl h _ _ _ hP hS (lv_sub hl [0, 1, 2] rfl)
  · have L_4 : ∀ (n_4 : Nat) (w_4l : Wd) (x2_4l : Int32), mono w w_4l → l_X12_works_4 j_22 n_4 w_4l x2_4l = some w9 → GG p l e { frames := 0, cells := 0, slots := 0, locals := 0 } s m args below meth c 0 0 (MQ below (mQ D cT lo NB w w9 ad none) args s 0 0 (fun q => lo ≤ q)) D cT lo NB 6 ad w_4l 4 [(2, .int x2_4l), (1, .int (0 : Int32)), (0, .ref (ad 63))] [] := by
      intro n_4
      induction n_4 with
      | zero =>
        intro w_4l x2_4l _ h
        exact absurd h (by unfold l_X12_works_4; exact fun z => by cases z)
      | succ n_4 ih_4 =>
        intro w_4l x2_4l hm h H locs ls hP hS hl
        unfold l_X12_works_4 at h
        have hM_w := hm
        refine lv_iload_n hx hb dX12_works_4 rfl (lv_at hl 0 rfl) ?_
        refine lv_iconst (v := 4) hx hb dX12_works_5 ic_4 ?_
        refine lv_icmp_ge (tgt := 22) hx hb dX12_works_6 (by decide) (fun hc => ?_) (fun hc => ?_)
        · have h := if_t _ hc h
          exact J_22 w_4l hM_w h _ _ _ hP hS (lv_sub hl [1, 2] rfl)
        · have h := if_f _ hc h
          refine lv_aload_n hx hb dX12_works_9 rfl (lv_at hl 2 rfl) ?_
          refine x_getr F hP k_63 (hP.al 63 rfl) fl_X12_189 rfl r_63_73 dX12_works_10 ?_
          refine lv_iload_n hx hb dX12_works_13 rfl (lv_at hl 0 rfl) ?_
          refine lv_iconst (v := 0) hx hb dX12_works_14 ic_0 ?_
          refine y_iast h F hP hS k_117 (n2 (hP.al 117 rfl)) dX12_works_15 (fun w_15 H locs hm h hP hS => ?_)
          have hM_w := hM_w.trans hm
          refine y_iinc (lv' := fun (v_16 : Int32) => [(2, .int v_16), (1, .int (0 : Int32)), (0, .ref (ad 63))]) h F ic_1 dX12_works_16 hl (kq := 0) rfl (Nat.le_of_ble_eq_true rfl) (fun _ => rfl) (fun v_16 ls hl h => ?_)
          refine lv_goto (tgt := 4) hx hb dX12_works_19 (by decide) ?_
          exact ih_4 w_15 v_16 hM_w h _ _ _ hP hS (lv_sub hl [0, 1, 2] rfl)
    exact L_4 FU w (0 : Int32) mono.refl h _ _ _ hP hS (lv_sub hl [0, 1, 2] rfl)
def f_X12_late (w : Wd) (a1 : Int32) : Option (Int32 × Wd) :=
q_gt w 63 68 (fun v_3 =>
if (f_X12_in a1 (0 : Int32) (v_3 - (1 : Int32))) = 0 then
some ((-10000 : Int32), w)
else
q_bo (f_X12_works w) (fun w_19 =>
q_ld w_19 116 12 a1 (fun v_27 =>
some (v_27, w_19))))
set_option maxRecDepth 100000 in
set_option maxHeartbeats 4000000 in
theorem c_X12_late (l : Launch) (D : va_G) (cT : Nat → ClassId) (lo : Nat) (w : Wd) (ad : Nat → Nat) (a1 : Int32) (r : Int32) (w9 : Wd) (h : f_X12_late w a1 = some (r, w9)) : Met l yX12_late (.code yX12_late cX12_late 2 (some .int) :: TW) { frames := 1, cells := 0, slots := 0, locals := 25 } (mPc D cT lo NB w ad [.ref (ad 63), .int a1]) (mQ D cT lo NB w w9 ad (some (.int r))) 0 0 (fun q => lo ≤ q) := by
  unfold f_X12_late at h
  refine x_met (lv := [(0, .ref (ad 63)), (1, .int a1)]) (by decide +kernel) (Nat.le_of_ble_eq_true rfl) rfl ?_
  intro p e s m args below meth c ls F hr hlk hP hin hl
  have hx := F.1
  have hb := F.2.1
  have hS : va_S (fun q => lo ≤ q) s.heap s.heap [] := va_S.rf
  have hM_w : mono w w := mono.refl
  refine lv_iload_n hx hb dX12_late_0 rfl (lv_at hl 1 rfl) ?_
  refine lv_iconst (v := 0) hx hb dX12_late_1 ic_0 ?_
  refine lv_aload_n hx hb dX12_late_2 rfl (lv_at hl 0 rfl) ?_
  refine y_geti h F hP k_63 (n2 (hP.al 63 rfl)) fl_X12_437 rfl dX12_late_3 (fun v_3 h => ?_)
  refine lv_iconst (v := 1) hx hb dX12_late_6 ic_1 ?_
  refine lv_isub hx hb dX12_late_7 ?_
  refine x_goesZ (x_runS (As := [.int a1, .int (0 : Int32), .int (v_3 - (1 : Int32))]) (rest := []) F hP hS (c_X12_in l D cT lo NB w ad a1 (0 : Int32) (v_3 - (1 : Int32))) cw_X12_in lk_X12_217 st_X12_in ⟨rfl, rfl, Nat.le_of_ble_eq_true rfl, Nat.le_of_ble_eq_true rfl⟩ hl.1 rfl (Nat.le_of_ble_eq_true rfl) dX12_late_8 ⟨Nat.zero_le _, Nat.zero_le _⟩) hS (fun H locs hz_8 hP hS _ => ?_)
  refine lv_if_ne (tgt := 18) hx hb dX12_late_11 (by decide) (fun hc => ?_) (fun hc => ?_)
  · have h := if_f _ hc h
    refine lv_aload_n hx hb dX12_late_18 rfl (lv_at hl 0 rfl) ?_
    obtain ⟨w_19, hc_19, h⟩ := bo_s h
    refine x_goes (x_runV (As := []) (rest := []) F hP hS (c_X12_works l D cT lo w ad  w_19 hc_19) cw_X12_works lk_X12_440 vi_X12_works k_63 (n2 (hP.al 63 rfl)) rfl ⟨rfl, rfl, Nat.le_of_ble_eq_true rfl, Nat.le_of_ble_eq_true rfl⟩ hl.1 rfl (Nat.le_of_ble_eq_true rfl) dX12_late_19 ⟨Nat.zero_le _, Nat.zero_le _⟩) hS (fun H locs hP hS hm => ?_)
    have hM_w := hm
    refine lv_aload_n hx hb dX12_late_22 rfl (lv_at hl 0 rfl) ?_
    refine x_getr F hP k_63 (hP.al 63 rfl) fl_X12_183 rfl r_63_71 dX12_late_23 ?_
    refine lv_iload_n hx hb dX12_late_26 rfl (lv_at hl 1 rfl) ?_
    refine y_iald h F hP k_116 (n2 (hP.al 116 rfl)) dX12_late_27 (fun v_27 h => ?_)
    exact y_iretM h F hr hP hS hM_w hlk dX12_late_28
  · have h := if_t _ hc h
    refine lv_sipush (v := -10000) hx hb dX12_late_14 is_m10000 ?_
    exact y_iretM h F hr hP hS mono.refl hlk dX12_late_17
def l_X12_latest_23 (w_13 : Wd) (j_79 : Int32 → Int32 → Option (Int32 × Wd)) : Nat → Int32 → Int32 → Int32 → Option (Int32 × Wd)
  | 0, _, _, _ => none
  | n_23 + 1, x4_23l, x3_23l, x2_23l =>
    q_gt w_13 63 68 (fun v_26 =>
    if v_26 ≤ x4_23l then
    j_79 x2_23l x3_23l
    else
    q_ld w_13 116 12 x4_23l (fun v_38 =>
    q_jn (fun (s0_54 : Int32) =>
    q_ld w_13 116 12 x4_23l (fun v_62 =>
    q_jn (fun (s0_71 : Int32) =>
    q_lt (x3_23l + s0_71) (fun v_72 =>
    q_lt (x4_23l + (1 : Int32)) (fun v_73 =>
    l_X12_latest_23 w_13 j_79 n_23 v_73 v_72 s0_54))) (fun j_71 =>
    if v_62 ≤ 0 then
    j_71 (0 : Int32)
    else
    j_71 (1 : Int32)))) (fun j_54 =>
    if v_38 ≤ x2_23l then
    j_54 x2_23l
    else
    q_ld w_13 116 12 x4_23l (fun v_49 =>
    j_54 v_49))))
def f_X12_latest (w : Wd) (a1 : Int32) : Option (Int32 × Wd) :=
if (f_X12_in a1 (0 : Int32) (1 : Int32)) = 0 then
some ((-2 : Int32), w)
else
q_bo (f_X12_works w) (fun w_13 =>
q_jn (fun (x2_79 : Int32) (x3_79 : Int32) =>
if a1 = 0 then
some (x2_79, w_13)
else
some (x3_79, w_13)) (fun j_79 =>
l_X12_latest_23 w_13 j_79 FU (0 : Int32) (0 : Int32) (0 : Int32)))
set_option maxRecDepth 100000 in
set_option maxHeartbeats 4000000 in
theorem c_X12_latest (l : Launch) (D : va_G) (cT : Nat → ClassId) (lo : Nat) (w : Wd) (ad : Nat → Nat) (a1 : Int32) (r : Int32) (w9 : Wd) (h : f_X12_latest w a1 = some (r, w9)) : Met l yX12_latest (.code yX12_latest cX12_latest 5 (some .int) :: TW) { frames := 1, cells := 0, slots := 0, locals := 25 } (mPc D cT lo NB w ad [.ref (ad 63), .int a1]) (mQ D cT lo NB w w9 ad (some (.int r))) 0 0 (fun q => lo ≤ q) := by
  unfold f_X12_latest at h
  refine x_met (lv := [(0, .ref (ad 63)), (1, .int a1)]) (by decide +kernel) (Nat.le_of_ble_eq_true rfl) rfl ?_
  intro p e s m args below meth c ls F hr hlk hP hin hl
  have hx := F.1
  have hb := F.2.1
  have hS : va_S (fun q => lo ≤ q) s.heap s.heap [] := va_S.rf
  have hM_w : mono w w := mono.refl
  refine lv_iload_n hx hb dX12_latest_0 rfl (lv_at hl 1 rfl) ?_
  refine lv_iconst (v := 0) hx hb dX12_latest_1 ic_0 ?_
  refine lv_iconst (v := 1) hx hb dX12_latest_2 ic_1 ?_
  refine x_goesZ (x_runS (As := [.int a1, .int (0 : Int32), .int (1 : Int32)]) (rest := []) F hP hS (c_X12_in l D cT lo NB w ad a1 (0 : Int32) (1 : Int32)) cw_X12_in lk_X12_217 st_X12_in ⟨rfl, rfl, Nat.le_of_ble_eq_true rfl, Nat.le_of_ble_eq_true rfl⟩ hl.1 rfl (Nat.le_of_ble_eq_true rfl) dX12_latest_3 ⟨Nat.zero_le _, Nat.zero_le _⟩) hS (fun H locs hz_3 hP hS _ => ?_)
  refine lv_if_ne (tgt := 12) hx hb dX12_latest_6 (by decide) (fun hc => ?_) (fun hc => ?_)
  · have h := if_f _ hc h
    refine lv_aload_n hx hb dX12_latest_12 rfl (lv_at hl 0 rfl) ?_
    obtain ⟨w_13, hc_13, h⟩ := bo_s h
    refine x_goes (x_runV (As := []) (rest := []) F hP hS (c_X12_works l D cT lo w ad  w_13 hc_13) cw_X12_works lk_X12_440 vi_X12_works k_63 (n2 (hP.al 63 rfl)) rfl ⟨rfl, rfl, Nat.le_of_ble_eq_true rfl, Nat.le_of_ble_eq_true rfl⟩ hl.1 rfl (Nat.le_of_ble_eq_true rfl) dX12_latest_13 ⟨Nat.zero_le _, Nat.zero_le _⟩) hS (fun H locs hP hS hm => ?_)
    have hM_w := hm
    refine lv_iconst (v := 0) hx hb dX12_latest_16 ic_0 ?_
    refine lv_istore_n (lv' := [(2, .int (0 : Int32)), (0, .ref (ad 63)), (1, .int a1)]) hx hb dX12_latest_17 rfl hl (Nat.le_of_ble_eq_true rfl) rfl (fun ls hl => ?_)
    refine lv_iconst (v := 0) hx hb dX12_latest_18 ic_0 ?_
    refine lv_istore_n (lv' := [(3, .int (0 : Int32)), (2, .int (0 : Int32)), (0, .ref (ad 63)), (1, .int a1)]) hx hb dX12_latest_19 rfl hl (Nat.le_of_ble_eq_true rfl) rfl (fun ls hl => ?_)
    refine lv_iconst (v := 0) hx hb dX12_latest_20 ic_0 ?_
    refine lv_istore (lv' := [(4, .int (0 : Int32)), (3, .int (0 : Int32)), (2, .int (0 : Int32)), (0, .ref (ad 63)), (1, .int a1)]) hx hb dX12_latest_21 hl (Nat.le_of_ble_eq_true rfl) rfl (fun ls hl => ?_)
    refine jn_use (fun (j_79 : Int32 → Int32 → Option (Int32 × Wd)) => ∀ (x2_79 : Int32) (x3_79 : Int32), j_79 x2_79 x3_79 = some (r, w9) → GG p l e { frames := 1, cells := 0, slots := 0, locals := 25 } s m args below meth c 0 0 (MQ below (mQ D cT lo NB w w9 ad (some (.int r))) args s 0 0 (fun q => lo ≤ q)) D cT lo NB 5 ad w_13 79 [(3, .int x3_79), (2, .int x2_79), (1, .int a1)] []) h (fun x2_79 x3_79 h H locs ls hP hS hl => ?_) (fun j_79 J_79 h => ?_)
    · refine lv_iload_n hx hb dX12_latest_79 rfl (lv_at hl 2 rfl) ?_
      refine lv_if_ne (tgt := 87) hx hb dX12_latest_80 (by decide) (fun hc => ?_) (fun hc => ?_)
      · have h := if_f _ hc h
        refine lv_iload_n hx hb dX12_latest_87 rfl (lv_at hl 0 rfl) ?_
        exact y_iretM h F hr hP hS hM_w hlk dX12_latest_88
      · have h := if_t _ hc h
        refine lv_iload_n hx hb dX12_latest_83 rfl (lv_at hl 1 rfl) ?_
        refine lv_goto (tgt := 88) hx hb dX12_latest_84 (by decide) ?_
        exact y_iretM h F hr hP hS hM_w hlk dX12_latest_88
    · have L_23 : ∀ (n_23 : Nat) (x4_23l : Int32) (x3_23l : Int32) (x2_23l : Int32), l_X12_latest_23 w_13 j_79 n_23 x4_23l x3_23l x2_23l = some (r, w9) → GG p l e { frames := 1, cells := 0, slots := 0, locals := 25 } s m args below meth c 0 0 (MQ below (mQ D cT lo NB w w9 ad (some (.int r))) args s 0 0 (fun q => lo ≤ q)) D cT lo NB 5 ad w_13 23 [(4, .int x4_23l), (3, .int x3_23l), (2, .int x2_23l), (0, .ref (ad 63)), (1, .int a1)] [] := by
        intro n_23
        induction n_23 with
        | zero =>
          intro x4_23l x3_23l x2_23l h
          exact absurd h (by unfold l_X12_latest_23; exact fun z => by cases z)
        | succ n_23 ih_23 =>
          intro x4_23l x3_23l x2_23l h H locs ls hP hS hl
          unfold l_X12_latest_23 at h
          refine lv_iload hx hb dX12_latest_23 (lv_at hl 0 rfl) ?_
          refine lv_aload_n hx hb dX12_latest_25 rfl (lv_at hl 3 rfl) ?_
          refine y_geti h F hP k_63 (n2 (hP.al 63 rfl)) fl_X12_437 rfl dX12_latest_26 (fun v_26 h => ?_)
          refine lv_icmp_ge (tgt := 79) hx hb dX12_latest_29 (by decide) (fun hc => ?_) (fun hc => ?_)
          · have h := if_t _ hc h
            exact J_79 x2_23l x3_23l h _ _ _ hP hS (lv_sub hl [1, 2, 4] rfl)
          · have h := if_f _ hc h
            refine lv_aload_n hx hb dX12_latest_32 rfl (lv_at hl 3 rfl) ?_
            refine x_getr F hP k_63 (hP.al 63 rfl) fl_X12_183 rfl r_63_71 dX12_latest_33 ?_
            refine lv_iload hx hb dX12_latest_36 (lv_at hl 0 rfl) ?_
            refine y_iald h F hP k_116 (n2 (hP.al 116 rfl)) dX12_latest_38 (fun v_38 h => ?_)
            refine lv_iload_n hx hb dX12_latest_39 rfl (lv_at hl 2 rfl) ?_
            refine jn_use (fun (j_54 : Int32 → Option (Int32 × Wd)) => ∀ (s0_54 : Int32), j_54 s0_54 = some (r, w9) → GG p l e { frames := 1, cells := 0, slots := 0, locals := 25 } s m args below meth c 0 0 (MQ below (mQ D cT lo NB w w9 ad (some (.int r))) args s 0 0 (fun q => lo ≤ q)) D cT lo NB 5 ad w_13 54 [(4, .int x4_23l), (3, .int x3_23l), (0, .ref (ad 63)), (1, .int a1)] [.int s0_54]) h (fun s0_54 h H locs ls hP hS hl => ?_) (fun j_54 J_54 h => ?_)
            · refine lv_istore_n (lv' := [(2, .int s0_54), (4, .int x4_23l), (3, .int x3_23l), (0, .ref (ad 63)), (1, .int a1)]) hx hb dX12_latest_54 rfl hl (Nat.le_of_ble_eq_true rfl) rfl (fun ls hl => ?_)
              refine lv_iload_n hx hb dX12_latest_55 rfl (lv_at hl 2 rfl) ?_
              refine lv_aload_n hx hb dX12_latest_56 rfl (lv_at hl 3 rfl) ?_
              refine x_getr F hP k_63 (hP.al 63 rfl) fl_X12_183 rfl r_63_71 dX12_latest_57 ?_
              refine lv_iload hx hb dX12_latest_60 (lv_at hl 1 rfl) ?_
              refine y_iald h F hP k_116 (n2 (hP.al 116 rfl)) dX12_latest_62 (fun v_62 h => ?_)
              refine jn_use (fun (j_71 : Int32 → Option (Int32 × Wd)) => ∀ (s0_71 : Int32), j_71 s0_71 = some (r, w9) → GG p l e { frames := 1, cells := 0, slots := 0, locals := 25 } s m args below meth c 0 0 (MQ below (mQ D cT lo NB w w9 ad (some (.int r))) args s 0 0 (fun q => lo ≤ q)) D cT lo NB 5 ad w_13 71 [(2, .int s0_54), (4, .int x4_23l), (0, .ref (ad 63)), (1, .int a1)] [.int s0_71, .int x3_23l]) h (fun s0_71 h H locs ls hP hS hl => ?_) (fun j_71 J_71 h => ?_)
              · refine lv_iadd hx hb dX12_latest_71 ?_
                refine y_let h (fun v_72 h => ?_)
                refine lv_istore_n (lv' := [(3, .int v_72), (2, .int s0_54), (4, .int x4_23l), (0, .ref (ad 63)), (1, .int a1)]) hx hb dX12_latest_72 rfl hl (Nat.le_of_ble_eq_true rfl) rfl (fun ls hl => ?_)
                refine y_iinc (lv' := fun (v_73 : Int32) => [(4, .int v_73), (3, .int v_72), (2, .int s0_54), (0, .ref (ad 63)), (1, .int a1)]) h F ic_1 dX12_latest_73 hl (kq := 2) rfl (Nat.le_of_ble_eq_true rfl) (fun _ => rfl) (fun v_73 ls hl h => ?_)
                refine lv_goto (tgt := 23) hx hb dX12_latest_76 (by decide) ?_
                exact ih_23 v_73 v_72 s0_54 h _ _ _ hP hS (lv_sub hl [0, 1, 2, 3, 4] rfl)
              · refine lv_if_le (tgt := 70) hx hb dX12_latest_63 (by decide) (fun hc => ?_) (fun hc => ?_)
                · have h := if_t _ hc h
                  refine lv_iconst (v := 0) hx hb dX12_latest_70 ic_0 ?_
                  exact J_71 (0 : Int32) h _ _ _ hP hS (lv_sub hl [0, 1, 3, 4] rfl)
                · have h := if_f _ hc h
                  refine lv_iconst (v := 1) hx hb dX12_latest_66 ic_1 ?_
                  refine lv_goto (tgt := 71) hx hb dX12_latest_67 (by decide) ?_
                  exact J_71 (1 : Int32) h _ _ _ hP hS (lv_sub hl [0, 1, 3, 4] rfl)
            · refine lv_icmp_le (tgt := 53) hx hb dX12_latest_40 (by decide) (fun hc => ?_) (fun hc => ?_)
              · have h := if_t _ hc h
                refine lv_iload_n hx hb dX12_latest_53 rfl (lv_at hl 2 rfl) ?_
                exact J_54 x2_23l h _ _ _ hP hS (lv_sub hl [0, 1, 3, 4] rfl)
              · have h := if_f _ hc h
                refine lv_aload_n hx hb dX12_latest_43 rfl (lv_at hl 3 rfl) ?_
                refine x_getr F hP k_63 (hP.al 63 rfl) fl_X12_183 rfl r_63_71 dX12_latest_44 ?_
                refine lv_iload hx hb dX12_latest_47 (lv_at hl 0 rfl) ?_
                refine y_iald h F hP k_116 (n2 (hP.al 116 rfl)) dX12_latest_49 (fun v_49 h => ?_)
                refine lv_goto (tgt := 54) hx hb dX12_latest_50 (by decide) ?_
                exact J_54 v_49 h _ _ _ hP hS (lv_sub hl [0, 1, 3, 4] rfl)
      exact L_23 FU (0 : Int32) (0 : Int32) (0 : Int32) h _ _ _ hP hS (lv_sub hl [0, 1, 2, 3, 4] rfl)
  · have h := if_t _ hc h
    refine lv_bipush (v := -2) hx hb dX12_latest_9 ib_m2 ?_
    exact y_iretM h F hr hP hS mono.refl hlk dX12_latest_11
def f_X12_type (w : Wd) (a1 : Int32) : Option (Int32 × Wd) :=
if (f_X12_in a1 (0 : Int32) (255 : Int32)) = 0 then
some ((-2 : Int32), w)
else
q_gt w 63 74 (fun v_15 =>
if v_15 = (80 : Int32) then
some ((-4 : Int32), w)
else
q_gt w 63 74 (fun v_31 =>
q_st w 118 80 v_31 a1 (fun w_35 =>
q_gt w_35 63 74 (fun v_38 =>
q_pt w_35 63 74 (v_38 + (1 : Int32)) (fun w_43 =>
q_gt w_43 63 74 (fun v_47 =>
some (v_47, w_43)))))))
set_option maxRecDepth 100000 in
set_option maxHeartbeats 4000000 in
theorem c_X12_type (l : Launch) (D : va_G) (cT : Nat → ClassId) (lo : Nat) (w : Wd) (ad : Nat → Nat) (a1 : Int32) (r : Int32) (w9 : Wd) (h : f_X12_type w a1 = some (r, w9)) : Met l yX12_type (.code yX12_type cX12_type 2 (some .int) :: TW) { frames := 1, cells := 0, slots := 0, locals := 22 } (mPc D cT lo NB w ad [.ref (ad 63), .int a1]) (mQ D cT lo NB w w9 ad (some (.int r))) 0 0 (fun q => lo ≤ q) := by
  unfold f_X12_type at h
  refine x_met (lv := [(0, .ref (ad 63)), (1, .int a1)]) (by decide +kernel) (Nat.le_of_ble_eq_true rfl) rfl ?_
  intro p e s m args below meth c ls F hr hlk hP hin hl
  have hx := F.1
  have hb := F.2.1
  have hS : va_S (fun q => lo ≤ q) s.heap s.heap [] := va_S.rf
  have hM_w : mono w w := mono.refl
  refine lv_iload_n hx hb dX12_type_0 rfl (lv_at hl 1 rfl) ?_
  refine lv_iconst (v := 0) hx hb dX12_type_1 ic_0 ?_
  refine lv_sipush (v := 255) hx hb dX12_type_2 is_255 ?_
  refine x_goesZ (x_runS (As := [.int a1, .int (0 : Int32), .int (255 : Int32)]) (rest := []) F hP hS (c_X12_in l D cT lo NB w ad a1 (0 : Int32) (255 : Int32)) cw_X12_in lk_X12_217 st_X12_in ⟨rfl, rfl, Nat.le_of_ble_eq_true rfl, Nat.le_of_ble_eq_true rfl⟩ hl.1 rfl (Nat.le_of_ble_eq_true rfl) dX12_type_5 ⟨Nat.zero_le _, Nat.zero_le _⟩) hS (fun H locs hz_5 hP hS _ => ?_)
  refine lv_if_ne (tgt := 14) hx hb dX12_type_8 (by decide) (fun hc => ?_) (fun hc => ?_)
  · have h := if_f _ hc h
    refine lv_aload_n hx hb dX12_type_14 rfl (lv_at hl 0 rfl) ?_
    refine y_geti h F hP k_63 (n2 (hP.al 63 rfl)) fl_X12_443 rfl dX12_type_15 (fun v_15 h => ?_)
    refine lv_bipush (v := 80) hx hb dX12_type_18 ib_80 ?_
    refine lv_icmp_ne (tgt := 26) hx hb dX12_type_20 (by decide) (fun hc => ?_) (fun hc => ?_)
    · have h := if_f _ hc h
      refine lv_aload_n hx hb dX12_type_26 rfl (lv_at hl 0 rfl) ?_
      refine x_getr F hP k_63 (hP.al 63 rfl) fl_X12_192 rfl r_63_75 dX12_type_27 ?_
      refine lv_aload_n hx hb dX12_type_30 rfl (lv_at hl 0 rfl) ?_
      refine y_geti h F hP k_63 (n2 (hP.al 63 rfl)) fl_X12_443 rfl dX12_type_31 (fun v_31 h => ?_)
      refine lv_iload_n hx hb dX12_type_34 rfl (lv_at hl 1 rfl) ?_
      refine y_iast h F hP hS k_118 (n2 (hP.al 118 rfl)) dX12_type_35 (fun w_35 H locs hm h hP hS => ?_)
      have hM_w := hm
      refine lv_aload_n hx hb dX12_type_36 rfl (lv_at hl 0 rfl) ?_
      refine lv_dup hx hb dX12_type_37 rfl ?_
      refine y_geti h F hP k_63 (n2 (hP.al 63 rfl)) fl_X12_443 rfl dX12_type_38 (fun v_38 h => ?_)
      refine lv_iconst (v := 1) hx hb dX12_type_41 ic_1 ?_
      refine lv_iadd hx hb dX12_type_42 ?_
      refine y_puti h F hP hS k_63 (n2 (hP.al 63 rfl)) fl_X12_443 rfl dX12_type_43 (fun w_43 H locs hm h hP hS => ?_)
      have hM_w := hM_w.trans hm
      refine lv_aload_n hx hb dX12_type_46 rfl (lv_at hl 0 rfl) ?_
      refine y_geti h F hP k_63 (n2 (hP.al 63 rfl)) fl_X12_443 rfl dX12_type_47 (fun v_47 h => ?_)
      exact y_iretM h F hr hP hS hM_w hlk dX12_type_50
    · have h := if_t _ hc h
      refine lv_bipush (v := -4) hx hb dX12_type_23 ib_m4 ?_
      exact y_iretM h F hr hP hS mono.refl hlk dX12_type_25
  · have h := if_t _ hc h
    refine lv_bipush (v := -2) hx hb dX12_type_11 ib_m2 ?_
    exact y_iretM h F hr hP hS mono.refl hlk dX12_type_13
def f_X12_tear (w : Wd) : Option (Int32 × Wd) :=
q_gt w 63 74 (fun v_1 =>
q_pt w 63 74 (0 : Int32) (fun w_7 =>
some (v_1, w_7)))
set_option maxRecDepth 100000 in
set_option maxHeartbeats 4000000 in
theorem c_X12_tear (l : Launch) (D : va_G) (cT : Nat → ClassId) (lo : Nat) (w : Wd) (ad : Nat → Nat)  (r : Int32) (w9 : Wd) (h : f_X12_tear w = some (r, w9)) : Met l yX12_tear (.code yX12_tear cX12_tear 2 (some .int) :: TW) { frames := 0, cells := 0, slots := 0, locals := 0 } (mPc D cT lo NB w ad [.ref (ad 63)]) (mQ D cT lo NB w w9 ad (some (.int r))) 0 0 (fun q => lo ≤ q) := by
  unfold f_X12_tear at h
  refine x_met (lv := [(0, .ref (ad 63))]) (by decide +kernel) (Nat.le_of_ble_eq_true rfl) rfl ?_
  intro p e s m args below meth c ls F hr hlk hP hin hl
  have hx := F.1
  have hb := F.2.1
  have hS : va_S (fun q => lo ≤ q) s.heap s.heap [] := va_S.rf
  have hM_w : mono w w := mono.refl
  refine lv_aload_n hx hb dX12_tear_0 rfl (lv_at hl 0 rfl) ?_
  refine y_geti h F hP k_63 (n2 (hP.al 63 rfl)) fl_X12_443 rfl dX12_tear_1 (fun v_1 h => ?_)
  refine lv_istore_n (lv' := [(1, .int v_1), (0, .ref (ad 63))]) hx hb dX12_tear_4 rfl hl (Nat.le_of_ble_eq_true rfl) rfl (fun ls hl => ?_)
  refine lv_aload_n hx hb dX12_tear_5 rfl (lv_at hl 1 rfl) ?_
  refine lv_iconst (v := 0) hx hb dX12_tear_6 ic_0 ?_
  refine y_puti h F hP hS k_63 (n2 (hP.al 63 rfl)) fl_X12_443 rfl dX12_tear_7 (fun w_7 H locs hm h hP hS => ?_)
  have hM_w := hm
  refine lv_iload_n hx hb dX12_tear_10 rfl (lv_at hl 0 rfl) ?_
  exact y_iretM h F hr hP hS hM_w hlk dX12_tear_11
def f_X12_byteAt (w : Wd) (a1 : Int32) : Option Int32 :=
q_gt w 63 74 (fun v_2 =>
if v_2 ≤ a1 then
some (-1 : Int32)
else
q_ld w 118 80 a1 (fun v_13 =>
some v_13))
set_option maxRecDepth 100000 in
set_option maxHeartbeats 4000000 in
theorem c_X12_byteAt (l : Launch) (D : va_G) (cT : Nat → ClassId) (lo : Nat) (w : Wd) (ad : Nat → Nat) (a1 : Int32) (r : Int32) (h : f_X12_byteAt w a1 = some r) : Met l yX12_byteAt (.code yX12_byteAt cX12_byteAt 2 (some .int) :: TW) { frames := 0, cells := 0, slots := 0, locals := 0 } (mPc D cT lo NB w ad [.ref (ad 63), .int a1]) (mQ D cT lo NB w w ad (some (.int r))) 0 0 (fun q => lo ≤ q) := by
  unfold f_X12_byteAt at h
  refine x_met (lv := [(0, .ref (ad 63)), (1, .int a1)]) (by decide +kernel) (Nat.le_of_ble_eq_true rfl) rfl ?_
  intro p e s m args below meth c ls F hr hlk hP hin hl
  have hx := F.1
  have hb := F.2.1
  have hS : va_S (fun q => lo ≤ q) s.heap s.heap [] := va_S.rf
  refine lv_iload_n hx hb dX12_byteAt_0 rfl (lv_at hl 1 rfl) ?_
  refine lv_aload_n hx hb dX12_byteAt_1 rfl (lv_at hl 0 rfl) ?_
  refine y_geti h F hP k_63 (n2 (hP.al 63 rfl)) fl_X12_443 rfl dX12_byteAt_2 (fun v_2 h => ?_)
  refine lv_icmp_ge (tgt := 17) hx hb dX12_byteAt_5 (by decide) (fun hc => ?_) (fun hc => ?_)
  · have h := if_t _ hc h
    refine lv_iconst (v := -1) hx hb dX12_byteAt_17 ic_m1 ?_
    exact y_iretO h F hr hP hS hlk dX12_byteAt_18
  · have h := if_f _ hc h
    refine lv_aload_n hx hb dX12_byteAt_8 rfl (lv_at hl 0 rfl) ?_
    refine x_getr F hP k_63 (hP.al 63 rfl) fl_X12_192 rfl r_63_75 dX12_byteAt_9 ?_
    refine lv_iload_n hx hb dX12_byteAt_12 rfl (lv_at hl 1 rfl) ?_
    refine y_iald h F hP k_118 (n2 (hP.al 118 rfl)) dX12_byteAt_13 (fun v_13 h => ?_)
    refine lv_goto (tgt := 18) hx hb dX12_byteAt_14 (by decide) ?_
    exact y_iretO h F hr hP hS hlk dX12_byteAt_18
def f_X12_leastOf (a1 : Int32) : Int32 :=
if a1 = (100 : Int32) then
(1 : Int32)
else
if a1 = (98 : Int32) then
(1 : Int32)
else
if a1 = (102 : Int32) then
(1 : Int32)
else
(0 : Int32)
set_option maxRecDepth 100000 in
set_option maxHeartbeats 4000000 in
theorem c_X12_leastOf (l : Launch) (D : va_G) (cT : Nat → ClassId) (lo nb : Nat) (w : Wd) (ad : Nat → Nat) (a1 : Int32) : Met l yX12_leastOf (.code yX12_leastOf cX12_leastOf 1 (some .int) :: TW) { frames := 0, cells := 0, slots := 0, locals := 0 } (mPc D cT lo nb w ad [.int a1]) (mQ D cT lo nb w w ad (some (.int (f_X12_leastOf a1)))) 0 0 (fun q => lo ≤ q) := by
  obtain ⟨r, h⟩ : ∃ r, f_X12_leastOf a1 = r := ⟨_, rfl⟩
  rw [h]
  unfold f_X12_leastOf at h
  refine x_met (lv := [(0, .int a1)]) (by decide +kernel) (Nat.le_of_ble_eq_true rfl) rfl ?_
  intro p e s m args below meth c ls F hr hlk hP hin hl
  have hx := F.1
  have hb := F.2.1
  have hS : va_S (fun q => lo ≤ q) s.heap s.heap [] := va_S.rf
  refine lv_iload_n hx hb dX12_leastOf_0 rfl (lv_at hl 0 rfl) ?_
  refine lv_bipush (v := 100) hx hb dX12_leastOf_1 ib_100 ?_
  refine lv_icmp_eq (tgt := 18) hx hb dX12_leastOf_3 (by decide) (fun hc => ?_) (fun hc => ?_)
  · have h := if_t _ hc h
    refine lv_iconst (v := 1) hx hb dX12_leastOf_18 ic_1 ?_
    refine lv_goto (tgt := 23) hx hb dX12_leastOf_19 (by decide) ?_
    exact y_iretP h F hr hP hS hlk dX12_leastOf_23
  · have h := if_f _ hc h
    refine lv_iload_n hx hb dX12_leastOf_6 rfl (lv_at hl 0 rfl) ?_
    refine lv_bipush (v := 98) hx hb dX12_leastOf_7 ib_98 ?_
    refine lv_icmp_eq (tgt := 18) hx hb dX12_leastOf_9 (by decide) (fun hc => ?_) (fun hc => ?_)
    · have h := if_t _ hc h
      refine lv_iconst (v := 1) hx hb dX12_leastOf_18 ic_1 ?_
      refine lv_goto (tgt := 23) hx hb dX12_leastOf_19 (by decide) ?_
      exact y_iretP h F hr hP hS hlk dX12_leastOf_23
    · have h := if_f _ hc h
      refine lv_iload_n hx hb dX12_leastOf_12 rfl (lv_at hl 0 rfl) ?_
      refine lv_bipush (v := 102) hx hb dX12_leastOf_13 ib_102 ?_
      refine lv_icmp_ne (tgt := 22) hx hb dX12_leastOf_15 (by decide) (fun hc => ?_) (fun hc => ?_)
      · have h := if_f _ hc h
        refine lv_iconst (v := 0) hx hb dX12_leastOf_22 ic_0 ?_
        exact y_iretP h F hr hP hS hlk dX12_leastOf_23
      · have h := if_t _ hc h
        refine lv_iconst (v := 1) hx hb dX12_leastOf_18 ic_1 ?_
        refine lv_goto (tgt := 23) hx hb dX12_leastOf_19 (by decide) ?_
        exact y_iretP h F hr hP hS hlk dX12_leastOf_23
def f_X12_mostOf (a1 : Int32) : Int32 :=
if a1 = (100 : Int32) then
(40 : Int32)
else
if a1 = (98 : Int32) then
(40 : Int32)
else
if a1 = (108 : Int32) then
(3 : Int32)
else
if a1 = (114 : Int32) then
(3 : Int32)
else
if a1 = (119 : Int32) then
(9 : Int32)
else
if a1 = (102 : Int32) then
(20 : Int32)
else
(-1 : Int32)
set_option maxRecDepth 100000 in
set_option maxHeartbeats 4000000 in
theorem c_X12_mostOf (l : Launch) (D : va_G) (cT : Nat → ClassId) (lo nb : Nat) (w : Wd) (ad : Nat → Nat) (a1 : Int32) : Met l yX12_mostOf (.code yX12_mostOf cX12_mostOf 1 (some .int) :: TW) { frames := 0, cells := 0, slots := 0, locals := 0 } (mPc D cT lo nb w ad [.int a1]) (mQ D cT lo nb w w ad (some (.int (f_X12_mostOf a1)))) 0 0 (fun q => lo ≤ q) := by
  obtain ⟨r, h⟩ : ∃ r, f_X12_mostOf a1 = r := ⟨_, rfl⟩
  rw [h]
  unfold f_X12_mostOf at h
  refine x_met (lv := [(0, .int a1)]) (by decide +kernel) (Nat.le_of_ble_eq_true rfl) rfl ?_
  intro p e s m args below meth c ls F hr hlk hP hin hl
  have hx := F.1
  have hb := F.2.1
  have hS : va_S (fun q => lo ≤ q) s.heap s.heap [] := va_S.rf
  refine lv_iload_n hx hb dX12_mostOf_0 rfl (lv_at hl 0 rfl) ?_
  refine lv_bipush (v := 100) hx hb dX12_mostOf_1 ib_100 ?_
  refine lv_icmp_eq (tgt := 12) hx hb dX12_mostOf_3 (by decide) (fun hc => ?_) (fun hc => ?_)
  · have h := if_t _ hc h
    refine lv_bipush (v := 40) hx hb dX12_mostOf_12 ib_40 ?_
    refine lv_goto (tgt := 56) hx hb dX12_mostOf_14 (by decide) ?_
    exact y_iretP h F hr hP hS hlk dX12_mostOf_56
  · have h := if_f _ hc h
    refine lv_iload_n hx hb dX12_mostOf_6 rfl (lv_at hl 0 rfl) ?_
    refine lv_bipush (v := 98) hx hb dX12_mostOf_7 ib_98 ?_
    refine lv_icmp_ne (tgt := 17) hx hb dX12_mostOf_9 (by decide) (fun hc => ?_) (fun hc => ?_)
    · have h := if_f _ hc h
      refine lv_iload_n hx hb dX12_mostOf_17 rfl (lv_at hl 0 rfl) ?_
      refine lv_bipush (v := 108) hx hb dX12_mostOf_18 ib_108 ?_
      refine lv_icmp_eq (tgt := 29) hx hb dX12_mostOf_20 (by decide) (fun hc => ?_) (fun hc => ?_)
      · have h := if_t _ hc h
        refine lv_iconst (v := 3) hx hb dX12_mostOf_29 ic_3 ?_
        refine lv_goto (tgt := 56) hx hb dX12_mostOf_30 (by decide) ?_
        exact y_iretP h F hr hP hS hlk dX12_mostOf_56
      · have h := if_f _ hc h
        refine lv_iload_n hx hb dX12_mostOf_23 rfl (lv_at hl 0 rfl) ?_
        refine lv_bipush (v := 114) hx hb dX12_mostOf_24 ib_114 ?_
        refine lv_icmp_ne (tgt := 33) hx hb dX12_mostOf_26 (by decide) (fun hc => ?_) (fun hc => ?_)
        · have h := if_f _ hc h
          refine lv_iload_n hx hb dX12_mostOf_33 rfl (lv_at hl 0 rfl) ?_
          refine lv_bipush (v := 119) hx hb dX12_mostOf_34 ib_119 ?_
          refine lv_icmp_ne (tgt := 44) hx hb dX12_mostOf_36 (by decide) (fun hc => ?_) (fun hc => ?_)
          · have h := if_f _ hc h
            refine lv_iload_n hx hb dX12_mostOf_44 rfl (lv_at hl 0 rfl) ?_
            refine lv_bipush (v := 102) hx hb dX12_mostOf_45 ib_102 ?_
            refine lv_icmp_ne (tgt := 55) hx hb dX12_mostOf_47 (by decide) (fun hc => ?_) (fun hc => ?_)
            · have h := if_f _ hc h
              refine lv_iconst (v := -1) hx hb dX12_mostOf_55 ic_m1 ?_
              exact y_iretP h F hr hP hS hlk dX12_mostOf_56
            · have h := if_t _ hc h
              refine lv_bipush (v := 20) hx hb dX12_mostOf_50 ib_20 ?_
              refine lv_goto (tgt := 56) hx hb dX12_mostOf_52 (by decide) ?_
              exact y_iretP h F hr hP hS hlk dX12_mostOf_56
          · have h := if_t _ hc h
            refine lv_bipush (v := 9) hx hb dX12_mostOf_39 ib_9 ?_
            refine lv_goto (tgt := 56) hx hb dX12_mostOf_41 (by decide) ?_
            exact y_iretP h F hr hP hS hlk dX12_mostOf_56
        · have h := if_t _ hc h
          refine lv_iconst (v := 3) hx hb dX12_mostOf_29 ic_3 ?_
          refine lv_goto (tgt := 56) hx hb dX12_mostOf_30 (by decide) ?_
          exact y_iretP h F hr hP hS hlk dX12_mostOf_56
    · have h := if_t _ hc h
      refine lv_bipush (v := 40) hx hb dX12_mostOf_12 ib_40 ?_
      refine lv_goto (tgt := 56) hx hb dX12_mostOf_14 (by decide) ?_
      exact y_iretP h F hr hP hS hlk dX12_mostOf_56
def l_X12_part_42 (v_33 : Int32) (j_114 : Wd → Option (Int32 × Wd)) : Nat → Wd → Option (Int32 × Wd)
  | 0, _ => none
  | n_42 + 1, w_42l =>
    q_gt w_42l 63 76 (fun v_43 =>
    if (v_33 + (2 : Int32)) ≤ v_43 then
    j_114 w_42l
    else
    q_gt w_42l 63 76 (fun v_54 =>
    q_bo (f_X12_byteAt w_42l v_54) (fun v_57 =>
    if v_57 < (48 : Int32) then
    j_114 w_42l
    else
    q_gt w_42l 63 76 (fun v_67 =>
    q_bo (f_X12_byteAt w_42l v_67) (fun v_70 =>
    if (57 : Int32) < v_70 then
    j_114 w_42l
    else
    q_gt w_42l 63 77 (fun v_82 =>
    q_gt w_42l 63 76 (fun v_88 =>
    q_bo (f_X12_byteAt w_42l v_88) (fun v_91 =>
    q_pt w_42l 63 77 ((((10 : Int32) * v_82) + v_91) - (48 : Int32)) (fun w_98 =>
    q_gt w_98 63 76 (fun v_103 =>
    q_pt w_98 63 76 (v_103 + (1 : Int32)) (fun w_108 =>
    l_X12_part_42 v_33 j_114 n_42 w_108)))))))))))
def f_X12_part (w : Wd) : Option (Int32 × Wd) :=
q_gt w 63 76 (fun v_2 =>
q_bo (f_X12_byteAt w v_2) (fun v_5 =>
if (f_X12_mostOf v_5) = (-1 : Int32) then
q_gt w 63 76 (fun v_18 =>
some (v_18, w))
else
q_gt w 63 76 (fun v_24 =>
q_pt w 63 76 (v_24 + (1 : Int32)) (fun w_29 =>
q_gt w_29 63 76 (fun v_33 =>
q_pt w_29 63 77 (0 : Int32) (fun w_39 =>
q_jn (fun (w_114j : Wd) =>
q_gt w_114j 63 76 (fun v_115 =>
if v_115 = v_33 then
some (v_33, w_114j)
else
q_gt w_114j 63 77 (fun v_123 =>
if (f_X12_in v_123 (f_X12_leastOf v_5) (f_X12_mostOf v_5)) = 0 then
some (v_33, w_114j)
else
some ((-1 : Int32), w_114j)))) (fun j_114 =>
l_X12_part_42 v_33 j_114 FU w_39)))))))
set_option maxRecDepth 100000 in
set_option maxHeartbeats 4000000 in
theorem c_X12_part (l : Launch) (D : va_G) (cT : Nat → ClassId) (lo : Nat) (w : Wd) (ad : Nat → Nat)  (r : Int32) (w9 : Wd) (h : f_X12_part w = some (r, w9)) : Met l yX12_part (.code yX12_part cX12_part 3 (some .int) :: TW) { frames := 1, cells := 0, slots := 0, locals := 22 } (mPc D cT lo NB w ad [.ref (ad 63)]) (mQ D cT lo NB w w9 ad (some (.int r))) 0 0 (fun q => lo ≤ q) := by
  unfold f_X12_part at h
  refine x_met (lv := [(0, .ref (ad 63))]) (by decide +kernel) (Nat.le_of_ble_eq_true rfl) rfl ?_
  intro p e s m args below meth c ls F hr hlk hP hin hl
  have hx := F.1
  have hb := F.2.1
  have hS : va_S (fun q => lo ≤ q) s.heap s.heap [] := va_S.rf
  have hM_w : mono w w := mono.refl
  refine lv_aload_n hx hb dX12_part_0 rfl (lv_at hl 0 rfl) ?_
  refine lv_aload_n hx hb dX12_part_1 rfl (lv_at hl 0 rfl) ?_
  refine y_geti h F hP k_63 (n2 (hP.al 63 rfl)) fl_X12_446 rfl dX12_part_2 (fun v_2 h => ?_)
  obtain ⟨v_5, hc_5, h⟩ := bo_s h
  refine x_goes (x_runV (As := [.int v_2]) (rest := []) F hP hS (c_X12_byteAt l D cT lo w ad v_2 v_5 hc_5) cw_X12_byteAt lk_X12_449 vi_X12_byteAt k_63 (n2 (hP.al 63 rfl)) rfl ⟨rfl, rfl, Nat.le_of_ble_eq_true rfl, Nat.le_of_ble_eq_true rfl⟩ hl.1 rfl (Nat.le_of_ble_eq_true rfl) dX12_part_5 ⟨Nat.zero_le _, Nat.zero_le _⟩) hS (fun H locs hP hS _ => ?_)
  refine lv_istore_n (lv' := [(1, .int v_5), (0, .ref (ad 63))]) hx hb dX12_part_8 rfl hl (Nat.le_of_ble_eq_true rfl) rfl (fun ls hl => ?_)
  refine lv_iload_n hx hb dX12_part_9 rfl (lv_at hl 0 rfl) ?_
  refine x_goes (x_runS (As := [.int v_5]) (rest := []) F hP hS (c_X12_mostOf l D cT lo NB w ad v_5) cw_X12_mostOf lk_X12_452 st_X12_mostOf ⟨rfl, rfl, Nat.le_of_ble_eq_true rfl, Nat.le_of_ble_eq_true rfl⟩ hl.1 rfl (Nat.le_of_ble_eq_true rfl) dX12_part_10 ⟨Nat.zero_le _, Nat.zero_le _⟩) hS (fun H locs hP hS _ => ?_)
  refine lv_iconst (v := -1) hx hb dX12_part_13 ic_m1 ?_
  refine lv_icmp_ne (tgt := 22) hx hb dX12_part_14 (by decide) (fun hc => ?_) (fun hc => ?_)
  · have h := if_f _ hc h
    refine lv_aload_n hx hb dX12_part_22 rfl (lv_at hl 1 rfl) ?_
    refine lv_dup hx hb dX12_part_23 rfl ?_
    refine y_geti h F hP k_63 (n2 (hP.al 63 rfl)) fl_X12_446 rfl dX12_part_24 (fun v_24 h => ?_)
    refine lv_iconst (v := 1) hx hb dX12_part_27 ic_1 ?_
    refine lv_iadd hx hb dX12_part_28 ?_
    refine y_puti h F hP hS k_63 (n2 (hP.al 63 rfl)) fl_X12_446 rfl dX12_part_29 (fun w_29 H locs hm h hP hS => ?_)
    have hM_w := hm
    refine lv_aload_n hx hb dX12_part_32 rfl (lv_at hl 1 rfl) ?_
    refine y_geti h F hP k_63 (n2 (hP.al 63 rfl)) fl_X12_446 rfl dX12_part_33 (fun v_33 h => ?_)
    refine lv_istore_n (lv' := [(2, .int v_33), (1, .int v_5), (0, .ref (ad 63))]) hx hb dX12_part_36 rfl hl (Nat.le_of_ble_eq_true rfl) rfl (fun ls hl => ?_)
    refine lv_aload_n hx hb dX12_part_37 rfl (lv_at hl 2 rfl) ?_
    refine lv_iconst (v := 0) hx hb dX12_part_38 ic_0 ?_
    refine y_puti h F hP hS k_63 (n2 (hP.al 63 rfl)) fl_X12_455 rfl dX12_part_39 (fun w_39 H locs hm h hP hS => ?_)
    have hM_w := hM_w.trans hm
    refine jn_use (fun (j_114 : Wd → Option (Int32 × Wd)) => ∀ (w_114j : Wd), mono w_39 w_114j → j_114 w_114j = some (r, w9) → GG p l e { frames := 1, cells := 0, slots := 0, locals := 22 } s m args below meth c 0 0 (MQ below (mQ D cT lo NB w w9 ad (some (.int r))) args s 0 0 (fun q => lo ≤ q)) D cT lo NB 3 ad w_114j 114 [(2, .int v_33), (1, .int v_5), (0, .ref (ad 63))] []) h (fun w_114j hm h H locs ls hP hS hl => ?_) (fun j_114 J_114 h => ?_)
    · have hM_w := hM_w.trans hm
      have hM_w_39 := hm
      refine lv_aload_n hx hb dX12_part_114 rfl (lv_at hl 2 rfl) ?_
      refine y_geti h F hP k_63 (n2 (hP.al 63 rfl)) fl_X12_446 rfl dX12_part_115 (fun v_115 h => ?_)
      refine lv_iload_n hx hb dX12_part_118 rfl (lv_at hl 0 rfl) ?_
      refine lv_icmp_eq (tgt := 140) hx hb dX12_part_119 (by decide) (fun hc => ?_) (fun hc => ?_)
      · have h := if_t _ hc h
        refine lv_iload_n hx hb dX12_part_140 rfl (lv_at hl 0 rfl) ?_
        refine lv_goto (tgt := 145) hx hb dX12_part_141 (by decide) ?_
        exact y_iretM h F hr hP hS hM_w hlk dX12_part_145
      · have h := if_f _ hc h
        refine lv_aload_n hx hb dX12_part_122 rfl (lv_at hl 2 rfl) ?_
        refine y_geti h F hP k_63 (n2 (hP.al 63 rfl)) fl_X12_455 rfl dX12_part_123 (fun v_123 h => ?_)
        refine lv_iload_n hx hb dX12_part_126 rfl (lv_at hl 1 rfl) ?_
        refine x_goes (x_runS (As := [.int v_5]) (rest := [.int v_123]) F hP hS (c_X12_leastOf l D cT lo NB w_114j ad v_5) cw_X12_leastOf lk_X12_458 st_X12_leastOf ⟨rfl, rfl, Nat.le_of_ble_eq_true rfl, Nat.le_of_ble_eq_true rfl⟩ hl.1 rfl (Nat.le_of_ble_eq_true rfl) dX12_part_127 ⟨Nat.zero_le _, Nat.zero_le _⟩) hS (fun H locs hP hS _ => ?_)
        refine lv_iload_n hx hb dX12_part_130 rfl (lv_at hl 1 rfl) ?_
        refine x_goes (x_runS (As := [.int v_5]) (rest := [.int (f_X12_leastOf v_5), .int v_123]) F hP hS (c_X12_mostOf l D cT lo NB w_114j ad v_5) cw_X12_mostOf lk_X12_452 st_X12_mostOf ⟨rfl, rfl, Nat.le_of_ble_eq_true rfl, Nat.le_of_ble_eq_true rfl⟩ hl.1 rfl (Nat.le_of_ble_eq_true rfl) dX12_part_131 ⟨Nat.zero_le _, Nat.zero_le _⟩) hS (fun H locs hP hS _ => ?_)
        refine x_goesZ (x_runS (As := [.int v_123, .int (f_X12_leastOf v_5), .int (f_X12_mostOf v_5)]) (rest := []) F hP hS (c_X12_in l D cT lo NB w_114j ad v_123 (f_X12_leastOf v_5) (f_X12_mostOf v_5)) cw_X12_in lk_X12_217 st_X12_in ⟨rfl, rfl, Nat.le_of_ble_eq_true rfl, Nat.le_of_ble_eq_true rfl⟩ hl.1 rfl (Nat.le_of_ble_eq_true rfl) dX12_part_134 ⟨Nat.zero_le _, Nat.zero_le _⟩) hS (fun H locs hz_134 hP hS _ => ?_)
        refine lv_if_ne (tgt := 144) hx hb dX12_part_137 (by decide) (fun hc => ?_) (fun hc => ?_)
        · have h := if_f _ hc h
          refine lv_iconst (v := -1) hx hb dX12_part_144 ic_m1 ?_
          exact y_iretM h F hr hP hS hM_w hlk dX12_part_145
        · have h := if_t _ hc h
          refine lv_iload_n hx hb dX12_part_140 rfl (lv_at hl 0 rfl) ?_
          refine lv_goto (tgt := 145) hx hb dX12_part_141 (by decide) ?_
          exact y_iretM h F hr hP hS hM_w hlk dX12_part_145
    · have L_42 : ∀ (n_42 : Nat) (w_42l : Wd), mono w_39 w_42l → l_X12_part_42 v_33 j_114 n_42 w_42l = some (r, w9) → GG p l e { frames := 1, cells := 0, slots := 0, locals := 22 } s m args below meth c 0 0 (MQ below (mQ D cT lo NB w w9 ad (some (.int r))) args s 0 0 (fun q => lo ≤ q)) D cT lo NB 3 ad w_42l 42 [(2, .int v_33), (1, .int v_5), (0, .ref (ad 63))] [] := by
        intro n_42
        induction n_42 with
        | zero =>
          intro w_42l _ h
          exact absurd h (by unfold l_X12_part_42; exact fun z => by cases z)
        | succ n_42 ih_42 =>
          intro w_42l hm h H locs ls hP hS hl
          unfold l_X12_part_42 at h
          have hM_w := hM_w.trans hm
          have hM_w_39 := hm
          refine lv_aload_n hx hb dX12_part_42 rfl (lv_at hl 2 rfl) ?_
          refine y_geti h F hP k_63 (n2 (hP.al 63 rfl)) fl_X12_446 rfl dX12_part_43 (fun v_43 h => ?_)
          refine lv_iload_n hx hb dX12_part_46 rfl (lv_at hl 0 rfl) ?_
          refine lv_iconst (v := 2) hx hb dX12_part_47 ic_2 ?_
          refine lv_iadd hx hb dX12_part_48 ?_
          refine lv_icmp_ge (tgt := 114) hx hb dX12_part_49 (by decide) (fun hc => ?_) (fun hc => ?_)
          · have h := if_t _ hc h
            exact J_114 w_42l hM_w_39 h _ _ _ hP hS (lv_sub hl [0, 1, 2] rfl)
          · have h := if_f _ hc h
            refine lv_aload_n hx hb dX12_part_52 rfl (lv_at hl 2 rfl) ?_
            refine lv_aload_n hx hb dX12_part_53 rfl (lv_at hl 2 rfl) ?_
            refine y_geti h F hP k_63 (n2 (hP.al 63 rfl)) fl_X12_446 rfl dX12_part_54 (fun v_54 h => ?_)
            obtain ⟨v_57, hc_57, h⟩ := bo_s h
            refine x_goes (x_runV (As := [.int v_54]) (rest := []) F hP hS (c_X12_byteAt l D cT lo w_42l ad v_54 v_57 hc_57) cw_X12_byteAt lk_X12_449 vi_X12_byteAt k_63 (n2 (hP.al 63 rfl)) rfl ⟨rfl, rfl, Nat.le_of_ble_eq_true rfl, Nat.le_of_ble_eq_true rfl⟩ hl.1 rfl (Nat.le_of_ble_eq_true rfl) dX12_part_57 ⟨Nat.zero_le _, Nat.zero_le _⟩) hS (fun H locs hP hS _ => ?_)
            refine lv_bipush (v := 48) hx hb dX12_part_60 ib_48 ?_
            refine lv_icmp_lt (tgt := 114) hx hb dX12_part_62 (by decide) (fun hc => ?_) (fun hc => ?_)
            · have h := if_t _ hc h
              exact J_114 w_42l hM_w_39 h _ _ _ hP hS (lv_sub hl [0, 1, 2] rfl)
            · have h := if_f _ hc h
              refine lv_aload_n hx hb dX12_part_65 rfl (lv_at hl 2 rfl) ?_
              refine lv_aload_n hx hb dX12_part_66 rfl (lv_at hl 2 rfl) ?_
              refine y_geti h F hP k_63 (n2 (hP.al 63 rfl)) fl_X12_446 rfl dX12_part_67 (fun v_67 h => ?_)
              obtain ⟨v_70, hc_70, h⟩ := bo_s h
              refine x_goes (x_runV (As := [.int v_67]) (rest := []) F hP hS (c_X12_byteAt l D cT lo w_42l ad v_67 v_70 hc_70) cw_X12_byteAt lk_X12_449 vi_X12_byteAt k_63 (n2 (hP.al 63 rfl)) rfl ⟨rfl, rfl, Nat.le_of_ble_eq_true rfl, Nat.le_of_ble_eq_true rfl⟩ hl.1 rfl (Nat.le_of_ble_eq_true rfl) dX12_part_70 ⟨Nat.zero_le _, Nat.zero_le _⟩) hS (fun H locs hP hS _ => ?_)
              refine lv_bipush (v := 57) hx hb dX12_part_73 ib_57 ?_
              refine lv_icmp_gt (tgt := 114) hx hb dX12_part_75 (by decide) (fun hc => ?_) (fun hc => ?_)
              · have h := if_t _ hc h
                exact J_114 w_42l hM_w_39 h _ _ _ hP hS (lv_sub hl [0, 1, 2] rfl)
              · have h := if_f _ hc h
                refine lv_aload_n hx hb dX12_part_78 rfl (lv_at hl 2 rfl) ?_
                refine lv_bipush (v := 10) hx hb dX12_part_79 ib_10 ?_
                refine lv_aload_n hx hb dX12_part_81 rfl (lv_at hl 2 rfl) ?_
                refine y_geti h F hP k_63 (n2 (hP.al 63 rfl)) fl_X12_455 rfl dX12_part_82 (fun v_82 h => ?_)
                refine lv_imul hx hb dX12_part_85 ?_
                refine lv_aload_n hx hb dX12_part_86 rfl (lv_at hl 2 rfl) ?_
                refine lv_aload_n hx hb dX12_part_87 rfl (lv_at hl 2 rfl) ?_
                refine y_geti h F hP k_63 (n2 (hP.al 63 rfl)) fl_X12_446 rfl dX12_part_88 (fun v_88 h => ?_)
                obtain ⟨v_91, hc_91, h⟩ := bo_s h
                refine x_goes (x_runV (As := [.int v_88]) (rest := [.int ((10 : Int32) * v_82), .ref (ad 63)]) F hP hS (c_X12_byteAt l D cT lo w_42l ad v_88 v_91 hc_91) cw_X12_byteAt lk_X12_449 vi_X12_byteAt k_63 (n2 (hP.al 63 rfl)) rfl ⟨rfl, rfl, Nat.le_of_ble_eq_true rfl, Nat.le_of_ble_eq_true rfl⟩ hl.1 rfl (Nat.le_of_ble_eq_true rfl) dX12_part_91 ⟨Nat.zero_le _, Nat.zero_le _⟩) hS (fun H locs hP hS _ => ?_)
                refine lv_iadd hx hb dX12_part_94 ?_
                refine lv_bipush (v := 48) hx hb dX12_part_95 ib_48 ?_
                refine lv_isub hx hb dX12_part_97 ?_
                refine y_puti h F hP hS k_63 (n2 (hP.al 63 rfl)) fl_X12_455 rfl dX12_part_98 (fun w_98 H locs hm h hP hS => ?_)
                have hM_w := hM_w.trans hm
                have hM_w_39 := hM_w_39.trans hm
                refine lv_aload_n hx hb dX12_part_101 rfl (lv_at hl 2 rfl) ?_
                refine lv_dup hx hb dX12_part_102 rfl ?_
                refine y_geti h F hP k_63 (n2 (hP.al 63 rfl)) fl_X12_446 rfl dX12_part_103 (fun v_103 h => ?_)
                refine lv_iconst (v := 1) hx hb dX12_part_106 ic_1 ?_
                refine lv_iadd hx hb dX12_part_107 ?_
                refine y_puti h F hP hS k_63 (n2 (hP.al 63 rfl)) fl_X12_446 rfl dX12_part_108 (fun w_108 H locs hm h hP hS => ?_)
                have hM_w := hM_w.trans hm
                have hM_w_39 := hM_w_39.trans hm
                refine lv_goto (tgt := 42) hx hb dX12_part_111 (by decide) ?_
                exact ih_42 w_108 hM_w_39 h _ _ _ hP hS (lv_sub hl [0, 1, 2] rfl)
      exact L_42 FU w_39 mono.refl h _ _ _ hP hS (lv_sub hl [0, 1, 2] rfl)
  · have h := if_t _ hc h
    refine lv_aload_n hx hb dX12_part_17 rfl (lv_at hl 1 rfl) ?_
    refine y_geti h F hP k_63 (n2 (hP.al 63 rfl)) fl_X12_446 rfl dX12_part_18 (fun v_18 h => ?_)
    exact y_iretM h F hr hP hS mono.refl hlk dX12_part_21
def l_X12_faultNow_10 (j_39 : Wd → Option (Int32 × Wd)) : Nat → Wd → Int32 → Option (Int32 × Wd)
  | 0, _, _ => none
  | n_10 + 1, w_10l, x1_10l =>
    if x1_10l = (-1 : Int32) then
    q_gt w_10l 63 76 (fun v_16 =>
    q_gt w_10l 63 74 (fun v_20 =>
    if v_20 ≤ v_16 then
    some (x1_10l, w_10l)
    else
    q_gt w_10l 63 76 (fun v_28 =>
    q_bo (f_X12_byteAt w_10l v_28) (fun v_31 =>
    if v_31 = (59 : Int32) then
    q_gt w_10l 63 76 (fun v_46 =>
    q_pt w_10l 63 76 (v_46 + (1 : Int32)) (fun w_51 =>
    q_bi (f_X12_part w_51) (fun v_55 w_55 =>
    l_X12_faultNow_10 j_39 n_10 w_55 v_55)))
    else
    j_39 w_10l))))
    else
    some (x1_10l, w_10l)
def f_X12_faultNow (w : Wd) : Option (Int32 × Wd) :=
q_pt w 63 76 (0 : Int32) (fun w_2 =>
q_bi (f_X12_part w_2) (fun v_6 w_6 =>
q_jn (fun (w_39j : Wd) =>
q_gt w_39j 63 76 (fun v_40 =>
some (v_40, w_39j))) (fun j_39 =>
l_X12_faultNow_10 j_39 FU w_6 v_6)))
set_option maxRecDepth 100000 in
set_option maxHeartbeats 4000000 in
theorem c_X12_faultNow (l : Launch) (D : va_G) (cT : Nat → ClassId) (lo : Nat) (w : Wd) (ad : Nat → Nat)  (r : Int32) (w9 : Wd) (h : f_X12_faultNow w = some (r, w9)) : Met l yX12_faultNow (.code yX12_faultNow cX12_faultNow 2 (some .int) :: TW) { frames := 2, cells := 0, slots := 0, locals := 44 } (mPc D cT lo NB w ad [.ref (ad 63)]) (mQ D cT lo NB w w9 ad (some (.int r))) 0 0 (fun q => lo ≤ q) := by
  unfold f_X12_faultNow at h
  refine x_met (lv := [(0, .ref (ad 63))]) (by decide +kernel) (Nat.le_of_ble_eq_true rfl) rfl ?_
  intro p e s m args below meth c ls F hr hlk hP hin hl
  have hx := F.1
  have hb := F.2.1
  have hS : va_S (fun q => lo ≤ q) s.heap s.heap [] := va_S.rf
  have hM_w : mono w w := mono.refl
  refine lv_aload_n hx hb dX12_faultNow_0 rfl (lv_at hl 0 rfl) ?_
  refine lv_iconst (v := 0) hx hb dX12_faultNow_1 ic_0 ?_
  refine y_puti h F hP hS k_63 (n2 (hP.al 63 rfl)) fl_X12_446 rfl dX12_faultNow_2 (fun w_2 H locs hm h hP hS => ?_)
  have hM_w := hm
  refine lv_aload_n hx hb dX12_faultNow_5 rfl (lv_at hl 0 rfl) ?_
  obtain ⟨v_6, w_6, hc_6, h⟩ := bi_s h
  refine x_goes (x_runV (As := []) (rest := []) F hP hS (c_X12_part l D cT lo w_2 ad  v_6 w_6 hc_6) cw_X12_part lk_X12_461 vi_X12_part k_63 (n2 (hP.al 63 rfl)) rfl ⟨rfl, rfl, Nat.le_of_ble_eq_true rfl, Nat.le_of_ble_eq_true rfl⟩ hl.1 rfl (Nat.le_of_ble_eq_true rfl) dX12_faultNow_6 ⟨Nat.zero_le _, Nat.zero_le _⟩) hS (fun H locs hP hS hm => ?_)
  have hM_w := hM_w.trans hm
  refine lv_istore_n (lv' := [(1, .int v_6), (0, .ref (ad 63))]) hx hb dX12_faultNow_9 rfl hl (Nat.le_of_ble_eq_true rfl) rfl (fun ls hl => ?_)
  refine jn_use (fun (j_39 : Wd → Option (Int32 × Wd)) => ∀ (w_39j : Wd), mono w_6 w_39j → j_39 w_39j = some (r, w9) → GG p l e { frames := 2, cells := 0, slots := 0, locals := 44 } s m args below meth c 0 0 (MQ below (mQ D cT lo NB w w9 ad (some (.int r))) args s 0 0 (fun q => lo ≤ q)) D cT lo NB 2 ad w_39j 39 [(0, .ref (ad 63))] []) h (fun w_39j hm h H locs ls hP hS hl => ?_) (fun j_39 J_39 h => ?_)
  · have hM_w := hM_w.trans hm
    have hM_w_6 := hm
    refine lv_aload_n hx hb dX12_faultNow_39 rfl (lv_at hl 0 rfl) ?_
    refine y_geti h F hP k_63 (n2 (hP.al 63 rfl)) fl_X12_446 rfl dX12_faultNow_40 (fun v_40 h => ?_)
    exact y_iretM h F hr hP hS hM_w hlk dX12_faultNow_43
  · have L_10 : ∀ (n_10 : Nat) (w_10l : Wd) (x1_10l : Int32), mono w_6 w_10l → l_X12_faultNow_10 j_39 n_10 w_10l x1_10l = some (r, w9) → GG p l e { frames := 2, cells := 0, slots := 0, locals := 44 } s m args below meth c 0 0 (MQ below (mQ D cT lo NB w w9 ad (some (.int r))) args s 0 0 (fun q => lo ≤ q)) D cT lo NB 2 ad w_10l 10 [(1, .int x1_10l), (0, .ref (ad 63))] [] := by
      intro n_10
      induction n_10 with
      | zero =>
        intro w_10l x1_10l _ h
        exact absurd h (by unfold l_X12_faultNow_10; exact fun z => by cases z)
      | succ n_10 ih_10 =>
        intro w_10l x1_10l hm h H locs ls hP hS hl
        unfold l_X12_faultNow_10 at h
        have hM_w := hM_w.trans hm
        have hM_w_6 := hm
        refine lv_iload_n hx hb dX12_faultNow_10 rfl (lv_at hl 0 rfl) ?_
        refine lv_iconst (v := -1) hx hb dX12_faultNow_11 ic_m1 ?_
        refine lv_icmp_ne (tgt := 62) hx hb dX12_faultNow_12 (by decide) (fun hc => ?_) (fun hc => ?_)
        · have h := if_f _ hc h
          refine lv_iload_n hx hb dX12_faultNow_62 rfl (lv_at hl 0 rfl) ?_
          exact y_iretM h F hr hP hS hM_w hlk dX12_faultNow_63
        · have h := if_t _ hc h
          refine lv_aload_n hx hb dX12_faultNow_15 rfl (lv_at hl 1 rfl) ?_
          refine y_geti h F hP k_63 (n2 (hP.al 63 rfl)) fl_X12_446 rfl dX12_faultNow_16 (fun v_16 h => ?_)
          refine lv_aload_n hx hb dX12_faultNow_19 rfl (lv_at hl 1 rfl) ?_
          refine y_geti h F hP k_63 (n2 (hP.al 63 rfl)) fl_X12_443 rfl dX12_faultNow_20 (fun v_20 h => ?_)
          refine lv_icmp_ge (tgt := 62) hx hb dX12_faultNow_23 (by decide) (fun hc => ?_) (fun hc => ?_)
          · have h := if_t _ hc h
            refine lv_iload_n hx hb dX12_faultNow_62 rfl (lv_at hl 0 rfl) ?_
            exact y_iretM h F hr hP hS hM_w hlk dX12_faultNow_63
          · have h := if_f _ hc h
            refine lv_aload_n hx hb dX12_faultNow_26 rfl (lv_at hl 1 rfl) ?_
            refine lv_aload_n hx hb dX12_faultNow_27 rfl (lv_at hl 1 rfl) ?_
            refine y_geti h F hP k_63 (n2 (hP.al 63 rfl)) fl_X12_446 rfl dX12_faultNow_28 (fun v_28 h => ?_)
            obtain ⟨v_31, hc_31, h⟩ := bo_s h
            refine x_goes (x_runV (As := [.int v_28]) (rest := []) F hP hS (c_X12_byteAt l D cT lo w_10l ad v_28 v_31 hc_31) cw_X12_byteAt lk_X12_449 vi_X12_byteAt k_63 (n2 (hP.al 63 rfl)) rfl ⟨rfl, rfl, Nat.le_of_ble_eq_true rfl, Nat.le_of_ble_eq_true rfl⟩ hl.1 rfl (Nat.le_of_ble_eq_true rfl) dX12_faultNow_31 ⟨Nat.zero_le _, Nat.zero_le _⟩) hS (fun H locs hP hS _ => ?_)
            refine lv_bipush (v := 59) hx hb dX12_faultNow_34 ib_59 ?_
            refine lv_icmp_eq (tgt := 44) hx hb dX12_faultNow_36 (by decide) (fun hc => ?_) (fun hc => ?_)
            · have h := if_t _ hc h
              refine lv_aload_n hx hb dX12_faultNow_44 rfl (lv_at hl 1 rfl) ?_
              refine lv_dup hx hb dX12_faultNow_45 rfl ?_
              refine y_geti h F hP k_63 (n2 (hP.al 63 rfl)) fl_X12_446 rfl dX12_faultNow_46 (fun v_46 h => ?_)
              refine lv_iconst (v := 1) hx hb dX12_faultNow_49 ic_1 ?_
              refine lv_iadd hx hb dX12_faultNow_50 ?_
              refine y_puti h F hP hS k_63 (n2 (hP.al 63 rfl)) fl_X12_446 rfl dX12_faultNow_51 (fun w_51 H locs hm h hP hS => ?_)
              have hM_w := hM_w.trans hm
              have hM_w_6 := hM_w_6.trans hm
              refine lv_aload_n hx hb dX12_faultNow_54 rfl (lv_at hl 1 rfl) ?_
              obtain ⟨v_55, w_55, hc_55, h⟩ := bi_s h
              refine x_goes (x_runV (As := []) (rest := []) F hP hS (c_X12_part l D cT lo w_51 ad  v_55 w_55 hc_55) cw_X12_part lk_X12_461 vi_X12_part k_63 (n2 (hP.al 63 rfl)) rfl ⟨rfl, rfl, Nat.le_of_ble_eq_true rfl, Nat.le_of_ble_eq_true rfl⟩ hl.1 rfl (Nat.le_of_ble_eq_true rfl) dX12_faultNow_55 ⟨Nat.zero_le _, Nat.zero_le _⟩) hS (fun H locs hP hS hm => ?_)
              have hM_w := hM_w.trans hm
              have hM_w_6 := hM_w_6.trans hm
              refine lv_istore_n (lv' := [(1, .int v_55), (0, .ref (ad 63))]) hx hb dX12_faultNow_58 rfl hl (Nat.le_of_ble_eq_true rfl) rfl (fun ls hl => ?_)
              refine lv_goto (tgt := 10) hx hb dX12_faultNow_59 (by decide) ?_
              exact ih_10 w_55 v_55 hM_w_6 h _ _ _ hP hS (lv_sub hl [0, 1] rfl)
            · have h := if_f _ hc h
              exact J_39 w_10l hM_w_6 h _ _ _ hP hS (lv_sub hl [1] rfl)
    exact L_10 FU w_6 v_6 mono.refl h _ _ _ hP hS (lv_sub hl [0, 1] rfl)
def f_X12_fault (w : Wd) : Option (Int32 × Wd) :=
q_bi (f_X12_faultNow w) (fun v_1 w_1 =>
some (v_1, w_1))
set_option maxRecDepth 100000 in
set_option maxHeartbeats 4000000 in
theorem c_X12_fault (l : Launch) (D : va_G) (cT : Nat → ClassId) (lo : Nat) (w : Wd) (ad : Nat → Nat)  (r : Int32) (w9 : Wd) (h : f_X12_fault w = some (r, w9)) : Met l yX12_fault (.code yX12_fault cX12_fault 1 (some .int) :: TW) { frames := 3, cells := 0, slots := 0, locals := 65 } (mPc D cT lo NB w ad [.ref (ad 63)]) (mQ D cT lo NB w w9 ad (some (.int r))) 0 0 (fun q => lo ≤ q) := by
  unfold f_X12_fault at h
  refine x_met (lv := [(0, .ref (ad 63))]) (by decide +kernel) (Nat.le_of_ble_eq_true rfl) rfl ?_
  intro p e s m args below meth c ls F hr hlk hP hin hl
  have hx := F.1
  have hb := F.2.1
  have hS : va_S (fun q => lo ≤ q) s.heap s.heap [] := va_S.rf
  have hM_w : mono w w := mono.refl
  refine lv_aload_n hx hb dX12_fault_0 rfl (lv_at hl 0 rfl) ?_
  obtain ⟨v_1, w_1, hc_1, h⟩ := bi_s h
  refine x_goes (x_runV (As := []) (rest := []) F hP hS (c_X12_faultNow l D cT lo w ad  v_1 w_1 hc_1) cw_X12_faultNow lk_X12_464 vi_X12_faultNow k_63 (n2 (hP.al 63 rfl)) rfl ⟨rfl, rfl, Nat.le_of_ble_eq_true rfl, Nat.le_of_ble_eq_true rfl⟩ hl.1 rfl (Nat.le_of_ble_eq_true rfl) dX12_fault_1 ⟨Nat.zero_le _, Nat.zero_le _⟩) hS (fun H locs hP hS hm => ?_)
  have hM_w := hm
  exact y_iretM h F hr hP hS hM_w hlk dX12_fault_4
def l_X12_perform_192 (a1 : Int32) (j_220 : Wd → Int32 → Option (Int32 × Wd)) (s0_143 : Int32) (s0_187 : Int32) : Nat → Wd → Int32 → Int32 → Option (Int32 × Wd)
  | 0, _, _, _ => none
  | n_192 + 1, w_192l, x7_192l, x2_192l =>
    if s0_143 ≤ x7_192l then
    j_220 w_192l x2_192l
    else
    q_bi (f_X12_does w_192l a1 s0_187) (fun v_203 w_203 =>
    if v_203 = 0 then
    some (x2_192l, w_203)
    else
    q_lt (x2_192l + (1 : Int32)) (fun v_211 =>
    q_lt (x7_192l + (1 : Int32)) (fun v_214 =>
    l_X12_perform_192 a1 j_220 s0_143 s0_187 n_192 w_203 v_214 v_211)))
def l_X12_perform_38 (a1 : Int32) : Nat → Wd → Int32 → Option (Int32 × Wd)
  | 0, _, _ => none
  | n_38 + 1, w_38l, x2_38l =>
    q_gt w_38l 63 76 (fun v_39 =>
    q_gt w_38l 63 74 (fun v_43 =>
    if v_43 ≤ v_39 then
    some (x2_38l, w_38l)
    else
    q_gt w_38l 63 76 (fun v_51 =>
    q_bo (f_X12_byteAt w_38l v_51) (fun v_54 =>
    q_bi (f_X12_part w_38l) (fun v_59 w_59 =>
    q_gt w_59 63 76 (fun v_66 =>
    q_pt w_59 63 76 (v_66 + (1 : Int32)) (fun w_71 =>
    q_jn (fun (w_220j : Wd) (x2_220 : Int32) =>
    l_X12_perform_38 a1 n_38 w_220j x2_220) (fun j_220 =>
    if v_54 = (102 : Int32) then
    q_gt w_71 63 77 (fun v_82 =>
    q_pt w_71 63 30 v_82 (fun w_85 =>
    j_220 w_85 x2_38l))
    else
    if v_54 = (119 : Int32) then
    q_gt w_71 63 77 (fun v_98 =>
    q_gt w_71 63 7 (fun v_102 =>
    if v_98 < v_102 then
    q_gt w_71 63 77 (fun v_115 =>
    q_sz w_71 71 10 v_115 (1 : Int32) (fun w_119 =>
    j_220 w_119 x2_38l))
    else
    some (x2_38l, w_71)))
    else
    q_jn (fun (s0_143 : Int32) =>
    q_jn (fun (s0_187 : Int32) =>
    l_X12_perform_192 a1 j_220 s0_143 s0_187 FU w_71 (0 : Int32) x2_38l) (fun j_187 =>
    if v_54 = (100 : Int32) then
    j_187 (0 : Int32)
    else
    if v_54 = (98 : Int32) then
    j_187 (1 : Int32)
    else
    if v_54 = (108 : Int32) then
    q_gt w_71 63 77 (fun v_173 =>
    j_187 ((2 : Int32) + v_173))
    else
    q_gt w_71 63 77 (fun v_183 =>
    j_187 ((6 : Int32) + v_183)))) (fun j_143 =>
    q_jn (q_gt w_71 63 77 (fun v_136 =>
    j_143 v_136)) (fun j_135 =>
    if v_54 = (100 : Int32) then
    j_135
    else
    if v_54 = (98 : Int32) then
    j_135
    else
    j_143 (1 : Int32)))))))))))
def f_X12_perform (w : Wd) (a1 : Int32) : Option (Int32 × Wd) :=
if (f_X12_isCar w a1) = 0 then
some ((-2 : Int32), w)
else
q_bi (f_X12_faultNow w) (fun v_12 w_12 =>
if v_12 = (-1 : Int32) then
q_ld w_12 84 4 a1 (fun v_24 =>
if v_24 = 0 then
some ((-3 : Int32), w_12)
else
q_pt w_12 63 76 (0 : Int32) (fun w_35 =>
l_X12_perform_38 a1 FU w_35 (0 : Int32)))
else
some ((-3 : Int32), w_12))
set_option maxRecDepth 100000 in
set_option maxHeartbeats 4000000 in
theorem c_X12_perform (l : Launch) (D : va_G) (cT : Nat → ClassId) (lo : Nat) (w : Wd) (ad : Nat → Nat) (a1 : Int32) (r : Int32) (w9 : Wd) (h : f_X12_perform w a1 = some (r, w9)) : Met l yX12_perform (.code yX12_perform cX12_perform 8 (some .int) :: TW) { frames := 9, cells := 0, slots := 0, locals := 221 } (mPc D cT lo NB w ad [.ref (ad 63), .int a1]) (mQ D cT lo NB w w9 ad (some (.int r))) 0 0 (fun q => lo ≤ q) := by
  unfold f_X12_perform at h
  refine x_met (lv := [(0, .ref (ad 63)), (1, .int a1)]) (by decide +kernel) (Nat.le_of_ble_eq_true rfl) rfl ?_
  intro p e s m args below meth c ls F hr hlk hP hin hl
  have hx := F.1
  have hb := F.2.1
  have hS : va_S (fun q => lo ≤ q) s.heap s.heap [] := va_S.rf
  have hM_w : mono w w := mono.refl
  refine lv_aload_n hx hb dX12_perform_0 rfl (lv_at hl 0 rfl) ?_
  refine lv_iload_n hx hb dX12_perform_1 rfl (lv_at hl 1 rfl) ?_
  refine x_goesZ (x_runV (As := [.int a1]) (rest := []) F hP hS (c_X12_isCar l D cT lo w ad a1) cw_X12_isCar lk_X12_257 vi_X12_isCar k_63 (n2 (hP.al 63 rfl)) rfl ⟨rfl, rfl, Nat.le_of_ble_eq_true rfl, Nat.le_of_ble_eq_true rfl⟩ hl.1 rfl (Nat.le_of_ble_eq_true rfl) dX12_perform_2 ⟨Nat.zero_le _, Nat.zero_le _⟩) hS (fun H locs hz_2 hP hS _ => ?_)
  refine lv_if_ne (tgt := 11) hx hb dX12_perform_5 (by decide) (fun hc => ?_) (fun hc => ?_)
  · have h := if_f _ hc h
    refine lv_aload_n hx hb dX12_perform_11 rfl (lv_at hl 0 rfl) ?_
    obtain ⟨v_12, w_12, hc_12, h⟩ := bi_s h
    refine x_goes (x_runV (As := []) (rest := []) F hP hS (c_X12_faultNow l D cT lo w ad  v_12 w_12 hc_12) cw_X12_faultNow lk_X12_464 vi_X12_faultNow k_63 (n2 (hP.al 63 rfl)) rfl ⟨rfl, rfl, Nat.le_of_ble_eq_true rfl, Nat.le_of_ble_eq_true rfl⟩ hl.1 rfl (Nat.le_of_ble_eq_true rfl) dX12_perform_12 ⟨Nat.zero_le _, Nat.zero_le _⟩) hS (fun H locs hP hS hm => ?_)
    have hM_w := hm
    refine lv_iconst (v := -1) hx hb dX12_perform_15 ic_m1 ?_
    refine lv_icmp_ne (tgt := 28) hx hb dX12_perform_16 (by decide) (fun hc => ?_) (fun hc => ?_)
    · have h := if_f _ hc h
      refine lv_bipush (v := -3) hx hb dX12_perform_28 ib_m3 ?_
      exact y_iretM h F hr hP hS hM_w hlk dX12_perform_30
    · have h := if_t _ hc h
      refine lv_aload_n hx hb dX12_perform_19 rfl (lv_at hl 0 rfl) ?_
      refine x_getr F hP k_63 (hP.al 63 rfl) fl_X12_71 rfl r_63_25 dX12_perform_20 ?_
      refine lv_iload_n hx hb dX12_perform_23 rfl (lv_at hl 1 rfl) ?_
      refine y_zald h F hP k_84 (n2 (hP.al 84 rfl)) dX12_perform_24 (fun v_24 h => ?_)
      refine lv_if_ne (tgt := 31) hx hb dX12_perform_25 (by decide) (fun hc => ?_) (fun hc => ?_)
      · have h := if_f _ hc h
        refine lv_iconst (v := 0) hx hb dX12_perform_31 ic_0 ?_
        refine lv_istore_n (lv' := [(2, .int (0 : Int32)), (0, .ref (ad 63)), (1, .int a1)]) hx hb dX12_perform_32 rfl hl (Nat.le_of_ble_eq_true rfl) rfl (fun ls hl => ?_)
        refine lv_aload_n hx hb dX12_perform_33 rfl (lv_at hl 1 rfl) ?_
        refine lv_iconst (v := 0) hx hb dX12_perform_34 ic_0 ?_
        refine y_puti h F hP hS k_63 (n2 (hP.al 63 rfl)) fl_X12_446 rfl dX12_perform_35 (fun w_35 H locs hm h hP hS => ?_)
        have hM_w := hM_w.trans hm
        have L_38 : ∀ (n_38 : Nat) (w_38l : Wd) (x2_38l : Int32), mono w_35 w_38l → l_X12_perform_38 a1 n_38 w_38l x2_38l = some (r, w9) → GG p l e { frames := 9, cells := 0, slots := 0, locals := 221 } s m args below meth c 0 0 (MQ below (mQ D cT lo NB w w9 ad (some (.int r))) args s 0 0 (fun q => lo ≤ q)) D cT lo NB 8 ad w_38l 38 [(2, .int x2_38l), (0, .ref (ad 63)), (1, .int a1)] [] := by
          intro n_38
          induction n_38 with
          | zero =>
            intro w_38l x2_38l _ h
            exact absurd h (by unfold l_X12_perform_38; exact fun z => by cases z)
          | succ n_38 ih_38 =>
            intro w_38l x2_38l hm h H locs ls hP hS hl
            unfold l_X12_perform_38 at h
            have hM_w := hM_w.trans hm
            have hM_w_35 := hm
            refine lv_aload_n hx hb dX12_perform_38 rfl (lv_at hl 1 rfl) ?_
            refine y_geti h F hP k_63 (n2 (hP.al 63 rfl)) fl_X12_446 rfl dX12_perform_39 (fun v_39 h => ?_)
            refine lv_aload_n hx hb dX12_perform_42 rfl (lv_at hl 1 rfl) ?_
            refine y_geti h F hP k_63 (n2 (hP.al 63 rfl)) fl_X12_443 rfl dX12_perform_43 (fun v_43 h => ?_)
            refine lv_icmp_ge (tgt := 223) hx hb dX12_perform_46 (by decide) (fun hc => ?_) (fun hc => ?_)
            · have h := if_t _ hc h
              refine lv_iload_n hx hb dX12_perform_223 rfl (lv_at hl 0 rfl) ?_
              exact y_iretM h F hr hP hS hM_w hlk dX12_perform_224
            · have h := if_f _ hc h
              refine lv_aload_n hx hb dX12_perform_49 rfl (lv_at hl 1 rfl) ?_
              refine lv_aload_n hx hb dX12_perform_50 rfl (lv_at hl 1 rfl) ?_
              refine y_geti h F hP k_63 (n2 (hP.al 63 rfl)) fl_X12_446 rfl dX12_perform_51 (fun v_51 h => ?_)
              obtain ⟨v_54, hc_54, h⟩ := bo_s h
              refine x_goes (x_runV (As := [.int v_51]) (rest := []) F hP hS (c_X12_byteAt l D cT lo w_38l ad v_51 v_54 hc_54) cw_X12_byteAt lk_X12_449 vi_X12_byteAt k_63 (n2 (hP.al 63 rfl)) rfl ⟨rfl, rfl, Nat.le_of_ble_eq_true rfl, Nat.le_of_ble_eq_true rfl⟩ hl.1 rfl (Nat.le_of_ble_eq_true rfl) dX12_perform_54 ⟨Nat.zero_le _, Nat.zero_le _⟩) hS (fun H locs hP hS _ => ?_)
              refine lv_istore_n (lv' := [(3, .int v_54), (2, .int x2_38l), (0, .ref (ad 63)), (1, .int a1)]) hx hb dX12_perform_57 rfl hl (Nat.le_of_ble_eq_true rfl) rfl (fun ls hl => ?_)
              refine lv_aload_n hx hb dX12_perform_58 rfl (lv_at hl 2 rfl) ?_
              obtain ⟨v_59, w_59, hc_59, h⟩ := bi_s h
              refine x_goes (x_runV (As := []) (rest := []) F hP hS (c_X12_part l D cT lo w_38l ad  v_59 w_59 hc_59) cw_X12_part lk_X12_461 vi_X12_part k_63 (n2 (hP.al 63 rfl)) rfl ⟨rfl, rfl, Nat.le_of_ble_eq_true rfl, Nat.le_of_ble_eq_true rfl⟩ hl.1 rfl (Nat.le_of_ble_eq_true rfl) dX12_perform_59 ⟨Nat.zero_le _, Nat.zero_le _⟩) hS (fun H locs hP hS hm => ?_)
              have hM_w := hM_w.trans hm
              have hM_w_35 := hM_w_35.trans hm
              refine lv_istore (lv' := [(4, .int v_59), (3, .int v_54), (2, .int x2_38l), (0, .ref (ad 63)), (1, .int a1)]) hx hb dX12_perform_62 hl (Nat.le_of_ble_eq_true rfl) rfl (fun ls hl => ?_)
              refine lv_aload_n hx hb dX12_perform_64 rfl (lv_at hl 3 rfl) ?_
              refine lv_dup hx hb dX12_perform_65 rfl ?_
              refine y_geti h F hP k_63 (n2 (hP.al 63 rfl)) fl_X12_446 rfl dX12_perform_66 (fun v_66 h => ?_)
              refine lv_iconst (v := 1) hx hb dX12_perform_69 ic_1 ?_
              refine lv_iadd hx hb dX12_perform_70 ?_
              refine y_puti h F hP hS k_63 (n2 (hP.al 63 rfl)) fl_X12_446 rfl dX12_perform_71 (fun w_71 H locs hm h hP hS => ?_)
              have hM_w := hM_w.trans hm
              have hM_w_35 := hM_w_35.trans hm
              refine lv_iload_n hx hb dX12_perform_74 rfl (lv_at hl 1 rfl) ?_
              refine lv_bipush (v := 102) hx hb dX12_perform_75 ib_102 ?_
              refine jn_use (fun (j_220 : Wd → Int32 → Option (Int32 × Wd)) => ∀ (w_220j : Wd) (x2_220 : Int32), mono w_71 w_220j → j_220 w_220j x2_220 = some (r, w9) → GG p l e { frames := 9, cells := 0, slots := 0, locals := 221 } s m args below meth c 0 0 (MQ below (mQ D cT lo NB w w9 ad (some (.int r))) args s 0 0 (fun q => lo ≤ q)) D cT lo NB 8 ad w_220j 220 [(2, .int x2_220), (0, .ref (ad 63)), (1, .int a1)] []) h (fun w_220j x2_220 hm h H locs ls hP hS hl => ?_) (fun j_220 J_220 h => ?_)
              · have hM_w := hM_w.trans hm
                have hM_w_35 := hM_w_35.trans hm
                have hM_w_71 := hm
                refine lv_goto (tgt := 38) hx hb dX12_perform_220 (by decide) ?_
                exact ih_38 w_220j x2_220 hM_w_35 h _ _ _ hP hS (lv_sub hl [0, 1, 2] rfl)
              · refine lv_icmp_ne (tgt := 91) hx hb dX12_perform_77 (by decide) (fun hc => ?_) (fun hc => ?_)
                · have h := if_f _ hc h
                  refine lv_iload_n hx hb dX12_perform_91 rfl (lv_at hl 1 rfl) ?_
                  refine lv_bipush (v := 119) hx hb dX12_perform_92 ib_119 ?_
                  refine lv_icmp_ne (tgt := 123) hx hb dX12_perform_94 (by decide) (fun hc => ?_) (fun hc => ?_)
                  · have h := if_f _ hc h
                    refine lv_iload_n hx hb dX12_perform_123 rfl (lv_at hl 1 rfl) ?_
                    refine lv_bipush (v := 100) hx hb dX12_perform_124 ib_100 ?_
                    refine jn_use (fun (j_143 : Int32 → Option (Int32 × Wd)) => ∀ (s0_143 : Int32), j_143 s0_143 = some (r, w9) → GG p l e { frames := 9, cells := 0, slots := 0, locals := 221 } s m args below meth c 0 0 (MQ below (mQ D cT lo NB w w9 ad (some (.int r))) args s 0 0 (fun q => lo ≤ q)) D cT lo NB 8 ad w_71 143 [(3, .int v_54), (2, .int x2_38l), (0, .ref (ad 63)), (1, .int a1)] [.int s0_143]) h (fun s0_143 h H locs ls hP hS hl => ?_) (fun j_143 J_143 h => ?_)
                    · refine lv_istore (lv' := [(5, .int s0_143), (3, .int v_54), (2, .int x2_38l), (0, .ref (ad 63)), (1, .int a1)]) hx hb dX12_perform_143 hl (Nat.le_of_ble_eq_true rfl) rfl (fun ls hl => ?_)
                      refine lv_iload_n hx hb dX12_perform_145 rfl (lv_at hl 1 rfl) ?_
                      refine lv_bipush (v := 100) hx hb dX12_perform_146 ib_100 ?_
                      refine jn_use (fun (j_187 : Int32 → Option (Int32 × Wd)) => ∀ (s0_187 : Int32), j_187 s0_187 = some (r, w9) → GG p l e { frames := 9, cells := 0, slots := 0, locals := 221 } s m args below meth c 0 0 (MQ below (mQ D cT lo NB w w9 ad (some (.int r))) args s 0 0 (fun q => lo ≤ q)) D cT lo NB 8 ad w_71 187 [(5, .int s0_143), (2, .int x2_38l), (0, .ref (ad 63)), (1, .int a1)] [.int s0_187]) h (fun s0_187 h H locs ls hP hS hl => ?_) (fun j_187 J_187 h => ?_)
                      · refine lv_istore (lv' := [(6, .int s0_187), (5, .int s0_143), (2, .int x2_38l), (0, .ref (ad 63)), (1, .int a1)]) hx hb dX12_perform_187 hl (Nat.le_of_ble_eq_true rfl) rfl (fun ls hl => ?_)
                        refine lv_iconst (v := 0) hx hb dX12_perform_189 ic_0 ?_
                        refine lv_istore (lv' := [(7, .int (0 : Int32)), (6, .int s0_187), (5, .int s0_143), (2, .int x2_38l), (0, .ref (ad 63)), (1, .int a1)]) hx hb dX12_perform_190 hl (Nat.le_of_ble_eq_true rfl) rfl (fun ls hl => ?_)
                        have L_192 : ∀ (n_192 : Nat) (w_192l : Wd) (x7_192l : Int32) (x2_192l : Int32), mono w_71 w_192l → l_X12_perform_192 a1 j_220 s0_143 s0_187 n_192 w_192l x7_192l x2_192l = some (r, w9) → GG p l e { frames := 9, cells := 0, slots := 0, locals := 221 } s m args below meth c 0 0 (MQ below (mQ D cT lo NB w w9 ad (some (.int r))) args s 0 0 (fun q => lo ≤ q)) D cT lo NB 8 ad w_192l 192 [(7, .int x7_192l), (6, .int s0_187), (5, .int s0_143), (2, .int x2_192l), (0, .ref (ad 63)), (1, .int a1)] [] := by
                          intro n_192
                          induction n_192 with
                          | zero =>
                            intro w_192l x7_192l x2_192l _ h
                            exact absurd h (by unfold l_X12_perform_192; exact fun z => by cases z)
                          | succ n_192 ih_192 =>
                            intro w_192l x7_192l x2_192l hm h H locs ls hP hS hl
                            unfold l_X12_perform_192 at h
                            have hM_w := hM_w.trans hm
                            have hM_w_35 := hM_w_35.trans hm
                            have hM_w_71 := hm
                            refine lv_iload hx hb dX12_perform_192 (lv_at hl 0 rfl) ?_
                            refine lv_iload hx hb dX12_perform_194 (lv_at hl 2 rfl) ?_
                            refine lv_icmp_ge (tgt := 220) hx hb dX12_perform_196 (by decide) (fun hc => ?_) (fun hc => ?_)
                            · have h := if_t _ hc h
                              exact J_220 w_192l x2_192l hM_w_71 h _ _ _ hP hS (lv_sub hl [3, 4, 5] rfl)
                            · have h := if_f _ hc h
                              refine lv_aload_n hx hb dX12_perform_199 rfl (lv_at hl 4 rfl) ?_
                              refine lv_iload_n hx hb dX12_perform_200 rfl (lv_at hl 5 rfl) ?_
                              refine lv_iload hx hb dX12_perform_201 (lv_at hl 1 rfl) ?_
                              obtain ⟨v_203, w_203, hc_203, h⟩ := bi_s h
                              refine x_goesZ (x_runV (As := [.int a1, .int s0_187]) (rest := []) F hP hS (c_X12_does l D cT lo w_192l ad a1 s0_187 v_203 w_203 hc_203) cw_X12_does lk_X12_337 vi_X12_does k_63 (n2 (hP.al 63 rfl)) rfl ⟨rfl, rfl, Nat.le_of_ble_eq_true rfl, Nat.le_of_ble_eq_true rfl⟩ hl.1 rfl (Nat.le_of_ble_eq_true rfl) dX12_perform_203 ⟨Nat.zero_le _, Nat.zero_le _⟩) hS (fun H locs hz_203 hP hS hm => ?_)
                              have hM_w := hM_w.trans hm
                              have hM_w_35 := hM_w_35.trans hm
                              have hM_w_71 := hM_w_71.trans hm
                              refine lv_if_ne (tgt := 211) hx hb dX12_perform_206 (by decide) (fun hc => ?_) (fun hc => ?_)
                              · have h := if_f _ hc h
                                refine y_iinc (lv' := fun (v_211 : Int32) => [(2, .int v_211), (7, .int x7_192l), (6, .int s0_187), (5, .int s0_143), (0, .ref (ad 63)), (1, .int a1)]) h F ic_1 dX12_perform_211 hl (kq := 3) rfl (Nat.le_of_ble_eq_true rfl) (fun _ => rfl) (fun v_211 ls hl h => ?_)
                                refine y_iinc (lv' := fun (v_214 : Int32) => [(7, .int v_214), (2, .int v_211), (6, .int s0_187), (5, .int s0_143), (0, .ref (ad 63)), (1, .int a1)]) h F ic_1 dX12_perform_214 hl (kq := 1) rfl (Nat.le_of_ble_eq_true rfl) (fun _ => rfl) (fun v_214 ls hl h => ?_)
                                refine lv_goto (tgt := 192) hx hb dX12_perform_217 (by decide) ?_
                                exact ih_192 w_203 v_214 v_211 hM_w_71 h _ _ _ hP hS (lv_sub hl [0, 2, 3, 1, 4, 5] rfl)
                              · have h := if_t _ hc h
                                refine lv_iload_n hx hb dX12_perform_209 rfl (lv_at hl 3 rfl) ?_
                                exact y_iretM h F hr hP hS hM_w hlk dX12_perform_210
                        exact L_192 FU w_71 (0 : Int32) x2_38l mono.refl h _ _ _ hP hS (lv_sub hl [0, 1, 2, 3, 4, 5] rfl)
                      · refine lv_icmp_ne (tgt := 155) hx hb dX12_perform_148 (by decide) (fun hc => ?_) (fun hc => ?_)
                        · have h := if_f _ hc h
                          refine lv_iload_n hx hb dX12_perform_155 rfl (lv_at hl 1 rfl) ?_
                          refine lv_bipush (v := 98) hx hb dX12_perform_156 ib_98 ?_
                          refine lv_icmp_ne (tgt := 165) hx hb dX12_perform_158 (by decide) (fun hc => ?_) (fun hc => ?_)
                          · have h := if_f _ hc h
                            refine lv_iload_n hx hb dX12_perform_165 rfl (lv_at hl 1 rfl) ?_
                            refine lv_bipush (v := 108) hx hb dX12_perform_166 ib_108 ?_
                            refine lv_icmp_ne (tgt := 180) hx hb dX12_perform_168 (by decide) (fun hc => ?_) (fun hc => ?_)
                            · have h := if_f _ hc h
                              refine lv_bipush (v := 6) hx hb dX12_perform_180 ib_6 ?_
                              refine lv_aload_n hx hb dX12_perform_182 rfl (lv_at hl 3 rfl) ?_
                              refine y_geti h F hP k_63 (n2 (hP.al 63 rfl)) fl_X12_455 rfl dX12_perform_183 (fun v_183 h => ?_)
                              refine lv_iadd hx hb dX12_perform_186 ?_
                              exact J_187 ((6 : Int32) + v_183) h _ _ _ hP hS (lv_sub hl [0, 2, 3, 4] rfl)
                            · have h := if_t _ hc h
                              refine lv_iconst (v := 2) hx hb dX12_perform_171 ic_2 ?_
                              refine lv_aload_n hx hb dX12_perform_172 rfl (lv_at hl 3 rfl) ?_
                              refine y_geti h F hP k_63 (n2 (hP.al 63 rfl)) fl_X12_455 rfl dX12_perform_173 (fun v_173 h => ?_)
                              refine lv_iadd hx hb dX12_perform_176 ?_
                              refine lv_goto (tgt := 187) hx hb dX12_perform_177 (by decide) ?_
                              exact J_187 ((2 : Int32) + v_173) h _ _ _ hP hS (lv_sub hl [0, 2, 3, 4] rfl)
                          · have h := if_t _ hc h
                            refine lv_iconst (v := 1) hx hb dX12_perform_161 ic_1 ?_
                            refine lv_goto (tgt := 187) hx hb dX12_perform_162 (by decide) ?_
                            exact J_187 (1 : Int32) h _ _ _ hP hS (lv_sub hl [0, 2, 3, 4] rfl)
                        · have h := if_t _ hc h
                          refine lv_iconst (v := 0) hx hb dX12_perform_151 ic_0 ?_
                          refine lv_goto (tgt := 187) hx hb dX12_perform_152 (by decide) ?_
                          exact J_187 (0 : Int32) h _ _ _ hP hS (lv_sub hl [0, 2, 3, 4] rfl)
                    · refine jn_use (fun (j_135 : Option (Int32 × Wd)) => j_135 = some (r, w9) → GG p l e { frames := 9, cells := 0, slots := 0, locals := 221 } s m args below meth c 0 0 (MQ below (mQ D cT lo NB w w9 ad (some (.int r))) args s 0 0 (fun q => lo ≤ q)) D cT lo NB 8 ad w_71 135 [(3, .int v_54), (2, .int x2_38l), (0, .ref (ad 63)), (1, .int a1)] []) h (fun h H locs ls hP hS hl => ?_) (fun j_135 J_135 h => ?_)
                      · refine lv_aload_n hx hb dX12_perform_135 rfl (lv_at hl 2 rfl) ?_
                        refine y_geti h F hP k_63 (n2 (hP.al 63 rfl)) fl_X12_455 rfl dX12_perform_136 (fun v_136 h => ?_)
                        refine lv_goto (tgt := 143) hx hb dX12_perform_139 (by decide) ?_
                        exact J_143 v_136 h _ _ _ hP hS (lv_sub hl [0, 1, 2, 3] rfl)
                      · refine lv_icmp_eq (tgt := 135) hx hb dX12_perform_126 (by decide) (fun hc => ?_) (fun hc => ?_)
                        · have h := if_t _ hc h
                          exact J_135  h _ _ _ hP hS (lv_sub hl [1, 2, 3, 4] rfl)
                        · have h := if_f _ hc h
                          refine lv_iload_n hx hb dX12_perform_129 rfl (lv_at hl 1 rfl) ?_
                          refine lv_bipush (v := 98) hx hb dX12_perform_130 ib_98 ?_
                          refine lv_icmp_ne (tgt := 142) hx hb dX12_perform_132 (by decide) (fun hc => ?_) (fun hc => ?_)
                          · have h := if_f _ hc h
                            refine lv_iconst (v := 1) hx hb dX12_perform_142 ic_1 ?_
                            exact J_143 (1 : Int32) h _ _ _ hP hS (lv_sub hl [1, 2, 3, 4] rfl)
                          · have h := if_t _ hc h
                            exact J_135  h _ _ _ hP hS (lv_sub hl [1, 2, 3, 4] rfl)
                  · have h := if_t _ hc h
                    refine lv_aload_n hx hb dX12_perform_97 rfl (lv_at hl 3 rfl) ?_
                    refine y_geti h F hP k_63 (n2 (hP.al 63 rfl)) fl_X12_455 rfl dX12_perform_98 (fun v_98 h => ?_)
                    refine lv_aload_n hx hb dX12_perform_101 rfl (lv_at hl 3 rfl) ?_
                    refine y_geti h F hP k_63 (n2 (hP.al 63 rfl)) fl_X12_242 rfl dX12_perform_102 (fun v_102 h => ?_)
                    refine lv_icmp_lt (tgt := 110) hx hb dX12_perform_105 (by decide) (fun hc => ?_) (fun hc => ?_)
                    · have h := if_t _ hc h
                      refine lv_aload_n hx hb dX12_perform_110 rfl (lv_at hl 3 rfl) ?_
                      refine x_getr F hP k_63 (hP.al 63 rfl) fl_X12_31 rfl r_63_10 dX12_perform_111 ?_
                      refine lv_aload_n hx hb dX12_perform_114 rfl (lv_at hl 3 rfl) ?_
                      refine y_geti h F hP k_63 (n2 (hP.al 63 rfl)) fl_X12_455 rfl dX12_perform_115 (fun v_115 h => ?_)
                      refine lv_iconst (v := 1) hx hb dX12_perform_118 ic_1 ?_
                      refine y_zast h F hP hS k_71 (n2 (hP.al 71 rfl)) dX12_perform_119 (fun w_119 H locs hm h hP hS => ?_)
                      have hM_w := hM_w.trans hm
                      have hM_w_35 := hM_w_35.trans hm
                      have hM_w_71 := hm
                      refine lv_goto (tgt := 220) hx hb dX12_perform_120 (by decide) ?_
                      exact J_220 w_119 x2_38l hM_w_71 h _ _ _ hP hS (lv_sub hl [2, 3, 4] rfl)
                    · have h := if_f _ hc h
                      refine lv_iload_n hx hb dX12_perform_108 rfl (lv_at hl 2 rfl) ?_
                      exact y_iretM h F hr hP hS hM_w hlk dX12_perform_109
                · have h := if_t _ hc h
                  refine lv_aload_n hx hb dX12_perform_80 rfl (lv_at hl 3 rfl) ?_
                  refine lv_aload_n hx hb dX12_perform_81 rfl (lv_at hl 3 rfl) ?_
                  refine y_geti h F hP k_63 (n2 (hP.al 63 rfl)) fl_X12_455 rfl dX12_perform_82 (fun v_82 h => ?_)
                  refine y_puti h F hP hS k_63 (n2 (hP.al 63 rfl)) fl_X12_86 rfl dX12_perform_85 (fun w_85 H locs hm h hP hS => ?_)
                  have hM_w := hM_w.trans hm
                  have hM_w_35 := hM_w_35.trans hm
                  have hM_w_71 := hm
                  refine lv_goto (tgt := 220) hx hb dX12_perform_88 (by decide) ?_
                  exact J_220 w_85 x2_38l hM_w_71 h _ _ _ hP hS (lv_sub hl [2, 3, 4] rfl)
        exact L_38 FU w_35 (0 : Int32) mono.refl h _ _ _ hP hS (lv_sub hl [0, 1, 2] rfl)
      · have h := if_t _ hc h
        refine lv_bipush (v := -3) hx hb dX12_perform_28 ib_m3 ?_
        exact y_iretM h F hr hP hS hM_w hlk dX12_perform_30
  · have h := if_t _ hc h
    refine lv_bipush (v := -2) hx hb dX12_perform_8 ib_m2 ?_
    exact y_iretM h F hr hP hS mono.refl hlk dX12_perform_10
def f_X12_finds (w : Wd) (a1 : Int32) : Option (Int32 × Wd) :=
q_pt w 63 83 a1 (fun w_2 =>
some ((-10 : Int32) - a1, w_2))
set_option maxRecDepth 100000 in
set_option maxHeartbeats 4000000 in
theorem c_X12_finds (l : Launch) (D : va_G) (cT : Nat → ClassId) (lo : Nat) (w : Wd) (ad : Nat → Nat) (a1 : Int32) (r : Int32) (w9 : Wd) (h : f_X12_finds w a1 = some (r, w9)) : Met l yX12_finds (.code yX12_finds cX12_finds 2 (some .int) :: TW) { frames := 0, cells := 0, slots := 0, locals := 0 } (mPc D cT lo NB w ad [.ref (ad 63), .int a1]) (mQ D cT lo NB w w9 ad (some (.int r))) 0 0 (fun q => lo ≤ q) := by
  unfold f_X12_finds at h
  refine x_met (lv := [(0, .ref (ad 63)), (1, .int a1)]) (by decide +kernel) (Nat.le_of_ble_eq_true rfl) rfl ?_
  intro p e s m args below meth c ls F hr hlk hP hin hl
  have hx := F.1
  have hb := F.2.1
  have hS : va_S (fun q => lo ≤ q) s.heap s.heap [] := va_S.rf
  have hM_w : mono w w := mono.refl
  refine lv_aload_n hx hb dX12_finds_0 rfl (lv_at hl 0 rfl) ?_
  refine lv_iload_n hx hb dX12_finds_1 rfl (lv_at hl 1 rfl) ?_
  refine y_puti h F hP hS k_63 (n2 (hP.al 63 rfl)) fl_X12_467 rfl dX12_finds_2 (fun w_2 H locs hm h hP hS => ?_)
  have hM_w := hm
  refine lv_bipush (v := -10) hx hb dX12_finds_5 ib_m10 ?_
  refine lv_iload_n hx hb dX12_finds_7 rfl (lv_at hl 1 rfl) ?_
  refine lv_isub hx hb dX12_finds_8 ?_
  exact y_iretM h F hr hP hS hM_w hlk dX12_finds_9
def f_X12_isSheet (a1 : Int32) : Int32 :=
f_X12_in a1 (0 : Int32) (3 : Int32)
set_option maxRecDepth 100000 in
set_option maxHeartbeats 4000000 in
theorem c_X12_isSheet (l : Launch) (D : va_G) (cT : Nat → ClassId) (lo nb : Nat) (w : Wd) (ad : Nat → Nat) (a1 : Int32) : Met l yX12_isSheet (.code yX12_isSheet cX12_isSheet 1 (some .boolean) :: TW) { frames := 1, cells := 0, slots := 0, locals := 22 } (mPc D cT lo nb w ad [.int a1]) (mQz D cT lo nb w w ad (f_X12_isSheet a1)) 0 0 (fun q => lo ≤ q) := by
  obtain ⟨r, h⟩ : ∃ r, f_X12_isSheet a1 = r := ⟨_, rfl⟩
  rw [h]
  unfold f_X12_isSheet at h
  refine x_met (lv := [(0, .int a1)]) (by decide +kernel) (Nat.le_of_ble_eq_true rfl) rfl ?_
  intro p e s m args below meth c ls F hr hlk hP hin hl
  have hx := F.1
  have hb := F.2.1
  have hS : va_S (fun q => lo ≤ q) s.heap s.heap [] := va_S.rf
  refine lv_iload_n hx hb dX12_isSheet_0 rfl (lv_at hl 0 rfl) ?_
  refine lv_iconst (v := 0) hx hb dX12_isSheet_1 ic_0 ?_
  refine lv_iconst (v := 3) hx hb dX12_isSheet_2 ic_3 ?_
  refine x_goesZ (x_runS (As := [.int a1, .int (0 : Int32), .int (3 : Int32)]) (rest := []) F hP hS (c_X12_in l D cT lo nb w ad a1 (0 : Int32) (3 : Int32)) cw_X12_in lk_X12_217 st_X12_in ⟨rfl, rfl, Nat.le_of_ble_eq_true rfl, Nat.le_of_ble_eq_true rfl⟩ hl.1 rfl (Nat.le_of_ble_eq_true rfl) dX12_isSheet_3 ⟨Nat.zero_le _, Nat.zero_le _⟩) hS (fun H locs hz_3 hP hS _ => ?_)
  exact y_zretP h F hr hP hS hlk hz_3 dX12_isSheet_6
def l_X12_sheet_59 (a1 : Int32) (a3 : Int32) : Nat → Wd → Int32 → Option (Int32 × Wd)
  | 0, _, _ => none
  | n_59 + 1, w_59l, x4_59l =>
    if (60 : Int32) ≤ x4_59l then
    some (a3, w_59l)
    else
    q_st w_59l 122 240 (((60 : Int32) * a1) + x4_59l) (0 : Int32) (fun w_78 =>
    q_lt (x4_59l + (1 : Int32)) (fun v_79 =>
    l_X12_sheet_59 a1 a3 n_59 w_78 v_79))
def f_X12_sheet (w : Wd) (a1 : Int32) (a2 : Int32) (a3 : Int32) : Option (Int32 × Wd) :=
if (f_X12_isSheet a1) = 0 then
some ((-2 : Int32), w)
else
if (f_X12_in a2 (0 : Int32) (2 : Int32)) = 0 then
some ((-2 : Int32), w)
else
if a3 ≤ (60 : Int32) then
if 0 ≤ a3 then
q_sz w 119 4 a1 (1 : Int32) (fun w_41 =>
q_st w_41 120 4 a1 a2 (fun w_48 =>
q_st w_48 121 4 a1 a3 (fun w_55 =>
l_X12_sheet_59 a1 a3 FU w_55 (0 : Int32))))
else
q_bi (f_X12_finds w (5 : Int32)) (fun v_31 w_31 =>
some (v_31, w_31))
else
some ((-2 : Int32), w)
set_option maxRecDepth 100000 in
set_option maxHeartbeats 4000000 in
theorem c_X12_sheet (l : Launch) (D : va_G) (cT : Nat → ClassId) (lo : Nat) (w : Wd) (ad : Nat → Nat) (a1 : Int32) (a2 : Int32) (a3 : Int32) (r : Int32) (w9 : Wd) (h : f_X12_sheet w a1 a2 a3 = some (r, w9)) : Met l yX12_sheet (.code yX12_sheet cX12_sheet 5 (some .int) :: TW) { frames := 2, cells := 0, slots := 0, locals := 42 } (mPc D cT lo NB w ad [.ref (ad 63), .int a1, .int a2, .int a3]) (mQ D cT lo NB w w9 ad (some (.int r))) 0 0 (fun q => lo ≤ q) := by
  unfold f_X12_sheet at h
  refine x_met (lv := [(0, .ref (ad 63)), (1, .int a1), (2, .int a2), (3, .int a3)]) (by decide +kernel) (Nat.le_of_ble_eq_true rfl) rfl ?_
  intro p e s m args below meth c ls F hr hlk hP hin hl
  have hx := F.1
  have hb := F.2.1
  have hS : va_S (fun q => lo ≤ q) s.heap s.heap [] := va_S.rf
  have hM_w : mono w w := mono.refl
  refine lv_iload_n hx hb dX12_sheet_0 rfl (lv_at hl 1 rfl) ?_
  refine x_goesZ (x_runS (As := [.int a1]) (rest := []) F hP hS (c_X12_isSheet l D cT lo NB w ad a1) cw_X12_isSheet lk_X12_470 st_X12_isSheet ⟨rfl, rfl, Nat.le_of_ble_eq_true rfl, Nat.le_of_ble_eq_true rfl⟩ hl.1 rfl (Nat.le_of_ble_eq_true rfl) dX12_sheet_1 ⟨Nat.zero_le _, Nat.zero_le _⟩) hS (fun H locs hz_1 hP hS _ => ?_)
  refine lv_if_eq (tgt := 22) hx hb dX12_sheet_4 (by decide) (fun hc => ?_) (fun hc => ?_)
  · have h := if_t _ hc h
    refine lv_bipush (v := -2) hx hb dX12_sheet_22 ib_m2 ?_
    exact y_iretM h F hr hP hS mono.refl hlk dX12_sheet_24
  · have h := if_f _ hc h
    refine lv_iload_n hx hb dX12_sheet_7 rfl (lv_at hl 2 rfl) ?_
    refine lv_iconst (v := 0) hx hb dX12_sheet_8 ic_0 ?_
    refine lv_iconst (v := 2) hx hb dX12_sheet_9 ic_2 ?_
    refine x_goesZ (x_runS (As := [.int a2, .int (0 : Int32), .int (2 : Int32)]) (rest := []) F hP hS (c_X12_in l D cT lo NB w ad a2 (0 : Int32) (2 : Int32)) cw_X12_in lk_X12_217 st_X12_in ⟨rfl, rfl, Nat.le_of_ble_eq_true rfl, Nat.le_of_ble_eq_true rfl⟩ hl.1 rfl (Nat.le_of_ble_eq_true rfl) dX12_sheet_10 ⟨Nat.zero_le _, Nat.zero_le _⟩) hS (fun H locs hz_10 hP hS _ => ?_)
    refine lv_if_eq (tgt := 22) hx hb dX12_sheet_13 (by decide) (fun hc => ?_) (fun hc => ?_)
    · have h := if_t _ hc h
      refine lv_bipush (v := -2) hx hb dX12_sheet_22 ib_m2 ?_
      exact y_iretM h F hr hP hS mono.refl hlk dX12_sheet_24
    · have h := if_f _ hc h
      refine lv_iload_n hx hb dX12_sheet_16 rfl (lv_at hl 3 rfl) ?_
      refine lv_bipush (v := 60) hx hb dX12_sheet_17 ib_60 ?_
      refine lv_icmp_le (tgt := 25) hx hb dX12_sheet_19 (by decide) (fun hc => ?_) (fun hc => ?_)
      · have h := if_t _ hc h
        refine lv_iload_n hx hb dX12_sheet_25 rfl (lv_at hl 3 rfl) ?_
        refine lv_if_ge (tgt := 35) hx hb dX12_sheet_26 (by decide) (fun hc => ?_) (fun hc => ?_)
        · have h := if_t _ hc h
          refine lv_aload_n hx hb dX12_sheet_35 rfl (lv_at hl 0 rfl) ?_
          refine x_getr F hP k_63 (hP.al 63 rfl) fl_X12_195 rfl r_63_78 dX12_sheet_36 ?_
          refine lv_iload_n hx hb dX12_sheet_39 rfl (lv_at hl 1 rfl) ?_
          refine lv_iconst (v := 1) hx hb dX12_sheet_40 ic_1 ?_
          refine y_zast h F hP hS k_119 (n2 (hP.al 119 rfl)) dX12_sheet_41 (fun w_41 H locs hm h hP hS => ?_)
          have hM_w := hm
          refine lv_aload_n hx hb dX12_sheet_42 rfl (lv_at hl 0 rfl) ?_
          refine x_getr F hP k_63 (hP.al 63 rfl) fl_X12_198 rfl r_63_79 dX12_sheet_43 ?_
          refine lv_iload_n hx hb dX12_sheet_46 rfl (lv_at hl 1 rfl) ?_
          refine lv_iload_n hx hb dX12_sheet_47 rfl (lv_at hl 2 rfl) ?_
          refine y_iast h F hP hS k_120 (n2 (hP.al 120 rfl)) dX12_sheet_48 (fun w_48 H locs hm h hP hS => ?_)
          have hM_w := hM_w.trans hm
          refine lv_aload_n hx hb dX12_sheet_49 rfl (lv_at hl 0 rfl) ?_
          refine x_getr F hP k_63 (hP.al 63 rfl) fl_X12_201 rfl r_63_80 dX12_sheet_50 ?_
          refine lv_iload_n hx hb dX12_sheet_53 rfl (lv_at hl 1 rfl) ?_
          refine lv_iload_n hx hb dX12_sheet_54 rfl (lv_at hl 3 rfl) ?_
          refine y_iast h F hP hS k_121 (n2 (hP.al 121 rfl)) dX12_sheet_55 (fun w_55 H locs hm h hP hS => ?_)
          have hM_w := hM_w.trans hm
          refine lv_iconst (v := 0) hx hb dX12_sheet_56 ic_0 ?_
          refine lv_istore (lv' := [(4, .int (0 : Int32)), (0, .ref (ad 63)), (1, .int a1), (2, .int a2), (3, .int a3)]) hx hb dX12_sheet_57 hl (Nat.le_of_ble_eq_true rfl) rfl (fun ls hl => ?_)
          have L_59 : ∀ (n_59 : Nat) (w_59l : Wd) (x4_59l : Int32), mono w_55 w_59l → l_X12_sheet_59 a1 a3 n_59 w_59l x4_59l = some (r, w9) → GG p l e { frames := 2, cells := 0, slots := 0, locals := 42 } s m args below meth c 0 0 (MQ below (mQ D cT lo NB w w9 ad (some (.int r))) args s 0 0 (fun q => lo ≤ q)) D cT lo NB 5 ad w_59l 59 [(4, .int x4_59l), (0, .ref (ad 63)), (1, .int a1), (3, .int a3)] [] := by
            intro n_59
            induction n_59 with
            | zero =>
              intro w_59l x4_59l _ h
              exact absurd h (by unfold l_X12_sheet_59; exact fun z => by cases z)
            | succ n_59 ih_59 =>
              intro w_59l x4_59l hm h H locs ls hP hS hl
              unfold l_X12_sheet_59 at h
              have hM_w := hM_w.trans hm
              have hM_w_55 := hm
              refine lv_iload hx hb dX12_sheet_59 (lv_at hl 0 rfl) ?_
              refine lv_bipush (v := 60) hx hb dX12_sheet_61 ib_60 ?_
              refine lv_icmp_ge (tgt := 85) hx hb dX12_sheet_63 (by decide) (fun hc => ?_) (fun hc => ?_)
              · have h := if_t _ hc h
                refine lv_iload_n hx hb dX12_sheet_85 rfl (lv_at hl 3 rfl) ?_
                exact y_iretM h F hr hP hS hM_w hlk dX12_sheet_86
              · have h := if_f _ hc h
                refine lv_aload_n hx hb dX12_sheet_66 rfl (lv_at hl 1 rfl) ?_
                refine x_getr F hP k_63 (hP.al 63 rfl) fl_X12_204 rfl r_63_81 dX12_sheet_67 ?_
                refine lv_bipush (v := 60) hx hb dX12_sheet_70 ib_60 ?_
                refine lv_iload_n hx hb dX12_sheet_72 rfl (lv_at hl 2 rfl) ?_
                refine lv_imul hx hb dX12_sheet_73 ?_
                refine lv_iload hx hb dX12_sheet_74 (lv_at hl 0 rfl) ?_
                refine lv_iadd hx hb dX12_sheet_76 ?_
                refine lv_iconst (v := 0) hx hb dX12_sheet_77 ic_0 ?_
                refine y_iast h F hP hS k_122 (n2 (hP.al 122 rfl)) dX12_sheet_78 (fun w_78 H locs hm h hP hS => ?_)
                have hM_w := hM_w.trans hm
                have hM_w_55 := hM_w_55.trans hm
                refine y_iinc (lv' := fun (v_79 : Int32) => [(4, .int v_79), (0, .ref (ad 63)), (1, .int a1), (3, .int a3)]) h F ic_1 dX12_sheet_79 hl (kq := 0) rfl (Nat.le_of_ble_eq_true rfl) (fun _ => rfl) (fun v_79 ls hl h => ?_)
                refine lv_goto (tgt := 59) hx hb dX12_sheet_82 (by decide) ?_
                exact ih_59 w_78 v_79 hM_w_55 h _ _ _ hP hS (lv_sub hl [0, 1, 2, 3] rfl)
          exact L_59 FU w_55 (0 : Int32) mono.refl h _ _ _ hP hS (lv_sub hl [0, 1, 2, 4] rfl)
        · have h := if_f _ hc h
          refine lv_aload_n hx hb dX12_sheet_29 rfl (lv_at hl 0 rfl) ?_
          refine lv_iconst (v := 5) hx hb dX12_sheet_30 ic_5 ?_
          obtain ⟨v_31, w_31, hc_31, h⟩ := bi_s h
          refine x_goes (x_runV (As := [.int (5 : Int32)]) (rest := []) F hP hS (c_X12_finds l D cT lo w ad (5 : Int32) v_31 w_31 hc_31) cw_X12_finds lk_X12_473 vi_X12_finds k_63 (n2 (hP.al 63 rfl)) rfl ⟨rfl, rfl, Nat.le_of_ble_eq_true rfl, Nat.le_of_ble_eq_true rfl⟩ hl.1 rfl (Nat.le_of_ble_eq_true rfl) dX12_sheet_31 ⟨Nat.zero_le _, Nat.zero_le _⟩) hS (fun H locs hP hS hm => ?_)
          have hM_w := hm
          exact y_iretM h F hr hP hS hM_w hlk dX12_sheet_34
      · have h := if_f _ hc h
        refine lv_bipush (v := -2) hx hb dX12_sheet_22 ib_m2 ?_
        exact y_iretM h F hr hP hS mono.refl hlk dX12_sheet_24
def f_X12_lose (w : Wd) (a1 : Int32) : Option (Int32 × Wd) :=
if (f_X12_isSheet a1) = 0 then
some ((-2 : Int32), w)
else
q_ld w 119 4 a1 (fun v_15 =>
if v_15 = 0 then
q_bi (f_X12_finds w (1 : Int32)) (fun v_21 w_21 =>
some (v_21, w_21))
else
q_sz w 119 4 a1 (0 : Int32) (fun w_31 =>
q_ld w_31 121 4 a1 (fun v_37 =>
some (v_37, w_31))))
set_option maxRecDepth 100000 in
set_option maxHeartbeats 4000000 in
theorem c_X12_lose (l : Launch) (D : va_G) (cT : Nat → ClassId) (lo : Nat) (w : Wd) (ad : Nat → Nat) (a1 : Int32) (r : Int32) (w9 : Wd) (h : f_X12_lose w a1 = some (r, w9)) : Met l yX12_lose (.code yX12_lose cX12_lose 2 (some .int) :: TW) { frames := 2, cells := 0, slots := 0, locals := 42 } (mPc D cT lo NB w ad [.ref (ad 63), .int a1]) (mQ D cT lo NB w w9 ad (some (.int r))) 0 0 (fun q => lo ≤ q) := by
  unfold f_X12_lose at h
  refine x_met (lv := [(0, .ref (ad 63)), (1, .int a1)]) (by decide +kernel) (Nat.le_of_ble_eq_true rfl) rfl ?_
  intro p e s m args below meth c ls F hr hlk hP hin hl
  have hx := F.1
  have hb := F.2.1
  have hS : va_S (fun q => lo ≤ q) s.heap s.heap [] := va_S.rf
  have hM_w : mono w w := mono.refl
  refine lv_iload_n hx hb dX12_lose_0 rfl (lv_at hl 1 rfl) ?_
  refine x_goesZ (x_runS (As := [.int a1]) (rest := []) F hP hS (c_X12_isSheet l D cT lo NB w ad a1) cw_X12_isSheet lk_X12_470 st_X12_isSheet ⟨rfl, rfl, Nat.le_of_ble_eq_true rfl, Nat.le_of_ble_eq_true rfl⟩ hl.1 rfl (Nat.le_of_ble_eq_true rfl) dX12_lose_1 ⟨Nat.zero_le _, Nat.zero_le _⟩) hS (fun H locs hz_1 hP hS _ => ?_)
  refine lv_if_ne (tgt := 10) hx hb dX12_lose_4 (by decide) (fun hc => ?_) (fun hc => ?_)
  · have h := if_f _ hc h
    refine lv_aload_n hx hb dX12_lose_10 rfl (lv_at hl 0 rfl) ?_
    refine x_getr F hP k_63 (hP.al 63 rfl) fl_X12_195 rfl r_63_78 dX12_lose_11 ?_
    refine lv_iload_n hx hb dX12_lose_14 rfl (lv_at hl 1 rfl) ?_
    refine y_zald h F hP k_119 (n2 (hP.al 119 rfl)) dX12_lose_15 (fun v_15 h => ?_)
    refine lv_if_ne (tgt := 25) hx hb dX12_lose_16 (by decide) (fun hc => ?_) (fun hc => ?_)
    · have h := if_f _ hc h
      refine lv_aload_n hx hb dX12_lose_25 rfl (lv_at hl 0 rfl) ?_
      refine x_getr F hP k_63 (hP.al 63 rfl) fl_X12_195 rfl r_63_78 dX12_lose_26 ?_
      refine lv_iload_n hx hb dX12_lose_29 rfl (lv_at hl 1 rfl) ?_
      refine lv_iconst (v := 0) hx hb dX12_lose_30 ic_0 ?_
      refine y_zast h F hP hS k_119 (n2 (hP.al 119 rfl)) dX12_lose_31 (fun w_31 H locs hm h hP hS => ?_)
      have hM_w := hm
      refine lv_aload_n hx hb dX12_lose_32 rfl (lv_at hl 0 rfl) ?_
      refine x_getr F hP k_63 (hP.al 63 rfl) fl_X12_201 rfl r_63_80 dX12_lose_33 ?_
      refine lv_iload_n hx hb dX12_lose_36 rfl (lv_at hl 1 rfl) ?_
      refine y_iald h F hP k_121 (n2 (hP.al 121 rfl)) dX12_lose_37 (fun v_37 h => ?_)
      exact y_iretM h F hr hP hS hM_w hlk dX12_lose_38
    · have h := if_t _ hc h
      refine lv_aload_n hx hb dX12_lose_19 rfl (lv_at hl 0 rfl) ?_
      refine lv_iconst (v := 1) hx hb dX12_lose_20 ic_1 ?_
      obtain ⟨v_21, w_21, hc_21, h⟩ := bi_s h
      refine x_goes (x_runV (As := [.int (1 : Int32)]) (rest := []) F hP hS (c_X12_finds l D cT lo w ad (1 : Int32) v_21 w_21 hc_21) cw_X12_finds lk_X12_473 vi_X12_finds k_63 (n2 (hP.al 63 rfl)) rfl ⟨rfl, rfl, Nat.le_of_ble_eq_true rfl, Nat.le_of_ble_eq_true rfl⟩ hl.1 rfl (Nat.le_of_ble_eq_true rfl) dX12_lose_21 ⟨Nat.zero_le _, Nat.zero_le _⟩) hS (fun H locs hP hS hm => ?_)
      have hM_w := hm
      exact y_iretM h F hr hP hS hM_w hlk dX12_lose_24
  · have h := if_t _ hc h
    refine lv_bipush (v := -2) hx hb dX12_lose_7 ib_m2 ?_
    exact y_iretM h F hr hP hS mono.refl hlk dX12_lose_9
def f_X12_lacks (w : Wd) (a1 : Int32) (a2 : Int32) (a3 : Int32) : Option Int32 :=
q_ld w 119 4 a1 (fun v_5 =>
if v_5 = 0 then
some (1 : Int32)
else
q_ld w 120 4 a1 (fun v_18 =>
if v_18 = a2 then
q_ld w 121 4 a1 (fun v_34 =>
if (f_X12_in a3 (0 : Int32) (v_34 - (1 : Int32))) = 0 then
some (2 : Int32)
else
some (0 : Int32))
else
some (3 : Int32)))
set_option maxRecDepth 100000 in
set_option maxHeartbeats 4000000 in
theorem c_X12_lacks (l : Launch) (D : va_G) (cT : Nat → ClassId) (lo : Nat) (w : Wd) (ad : Nat → Nat) (a1 : Int32) (a2 : Int32) (a3 : Int32) (r : Int32) (h : f_X12_lacks w a1 a2 a3 = some r) : Met l yX12_lacks (.code yX12_lacks cX12_lacks 4 (some .int) :: TW) { frames := 1, cells := 0, slots := 0, locals := 22 } (mPc D cT lo NB w ad [.ref (ad 63), .int a1, .int a2, .int a3]) (mQ D cT lo NB w w ad (some (.int r))) 0 0 (fun q => lo ≤ q) := by
  unfold f_X12_lacks at h
  refine x_met (lv := [(0, .ref (ad 63)), (1, .int a1), (2, .int a2), (3, .int a3)]) (by decide +kernel) (Nat.le_of_ble_eq_true rfl) rfl ?_
  intro p e s m args below meth c ls F hr hlk hP hin hl
  have hx := F.1
  have hb := F.2.1
  have hS : va_S (fun q => lo ≤ q) s.heap s.heap [] := va_S.rf
  refine lv_aload_n hx hb dX12_lacks_0 rfl (lv_at hl 0 rfl) ?_
  refine x_getr F hP k_63 (hP.al 63 rfl) fl_X12_195 rfl r_63_78 dX12_lacks_1 ?_
  refine lv_iload_n hx hb dX12_lacks_4 rfl (lv_at hl 1 rfl) ?_
  refine y_zald h F hP k_119 (n2 (hP.al 119 rfl)) dX12_lacks_5 (fun v_5 h => ?_)
  refine lv_if_ne (tgt := 13) hx hb dX12_lacks_6 (by decide) (fun hc => ?_) (fun hc => ?_)
  · have h := if_f _ hc h
    refine lv_aload_n hx hb dX12_lacks_13 rfl (lv_at hl 0 rfl) ?_
    refine x_getr F hP k_63 (hP.al 63 rfl) fl_X12_198 rfl r_63_79 dX12_lacks_14 ?_
    refine lv_iload_n hx hb dX12_lacks_17 rfl (lv_at hl 1 rfl) ?_
    refine y_iald h F hP k_120 (n2 (hP.al 120 rfl)) dX12_lacks_18 (fun v_18 h => ?_)
    refine lv_iload_n hx hb dX12_lacks_19 rfl (lv_at hl 2 rfl) ?_
    refine lv_icmp_eq (tgt := 27) hx hb dX12_lacks_20 (by decide) (fun hc => ?_) (fun hc => ?_)
    · have h := if_t _ hc h
      refine lv_iload_n hx hb dX12_lacks_27 rfl (lv_at hl 3 rfl) ?_
      refine lv_iconst (v := 0) hx hb dX12_lacks_28 ic_0 ?_
      refine lv_aload_n hx hb dX12_lacks_29 rfl (lv_at hl 0 rfl) ?_
      refine x_getr F hP k_63 (hP.al 63 rfl) fl_X12_201 rfl r_63_80 dX12_lacks_30 ?_
      refine lv_iload_n hx hb dX12_lacks_33 rfl (lv_at hl 1 rfl) ?_
      refine y_iald h F hP k_121 (n2 (hP.al 121 rfl)) dX12_lacks_34 (fun v_34 h => ?_)
      refine lv_iconst (v := 1) hx hb dX12_lacks_35 ic_1 ?_
      refine lv_isub hx hb dX12_lacks_36 ?_
      refine x_goesZ (x_runS (As := [.int a3, .int (0 : Int32), .int (v_34 - (1 : Int32))]) (rest := []) F hP hS (c_X12_in l D cT lo NB w ad a3 (0 : Int32) (v_34 - (1 : Int32))) cw_X12_in lk_X12_217 st_X12_in ⟨rfl, rfl, Nat.le_of_ble_eq_true rfl, Nat.le_of_ble_eq_true rfl⟩ hl.1 rfl (Nat.le_of_ble_eq_true rfl) dX12_lacks_37 ⟨Nat.zero_le _, Nat.zero_le _⟩) hS (fun H locs hz_37 hP hS _ => ?_)
      refine lv_if_eq (tgt := 47) hx hb dX12_lacks_40 (by decide) (fun hc => ?_) (fun hc => ?_)
      · have h := if_t _ hc h
        refine lv_iconst (v := 2) hx hb dX12_lacks_47 ic_2 ?_
        exact y_iretO h F hr hP hS hlk dX12_lacks_48
      · have h := if_f _ hc h
        refine lv_iconst (v := 0) hx hb dX12_lacks_43 ic_0 ?_
        refine lv_goto (tgt := 48) hx hb dX12_lacks_44 (by decide) ?_
        exact y_iretO h F hr hP hS hlk dX12_lacks_48
    · have h := if_f _ hc h
      refine lv_iconst (v := 3) hx hb dX12_lacks_23 ic_3 ?_
      refine lv_goto (tgt := 48) hx hb dX12_lacks_24 (by decide) ?_
      exact y_iretO h F hr hP hS hlk dX12_lacks_48
  · have h := if_t _ hc h
    refine lv_iconst (v := 1) hx hb dX12_lacks_9 ic_1 ?_
    refine lv_goto (tgt := 48) hx hb dX12_lacks_10 (by decide) ?_
    exact y_iretO h F hr hP hS hlk dX12_lacks_48
def f_X12_put (w : Wd) (a1 : Int32) (a2 : Int32) (a3 : Int32) (a4 : Int32) : Option (Int32 × Wd) :=
if (f_X12_isSheet a1) = 0 then
some ((-2 : Int32), w)
else
if (f_X12_in a2 (0 : Int32) (2 : Int32)) = 0 then
some ((-2 : Int32), w)
else
q_bo (f_X12_lacks w a1 a2 a3) (fun v_23 =>
if v_23 ≤ 0 then
q_jn (fun (s0_73 : Int32) =>
q_st w 122 240 (((60 : Int32) * a1) + a3) s0_73 (fun w_73 =>
some ((1 : Int32), w_73))) (fun j_73 =>
if a2 = 0 then
j_73 a4.toInt8.toInt32
else
if a2 = (1 : Int32) then
j_73 a4.toInt16.toInt32
else
j_73 a4)
else
q_bi (f_X12_finds w v_23) (fun v_36 w_36 =>
some (v_36, w_36)))
set_option maxRecDepth 100000 in
set_option maxHeartbeats 4000000 in
theorem c_X12_put (l : Launch) (D : va_G) (cT : Nat → ClassId) (lo : Nat) (w : Wd) (ad : Nat → Nat) (a1 : Int32) (a2 : Int32) (a3 : Int32) (a4 : Int32) (r : Int32) (w9 : Wd) (h : f_X12_put w a1 a2 a3 a4 = some (r, w9)) : Met l yX12_put (.code yX12_put cX12_put 6 (some .int) :: TW) { frames := 2, cells := 0, slots := 0, locals := 45 } (mPc D cT lo NB w ad [.ref (ad 63), .int a1, .int a2, .int a3, .int a4]) (mQ D cT lo NB w w9 ad (some (.int r))) 0 0 (fun q => lo ≤ q) := by
  unfold f_X12_put at h
  refine x_met (lv := [(0, .ref (ad 63)), (1, .int a1), (2, .int a2), (3, .int a3), (4, .int a4)]) (by decide +kernel) (Nat.le_of_ble_eq_true rfl) rfl ?_
  intro p e s m args below meth c ls F hr hlk hP hin hl
  have hx := F.1
  have hb := F.2.1
  have hS : va_S (fun q => lo ≤ q) s.heap s.heap [] := va_S.rf
  have hM_w : mono w w := mono.refl
  refine lv_iload_n hx hb dX12_put_0 rfl (lv_at hl 1 rfl) ?_
  refine x_goesZ (x_runS (As := [.int a1]) (rest := []) F hP hS (c_X12_isSheet l D cT lo NB w ad a1) cw_X12_isSheet lk_X12_470 st_X12_isSheet ⟨rfl, rfl, Nat.le_of_ble_eq_true rfl, Nat.le_of_ble_eq_true rfl⟩ hl.1 rfl (Nat.le_of_ble_eq_true rfl) dX12_put_1 ⟨Nat.zero_le _, Nat.zero_le _⟩) hS (fun H locs hz_1 hP hS _ => ?_)
  refine lv_if_eq (tgt := 16) hx hb dX12_put_4 (by decide) (fun hc => ?_) (fun hc => ?_)
  · have h := if_t _ hc h
    refine lv_bipush (v := -2) hx hb dX12_put_16 ib_m2 ?_
    exact y_iretM h F hr hP hS mono.refl hlk dX12_put_18
  · have h := if_f _ hc h
    refine lv_iload_n hx hb dX12_put_7 rfl (lv_at hl 2 rfl) ?_
    refine lv_iconst (v := 0) hx hb dX12_put_8 ic_0 ?_
    refine lv_iconst (v := 2) hx hb dX12_put_9 ic_2 ?_
    refine x_goesZ (x_runS (As := [.int a2, .int (0 : Int32), .int (2 : Int32)]) (rest := []) F hP hS (c_X12_in l D cT lo NB w ad a2 (0 : Int32) (2 : Int32)) cw_X12_in lk_X12_217 st_X12_in ⟨rfl, rfl, Nat.le_of_ble_eq_true rfl, Nat.le_of_ble_eq_true rfl⟩ hl.1 rfl (Nat.le_of_ble_eq_true rfl) dX12_put_10 ⟨Nat.zero_le _, Nat.zero_le _⟩) hS (fun H locs hz_10 hP hS _ => ?_)
    refine lv_if_ne (tgt := 19) hx hb dX12_put_13 (by decide) (fun hc => ?_) (fun hc => ?_)
    · have h := if_f _ hc h
      refine lv_aload_n hx hb dX12_put_19 rfl (lv_at hl 0 rfl) ?_
      refine lv_iload_n hx hb dX12_put_20 rfl (lv_at hl 1 rfl) ?_
      refine lv_iload_n hx hb dX12_put_21 rfl (lv_at hl 2 rfl) ?_
      refine lv_iload_n hx hb dX12_put_22 rfl (lv_at hl 3 rfl) ?_
      obtain ⟨v_23, hc_23, h⟩ := bo_s h
      refine x_goes (x_runV (As := [.int a1, .int a2, .int a3]) (rest := []) F hP hS (c_X12_lacks l D cT lo w ad a1 a2 a3 v_23 hc_23) cw_X12_lacks lk_X12_476 vi_X12_lacks k_63 (n2 (hP.al 63 rfl)) rfl ⟨rfl, rfl, Nat.le_of_ble_eq_true rfl, Nat.le_of_ble_eq_true rfl⟩ hl.1 rfl (Nat.le_of_ble_eq_true rfl) dX12_put_23 ⟨Nat.zero_le _, Nat.zero_le _⟩) hS (fun H locs hP hS _ => ?_)
      refine lv_istore (lv' := [(5, .int v_23), (0, .ref (ad 63)), (1, .int a1), (2, .int a2), (3, .int a3), (4, .int a4)]) hx hb dX12_put_26 hl (Nat.le_of_ble_eq_true rfl) rfl (fun ls hl => ?_)
      refine lv_iload hx hb dX12_put_28 (lv_at hl 0 rfl) ?_
      refine lv_if_le (tgt := 40) hx hb dX12_put_30 (by decide) (fun hc => ?_) (fun hc => ?_)
      · have h := if_t _ hc h
        refine lv_aload_n hx hb dX12_put_40 rfl (lv_at hl 1 rfl) ?_
        refine x_getr F hP k_63 (hP.al 63 rfl) fl_X12_204 rfl r_63_81 dX12_put_41 ?_
        refine lv_bipush (v := 60) hx hb dX12_put_44 ib_60 ?_
        refine lv_iload_n hx hb dX12_put_46 rfl (lv_at hl 2 rfl) ?_
        refine lv_imul hx hb dX12_put_47 ?_
        refine lv_iload_n hx hb dX12_put_48 rfl (lv_at hl 4 rfl) ?_
        refine lv_iadd hx hb dX12_put_49 ?_
        refine lv_iload_n hx hb dX12_put_50 rfl (lv_at hl 3 rfl) ?_
        refine jn_use (fun (j_73 : Int32 → Option (Int32 × Wd)) => ∀ (s0_73 : Int32), j_73 s0_73 = some (r, w9) → GG p l e { frames := 2, cells := 0, slots := 0, locals := 45 } s m args below meth c 0 0 (MQ below (mQ D cT lo NB w w9 ad (some (.int r))) args s 0 0 (fun q => lo ≤ q)) D cT lo NB 6 ad w 73 [] [.int s0_73, .int (((60 : Int32) * a1) + a3), .ref (ad 122)]) h (fun s0_73 h H locs ls hP hS hl => ?_) (fun j_73 J_73 h => ?_)
        · refine y_iast h F hP hS k_122 (n2 (hP.al 122 rfl)) dX12_put_73 (fun w_73 H locs hm h hP hS => ?_)
          have hM_w := hm
          refine lv_iconst (v := 1) hx hb dX12_put_74 ic_1 ?_
          exact y_iretM h F hr hP hS hM_w hlk dX12_put_75
        · refine lv_if_ne (tgt := 60) hx hb dX12_put_51 (by decide) (fun hc => ?_) (fun hc => ?_)
          · have h := if_f _ hc h
            refine lv_iload_n hx hb dX12_put_60 rfl (lv_at hl 3 rfl) ?_
            refine lv_iconst (v := 1) hx hb dX12_put_61 ic_1 ?_
            refine lv_icmp_ne (tgt := 71) hx hb dX12_put_62 (by decide) (fun hc => ?_) (fun hc => ?_)
            · have h := if_f _ hc h
              refine lv_iload hx hb dX12_put_71 (lv_at hl 5 rfl) ?_
              exact J_73 a4 h _ _ _ hP hS (lv_sub hl [] rfl)
            · have h := if_t _ hc h
              refine lv_iload hx hb dX12_put_65 (lv_at hl 5 rfl) ?_
              refine lv_i2s hx hb dX12_put_67 rfl ?_
              refine lv_goto (tgt := 73) hx hb dX12_put_68 (by decide) ?_
              exact J_73 a4.toInt16.toInt32 h _ _ _ hP hS (lv_sub hl [] rfl)
          · have h := if_t _ hc h
            refine lv_iload hx hb dX12_put_54 (lv_at hl 5 rfl) ?_
            refine lv_i2b hx hb dX12_put_56 rfl ?_
            refine lv_goto (tgt := 73) hx hb dX12_put_57 (by decide) ?_
            exact J_73 a4.toInt8.toInt32 h _ _ _ hP hS (lv_sub hl [] rfl)
      · have h := if_f _ hc h
        refine lv_aload_n hx hb dX12_put_33 rfl (lv_at hl 1 rfl) ?_
        refine lv_iload hx hb dX12_put_34 (lv_at hl 0 rfl) ?_
        obtain ⟨v_36, w_36, hc_36, h⟩ := bi_s h
        refine x_goes (x_runV (As := [.int v_23]) (rest := []) F hP hS (c_X12_finds l D cT lo w ad v_23 v_36 w_36 hc_36) cw_X12_finds lk_X12_473 vi_X12_finds k_63 (n2 (hP.al 63 rfl)) rfl ⟨rfl, rfl, Nat.le_of_ble_eq_true rfl, Nat.le_of_ble_eq_true rfl⟩ hl.1 rfl (Nat.le_of_ble_eq_true rfl) dX12_put_36 ⟨Nat.zero_le _, Nat.zero_le _⟩) hS (fun H locs hP hS hm => ?_)
        have hM_w := hm
        exact y_iretM h F hr hP hS hM_w hlk dX12_put_39
    · have h := if_t _ hc h
      refine lv_bipush (v := -2) hx hb dX12_put_16 ib_m2 ?_
      exact y_iretM h F hr hP hS mono.refl hlk dX12_put_18
def f_X12_get (w : Wd) (a1 : Int32) (a2 : Int32) (a3 : Int32) : Option (Int32 × Wd) :=
q_jn (some ((-2147483648 : Int32), w)) (fun j_16 =>
if (f_X12_isSheet a1) = 0 then
j_16
else
if (f_X12_in a2 (0 : Int32) (2 : Int32)) = 0 then
j_16
else
q_bo (f_X12_lacks w a1 a2 a3) (fun v_24 =>
if v_24 ≤ 0 then
q_ld w 122 240 (((60 : Int32) * a1) + a3) (fun v_54 =>
some (v_54, w))
else
q_pt w 63 83 v_24 (fun w_37 =>
some ((-2147483648 : Int32), w_37))))
set_option maxRecDepth 100000 in
set_option maxHeartbeats 4000000 in
theorem c_X12_get (l : Launch) (D : va_G) (cT : Nat → ClassId) (lo : Nat) (w : Wd) (ad : Nat → Nat) (a1 : Int32) (a2 : Int32) (a3 : Int32) (r : Int32) (w9 : Wd) (h : f_X12_get w a1 a2 a3 = some (r, w9)) : Met l yX12_get (.code yX12_get cX12_get 5 (some .int) :: TW) { frames := 2, cells := 0, slots := 0, locals := 45 } (mPc D cT lo NB w ad [.ref (ad 63), .int a1, .int a2, .int a3]) (mQ D cT lo NB w w9 ad (some (.int r))) 0 0 (fun q => lo ≤ q) := by
  unfold f_X12_get at h
  refine x_met (lv := [(0, .ref (ad 63)), (1, .int a1), (2, .int a2), (3, .int a3)]) (by decide +kernel) (Nat.le_of_ble_eq_true rfl) rfl ?_
  intro p e s m args below meth c ls F hr hlk hP hin hl
  have hx := F.1
  have hb := F.2.1
  have hS : va_S (fun q => lo ≤ q) s.heap s.heap [] := va_S.rf
  have hM_w : mono w w := mono.refl
  refine lv_iload_n hx hb dX12_get_0 rfl (lv_at hl 1 rfl) ?_
  refine x_goesZ (x_runS (As := [.int a1]) (rest := []) F hP hS (c_X12_isSheet l D cT lo NB w ad a1) cw_X12_isSheet lk_X12_470 st_X12_isSheet ⟨rfl, rfl, Nat.le_of_ble_eq_true rfl, Nat.le_of_ble_eq_true rfl⟩ hl.1 rfl (Nat.le_of_ble_eq_true rfl) dX12_get_1 ⟨Nat.zero_le _, Nat.zero_le _⟩) hS (fun H locs hz_1 hP hS _ => ?_)
  refine jn_use (fun (j_16 : Option (Int32 × Wd)) => j_16 = some (r, w9) → GG p l e { frames := 2, cells := 0, slots := 0, locals := 45 } s m args below meth c 0 0 (MQ below (mQ D cT lo NB w w9 ad (some (.int r))) args s 0 0 (fun q => lo ≤ q)) D cT lo NB 5 ad w 16 [] []) h (fun h H locs ls hP hS hl => ?_) (fun j_16 J_16 h => ?_)
  · refine lv_ldcw F.1 F.2.1 F.2.2.1 (F.2.2.2.1 _ ct_X12_329) dX12_get_16 ?_
    exact y_iretM h F hr hP hS mono.refl hlk dX12_get_19
  · refine lv_if_eq (tgt := 16) hx hb dX12_get_4 (by decide) (fun hc => ?_) (fun hc => ?_)
    · have h := if_t _ hc h
      exact J_16  h _ _ _ hP hS (lv_sub hl [] rfl)
    · have h := if_f _ hc h
      refine lv_iload_n hx hb dX12_get_7 rfl (lv_at hl 2 rfl) ?_
      refine lv_iconst (v := 0) hx hb dX12_get_8 ic_0 ?_
      refine lv_iconst (v := 2) hx hb dX12_get_9 ic_2 ?_
      refine x_goesZ (x_runS (As := [.int a2, .int (0 : Int32), .int (2 : Int32)]) (rest := []) F hP hS (c_X12_in l D cT lo NB w ad a2 (0 : Int32) (2 : Int32)) cw_X12_in lk_X12_217 st_X12_in ⟨rfl, rfl, Nat.le_of_ble_eq_true rfl, Nat.le_of_ble_eq_true rfl⟩ hl.1 rfl (Nat.le_of_ble_eq_true rfl) dX12_get_10 ⟨Nat.zero_le _, Nat.zero_le _⟩) hS (fun H locs hz_10 hP hS _ => ?_)
      refine lv_if_ne (tgt := 20) hx hb dX12_get_13 (by decide) (fun hc => ?_) (fun hc => ?_)
      · have h := if_f _ hc h
        refine lv_aload_n hx hb dX12_get_20 rfl (lv_at hl 0 rfl) ?_
        refine lv_iload_n hx hb dX12_get_21 rfl (lv_at hl 1 rfl) ?_
        refine lv_iload_n hx hb dX12_get_22 rfl (lv_at hl 2 rfl) ?_
        refine lv_iload_n hx hb dX12_get_23 rfl (lv_at hl 3 rfl) ?_
        obtain ⟨v_24, hc_24, h⟩ := bo_s h
        refine x_goes (x_runV (As := [.int a1, .int a2, .int a3]) (rest := []) F hP hS (c_X12_lacks l D cT lo w ad a1 a2 a3 v_24 hc_24) cw_X12_lacks lk_X12_476 vi_X12_lacks k_63 (n2 (hP.al 63 rfl)) rfl ⟨rfl, rfl, Nat.le_of_ble_eq_true rfl, Nat.le_of_ble_eq_true rfl⟩ hl.1 rfl (Nat.le_of_ble_eq_true rfl) dX12_get_24 ⟨Nat.zero_le _, Nat.zero_le _⟩) hS (fun H locs hP hS _ => ?_)
        refine lv_istore (lv' := [(4, .int v_24), (0, .ref (ad 63)), (1, .int a1), (2, .int a2), (3, .int a3)]) hx hb dX12_get_27 hl (Nat.le_of_ble_eq_true rfl) rfl (fun ls hl => ?_)
        refine lv_iload hx hb dX12_get_29 (lv_at hl 0 rfl) ?_
        refine lv_if_le (tgt := 44) hx hb dX12_get_31 (by decide) (fun hc => ?_) (fun hc => ?_)
        · have h := if_t _ hc h
          refine lv_aload_n hx hb dX12_get_44 rfl (lv_at hl 1 rfl) ?_
          refine x_getr F hP k_63 (hP.al 63 rfl) fl_X12_204 rfl r_63_81 dX12_get_45 ?_
          refine lv_bipush (v := 60) hx hb dX12_get_48 ib_60 ?_
          refine lv_iload_n hx hb dX12_get_50 rfl (lv_at hl 2 rfl) ?_
          refine lv_imul hx hb dX12_get_51 ?_
          refine lv_iload_n hx hb dX12_get_52 rfl (lv_at hl 4 rfl) ?_
          refine lv_iadd hx hb dX12_get_53 ?_
          refine y_iald h F hP k_122 (n2 (hP.al 122 rfl)) dX12_get_54 (fun v_54 h => ?_)
          exact y_iretM h F hr hP hS mono.refl hlk dX12_get_55
        · have h := if_f _ hc h
          refine lv_aload_n hx hb dX12_get_34 rfl (lv_at hl 1 rfl) ?_
          refine lv_iload hx hb dX12_get_35 (lv_at hl 0 rfl) ?_
          refine y_puti h F hP hS k_63 (n2 (hP.al 63 rfl)) fl_X12_467 rfl dX12_get_37 (fun w_37 H locs hm h hP hS => ?_)
          have hM_w := hm
          refine lv_ldcw F.1 F.2.1 F.2.2.1 (F.2.2.2.1 _ ct_X12_329) dX12_get_40 ?_
          exact y_iretM h F hr hP hS hM_w hlk dX12_get_43
      · have h := if_t _ hc h
        exact J_16  h _ _ _ hP hS (lv_sub hl [] rfl)
def l_X12_copy_157 (a3 : Int32) (a4 : Int32) (a5 : Int32) : Nat → Wd → Int32 → Option (Int32 × Wd)
  | 0, _, _ => none
  | n_157 + 1, w_157l, x6_157l =>
    if a5 ≤ x6_157l then
    some ((1 : Int32), w_157l)
    else
    q_ld w_157l 123 60 x6_157l (fun v_184 =>
    q_st w_157l 122 240 ((((60 : Int32) * a3) + a4) + x6_157l) v_184 (fun w_185 =>
    q_lt (x6_157l + (1 : Int32)) (fun v_186 =>
    l_X12_copy_157 a3 a4 a5 n_157 w_185 v_186)))
def l_X12_copy_120 (a1 : Int32) (a2 : Int32) (a5 : Int32) (j_154 : Wd → Option (Int32 × Wd)) : Nat → Wd → Int32 → Option (Int32 × Wd)
  | 0, _, _ => none
  | n_120 + 1, w_120l, x6_120l =>
    if a5 ≤ x6_120l then
    j_154 w_120l
    else
    q_ld w_120l 122 240 ((((60 : Int32) * a1) + a2) + x6_120l) (fun v_146 =>
    q_st w_120l 123 60 x6_120l v_146 (fun w_147 =>
    q_lt (x6_120l + (1 : Int32)) (fun v_148 =>
    l_X12_copy_120 a1 a2 a5 j_154 n_120 w_147 v_148)))
def f_X12_copy (w : Wd) (a1 : Int32) (a2 : Int32) (a3 : Int32) (a4 : Int32) (a5 : Int32) : Option (Int32 × Wd) :=
if (f_X12_isSheet a1) = 0 then
some ((-2 : Int32), w)
else
if (f_X12_isSheet a3) = 0 then
some ((-2 : Int32), w)
else
q_ld w 119 4 a1 (fun v_22 =>
q_jn (q_bi (f_X12_finds w (1 : Int32)) (fun v_37 w_37 =>
some (v_37, w_37))) (fun j_35 =>
if v_22 = 0 then
j_35
else
q_ld w 119 4 a3 (fun v_31 =>
if v_31 = 0 then
j_35
else
q_ld w 120 4 a1 (fun v_46 =>
q_ld w 120 4 a3 (fun v_52 =>
if v_46 = v_52 then
q_jn (q_bi (f_X12_finds w (2 : Int32)) (fun v_113 w_113 =>
some (v_113, w_113))) (fun j_111 =>
if a2 < 0 then
j_111
else
if a4 < 0 then
j_111
else
if a5 < 0 then
j_111
else
q_ld w 121 4 a1 (fun v_87 =>
if 0 < (lg_cmp (a2.toInt64 + a5.toInt64) v_87.toInt64) then
j_111
else
q_ld w 121 4 a3 (fun v_105 =>
if (lg_cmp (a4.toInt64 + a5.toInt64) v_105.toInt64) ≤ 0 then
q_jn (fun (w_154j : Wd) =>
l_X12_copy_157 a3 a4 a5 FU w_154j (0 : Int32)) (fun j_154 =>
l_X12_copy_120 a1 a2 a5 j_154 FU w (0 : Int32))
else
j_111)))
else
q_bi (f_X12_finds w (4 : Int32)) (fun v_58 w_58 =>
some (v_58, w_58)))))))
set_option maxRecDepth 100000 in
set_option maxHeartbeats 4000000 in
theorem c_X12_copy (l : Launch) (D : va_G) (cT : Nat → ClassId) (lo : Nat) (w : Wd) (ad : Nat → Nat) (a1 : Int32) (a2 : Int32) (a3 : Int32) (a4 : Int32) (a5 : Int32) (r : Int32) (w9 : Wd) (h : f_X12_copy w a1 a2 a3 a4 a5 = some (r, w9)) : Met l yX12_copy (.code yX12_copy cX12_copy 7 (some .int) :: TW) { frames := 2, cells := 0, slots := 0, locals := 42 } (mPc D cT lo NB w ad [.ref (ad 63), .int a1, .int a2, .int a3, .int a4, .int a5]) (mQ D cT lo NB w w9 ad (some (.int r))) 0 0 (fun q => lo ≤ q) := by
  unfold f_X12_copy at h
  refine x_met (lv := [(0, .ref (ad 63)), (1, .int a1), (2, .int a2), (3, .int a3), (4, .int a4), (5, .int a5)]) (by decide +kernel) (Nat.le_of_ble_eq_true rfl) rfl ?_
  intro p e s m args below meth c ls F hr hlk hP hin hl
  have hx := F.1
  have hb := F.2.1
  have hS : va_S (fun q => lo ≤ q) s.heap s.heap [] := va_S.rf
  have hM_w : mono w w := mono.refl
  refine lv_iload_n hx hb dX12_copy_0 rfl (lv_at hl 1 rfl) ?_
  refine x_goesZ (x_runS (As := [.int a1]) (rest := []) F hP hS (c_X12_isSheet l D cT lo NB w ad a1) cw_X12_isSheet lk_X12_470 st_X12_isSheet ⟨rfl, rfl, Nat.le_of_ble_eq_true rfl, Nat.le_of_ble_eq_true rfl⟩ hl.1 rfl (Nat.le_of_ble_eq_true rfl) dX12_copy_1 ⟨Nat.zero_le _, Nat.zero_le _⟩) hS (fun H locs hz_1 hP hS _ => ?_)
  refine lv_if_eq (tgt := 14) hx hb dX12_copy_4 (by decide) (fun hc => ?_) (fun hc => ?_)
  · have h := if_t _ hc h
    refine lv_bipush (v := -2) hx hb dX12_copy_14 ib_m2 ?_
    exact y_iretM h F hr hP hS mono.refl hlk dX12_copy_16
  · have h := if_f _ hc h
    refine lv_iload_n hx hb dX12_copy_7 rfl (lv_at hl 3 rfl) ?_
    refine x_goesZ (x_runS (As := [.int a3]) (rest := []) F hP hS (c_X12_isSheet l D cT lo NB w ad a3) cw_X12_isSheet lk_X12_470 st_X12_isSheet ⟨rfl, rfl, Nat.le_of_ble_eq_true rfl, Nat.le_of_ble_eq_true rfl⟩ hl.1 rfl (Nat.le_of_ble_eq_true rfl) dX12_copy_8 ⟨Nat.zero_le _, Nat.zero_le _⟩) hS (fun H locs hz_8 hP hS _ => ?_)
    refine lv_if_ne (tgt := 17) hx hb dX12_copy_11 (by decide) (fun hc => ?_) (fun hc => ?_)
    · have h := if_f _ hc h
      refine lv_aload_n hx hb dX12_copy_17 rfl (lv_at hl 0 rfl) ?_
      refine x_getr F hP k_63 (hP.al 63 rfl) fl_X12_195 rfl r_63_78 dX12_copy_18 ?_
      refine lv_iload_n hx hb dX12_copy_21 rfl (lv_at hl 1 rfl) ?_
      refine y_zald h F hP k_119 (n2 (hP.al 119 rfl)) dX12_copy_22 (fun v_22 h => ?_)
      refine jn_use (fun (j_35 : Option (Int32 × Wd)) => j_35 = some (r, w9) → GG p l e { frames := 2, cells := 0, slots := 0, locals := 42 } s m args below meth c 0 0 (MQ below (mQ D cT lo NB w w9 ad (some (.int r))) args s 0 0 (fun q => lo ≤ q)) D cT lo NB 7 ad w 35 [(0, .ref (ad 63))] []) h (fun h H locs ls hP hS hl => ?_) (fun j_35 J_35 h => ?_)
      · refine lv_aload_n hx hb dX12_copy_35 rfl (lv_at hl 0 rfl) ?_
        refine lv_iconst (v := 1) hx hb dX12_copy_36 ic_1 ?_
        obtain ⟨v_37, w_37, hc_37, h⟩ := bi_s h
        refine x_goes (x_runV (As := [.int (1 : Int32)]) (rest := []) F hP hS (c_X12_finds l D cT lo w ad (1 : Int32) v_37 w_37 hc_37) cw_X12_finds lk_X12_473 vi_X12_finds k_63 (n2 (hP.al 63 rfl)) rfl ⟨rfl, rfl, Nat.le_of_ble_eq_true rfl, Nat.le_of_ble_eq_true rfl⟩ hl.1 rfl (Nat.le_of_ble_eq_true rfl) dX12_copy_37 ⟨Nat.zero_le _, Nat.zero_le _⟩) hS (fun H locs hP hS hm => ?_)
        have hM_w := hm
        exact y_iretM h F hr hP hS hM_w hlk dX12_copy_40
      · refine lv_if_eq (tgt := 35) hx hb dX12_copy_23 (by decide) (fun hc => ?_) (fun hc => ?_)
        · have h := if_t _ hc h
          exact J_35  h _ _ _ hP hS (lv_sub hl [0] rfl)
        · have h := if_f _ hc h
          refine lv_aload_n hx hb dX12_copy_26 rfl (lv_at hl 0 rfl) ?_
          refine x_getr F hP k_63 (hP.al 63 rfl) fl_X12_195 rfl r_63_78 dX12_copy_27 ?_
          refine lv_iload_n hx hb dX12_copy_30 rfl (lv_at hl 3 rfl) ?_
          refine y_zald h F hP k_119 (n2 (hP.al 119 rfl)) dX12_copy_31 (fun v_31 h => ?_)
          refine lv_if_ne (tgt := 41) hx hb dX12_copy_32 (by decide) (fun hc => ?_) (fun hc => ?_)
          · have h := if_f _ hc h
            refine lv_aload_n hx hb dX12_copy_41 rfl (lv_at hl 0 rfl) ?_
            refine x_getr F hP k_63 (hP.al 63 rfl) fl_X12_198 rfl r_63_79 dX12_copy_42 ?_
            refine lv_iload_n hx hb dX12_copy_45 rfl (lv_at hl 1 rfl) ?_
            refine y_iald h F hP k_120 (n2 (hP.al 120 rfl)) dX12_copy_46 (fun v_46 h => ?_)
            refine lv_aload_n hx hb dX12_copy_47 rfl (lv_at hl 0 rfl) ?_
            refine x_getr F hP k_63 (hP.al 63 rfl) fl_X12_198 rfl r_63_79 dX12_copy_48 ?_
            refine lv_iload_n hx hb dX12_copy_51 rfl (lv_at hl 3 rfl) ?_
            refine y_iald h F hP k_120 (n2 (hP.al 120 rfl)) dX12_copy_52 (fun v_52 h => ?_)
            refine lv_icmp_eq (tgt := 62) hx hb dX12_copy_53 (by decide) (fun hc => ?_) (fun hc => ?_)
            · have h := if_t _ hc h
              refine lv_iload_n hx hb dX12_copy_62 rfl (lv_at hl 2 rfl) ?_
              refine jn_use (fun (j_111 : Option (Int32 × Wd)) => j_111 = some (r, w9) → GG p l e { frames := 2, cells := 0, slots := 0, locals := 42 } s m args below meth c 0 0 (MQ below (mQ D cT lo NB w w9 ad (some (.int r))) args s 0 0 (fun q => lo ≤ q)) D cT lo NB 7 ad w 111 [(0, .ref (ad 63))] []) h (fun h H locs ls hP hS hl => ?_) (fun j_111 J_111 h => ?_)
              · refine lv_aload_n hx hb dX12_copy_111 rfl (lv_at hl 0 rfl) ?_
                refine lv_iconst (v := 2) hx hb dX12_copy_112 ic_2 ?_
                obtain ⟨v_113, w_113, hc_113, h⟩ := bi_s h
                refine x_goes (x_runV (As := [.int (2 : Int32)]) (rest := []) F hP hS (c_X12_finds l D cT lo w ad (2 : Int32) v_113 w_113 hc_113) cw_X12_finds lk_X12_473 vi_X12_finds k_63 (n2 (hP.al 63 rfl)) rfl ⟨rfl, rfl, Nat.le_of_ble_eq_true rfl, Nat.le_of_ble_eq_true rfl⟩ hl.1 rfl (Nat.le_of_ble_eq_true rfl) dX12_copy_113 ⟨Nat.zero_le _, Nat.zero_le _⟩) hS (fun H locs hP hS hm => ?_)
                have hM_w := hm
                exact y_iretM h F hr hP hS hM_w hlk dX12_copy_116
              · refine lv_if_lt (tgt := 111) hx hb dX12_copy_63 (by decide) (fun hc => ?_) (fun hc => ?_)
                · have h := if_t _ hc h
                  exact J_111  h _ _ _ hP hS (lv_sub hl [0] rfl)
                · have h := if_f _ hc h
                  refine lv_iload hx hb dX12_copy_66 (lv_at hl 4 rfl) ?_
                  refine lv_if_lt (tgt := 111) hx hb dX12_copy_68 (by decide) (fun hc => ?_) (fun hc => ?_)
                  · have h := if_t _ hc h
                    exact J_111  h _ _ _ hP hS (lv_sub hl [0] rfl)
                  · have h := if_f _ hc h
                    refine lv_iload hx hb dX12_copy_71 (lv_at hl 5 rfl) ?_
                    refine lv_if_lt (tgt := 111) hx hb dX12_copy_73 (by decide) (fun hc => ?_) (fun hc => ?_)
                    · have h := if_t _ hc h
                      exact J_111  h _ _ _ hP hS (lv_sub hl [0] rfl)
                    · have h := if_f _ hc h
                      refine lv_iload_n hx hb dX12_copy_76 rfl (lv_at hl 2 rfl) ?_
                      refine lv_i2l hx hb dX12_copy_77 rfl ?_
                      refine lv_iload hx hb dX12_copy_78 (lv_at hl 5 rfl) ?_
                      refine lv_i2l hx hb dX12_copy_80 rfl ?_
                      refine lv_ladd hx hb dX12_copy_81 ?_
                      refine lv_aload_n hx hb dX12_copy_82 rfl (lv_at hl 0 rfl) ?_
                      refine x_getr F hP k_63 (hP.al 63 rfl) fl_X12_201 rfl r_63_80 dX12_copy_83 ?_
                      refine lv_iload_n hx hb dX12_copy_86 rfl (lv_at hl 1 rfl) ?_
                      refine y_iald h F hP k_121 (n2 (hP.al 121 rfl)) dX12_copy_87 (fun v_87 h => ?_)
                      refine lv_i2l hx hb dX12_copy_88 rfl ?_
                      refine W.lcmp hx hb dX12_copy_89 ?_
                      refine lv_if_gt (tgt := 111) hx hb dX12_copy_90 (by decide) (fun hc => ?_) (fun hc => ?_)
                      · have h := if_t _ hc h
                        exact J_111  h _ _ _ hP hS (lv_sub hl [0] rfl)
                      · have h := if_f _ hc h
                        refine lv_iload hx hb dX12_copy_93 (lv_at hl 4 rfl) ?_
                        refine lv_i2l hx hb dX12_copy_95 rfl ?_
                        refine lv_iload hx hb dX12_copy_96 (lv_at hl 5 rfl) ?_
                        refine lv_i2l hx hb dX12_copy_98 rfl ?_
                        refine lv_ladd hx hb dX12_copy_99 ?_
                        refine lv_aload_n hx hb dX12_copy_100 rfl (lv_at hl 0 rfl) ?_
                        refine x_getr F hP k_63 (hP.al 63 rfl) fl_X12_201 rfl r_63_80 dX12_copy_101 ?_
                        refine lv_iload_n hx hb dX12_copy_104 rfl (lv_at hl 3 rfl) ?_
                        refine y_iald h F hP k_121 (n2 (hP.al 121 rfl)) dX12_copy_105 (fun v_105 h => ?_)
                        refine lv_i2l hx hb dX12_copy_106 rfl ?_
                        refine W.lcmp hx hb dX12_copy_107 ?_
                        refine lv_if_le (tgt := 117) hx hb dX12_copy_108 (by decide) (fun hc => ?_) (fun hc => ?_)
                        · have h := if_t _ hc h
                          refine lv_iconst (v := 0) hx hb dX12_copy_117 ic_0 ?_
                          refine lv_istore (lv' := [(6, .int (0 : Int32)), (0, .ref (ad 63)), (1, .int a1), (2, .int a2), (3, .int a3), (4, .int a4), (5, .int a5)]) hx hb dX12_copy_118 hl (Nat.le_of_ble_eq_true rfl) rfl (fun ls hl => ?_)
                          refine jn_use (fun (j_154 : Wd → Option (Int32 × Wd)) => ∀ (w_154j : Wd), mono w w_154j → j_154 w_154j = some (r, w9) → GG p l e { frames := 2, cells := 0, slots := 0, locals := 42 } s m args below meth c 0 0 (MQ below (mQ D cT lo NB w w9 ad (some (.int r))) args s 0 0 (fun q => lo ≤ q)) D cT lo NB 7 ad w_154j 154 [(0, .ref (ad 63)), (3, .int a3), (4, .int a4), (5, .int a5)] []) h (fun w_154j hm h H locs ls hP hS hl => ?_) (fun j_154 J_154 h => ?_)
                          · have hM_w := hm
                            refine lv_iconst (v := 0) hx hb dX12_copy_154 ic_0 ?_
                            refine lv_istore (lv' := [(6, .int (0 : Int32)), (0, .ref (ad 63)), (3, .int a3), (4, .int a4), (5, .int a5)]) hx hb dX12_copy_155 hl (Nat.le_of_ble_eq_true rfl) rfl (fun ls hl => ?_)
                            have L_157 : ∀ (n_157 : Nat) (w_157l : Wd) (x6_157l : Int32), mono w_154j w_157l → l_X12_copy_157 a3 a4 a5 n_157 w_157l x6_157l = some (r, w9) → GG p l e { frames := 2, cells := 0, slots := 0, locals := 42 } s m args below meth c 0 0 (MQ below (mQ D cT lo NB w w9 ad (some (.int r))) args s 0 0 (fun q => lo ≤ q)) D cT lo NB 7 ad w_157l 157 [(6, .int x6_157l), (0, .ref (ad 63)), (3, .int a3), (4, .int a4), (5, .int a5)] [] := by
                              intro n_157
                              induction n_157 with
                              | zero =>
                                intro w_157l x6_157l _ h
                                exact absurd h (by unfold l_X12_copy_157; exact fun z => by cases z)
                              | succ n_157 ih_157 =>
                                intro w_157l x6_157l hm h H locs ls hP hS hl
                                unfold l_X12_copy_157 at h
                                have hM_w := hM_w.trans hm
                                have hM_w_154j := hm
                                refine lv_iload hx hb dX12_copy_157 (lv_at hl 0 rfl) ?_
                                refine lv_iload hx hb dX12_copy_159 (lv_at hl 4 rfl) ?_
                                refine lv_icmp_ge (tgt := 192) hx hb dX12_copy_161 (by decide) (fun hc => ?_) (fun hc => ?_)
                                · have h := if_t _ hc h
                                  refine lv_iconst (v := 1) hx hb dX12_copy_192 ic_1 ?_
                                  exact y_iretM h F hr hP hS hM_w hlk dX12_copy_193
                                · have h := if_f _ hc h
                                  refine lv_aload_n hx hb dX12_copy_164 rfl (lv_at hl 1 rfl) ?_
                                  refine x_getr F hP k_63 (hP.al 63 rfl) fl_X12_204 rfl r_63_81 dX12_copy_165 ?_
                                  refine lv_bipush (v := 60) hx hb dX12_copy_168 ib_60 ?_
                                  refine lv_iload_n hx hb dX12_copy_170 rfl (lv_at hl 2 rfl) ?_
                                  refine lv_imul hx hb dX12_copy_171 ?_
                                  refine lv_iload hx hb dX12_copy_172 (lv_at hl 3 rfl) ?_
                                  refine lv_iadd hx hb dX12_copy_174 ?_
                                  refine lv_iload hx hb dX12_copy_175 (lv_at hl 0 rfl) ?_
                                  refine lv_iadd hx hb dX12_copy_177 ?_
                                  refine lv_aload_n hx hb dX12_copy_178 rfl (lv_at hl 1 rfl) ?_
                                  refine x_getr F hP k_63 (hP.al 63 rfl) fl_X12_207 rfl r_63_82 dX12_copy_179 ?_
                                  refine lv_iload hx hb dX12_copy_182 (lv_at hl 0 rfl) ?_
                                  refine y_iald h F hP k_123 (n2 (hP.al 123 rfl)) dX12_copy_184 (fun v_184 h => ?_)
                                  refine y_iast h F hP hS k_122 (n2 (hP.al 122 rfl)) dX12_copy_185 (fun w_185 H locs hm h hP hS => ?_)
                                  have hM_w := hM_w.trans hm
                                  have hM_w_154j := hM_w_154j.trans hm
                                  refine y_iinc (lv' := fun (v_186 : Int32) => [(6, .int v_186), (0, .ref (ad 63)), (3, .int a3), (4, .int a4), (5, .int a5)]) h F ic_1 dX12_copy_186 hl (kq := 0) rfl (Nat.le_of_ble_eq_true rfl) (fun _ => rfl) (fun v_186 ls hl h => ?_)
                                  refine lv_goto (tgt := 157) hx hb dX12_copy_189 (by decide) ?_
                                  exact ih_157 w_185 v_186 hM_w_154j h _ _ _ hP hS (lv_sub hl [0, 1, 2, 3, 4] rfl)
                            exact L_157 FU w_154j (0 : Int32) mono.refl h _ _ _ hP hS (lv_sub hl [0, 1, 2, 3, 4] rfl)
                          · have L_120 : ∀ (n_120 : Nat) (w_120l : Wd) (x6_120l : Int32), mono w w_120l → l_X12_copy_120 a1 a2 a5 j_154 n_120 w_120l x6_120l = some (r, w9) → GG p l e { frames := 2, cells := 0, slots := 0, locals := 42 } s m args below meth c 0 0 (MQ below (mQ D cT lo NB w w9 ad (some (.int r))) args s 0 0 (fun q => lo ≤ q)) D cT lo NB 7 ad w_120l 120 [(6, .int x6_120l), (0, .ref (ad 63)), (1, .int a1), (2, .int a2), (3, .int a3), (4, .int a4), (5, .int a5)] [] := by
                              intro n_120
                              induction n_120 with
                              | zero =>
                                intro w_120l x6_120l _ h
                                exact absurd h (by unfold l_X12_copy_120; exact fun z => by cases z)
                              | succ n_120 ih_120 =>
                                intro w_120l x6_120l hm h H locs ls hP hS hl
                                unfold l_X12_copy_120 at h
                                have hM_w := hm
                                refine lv_iload hx hb dX12_copy_120 (lv_at hl 0 rfl) ?_
                                refine lv_iload hx hb dX12_copy_122 (lv_at hl 6 rfl) ?_
                                refine lv_icmp_ge (tgt := 154) hx hb dX12_copy_124 (by decide) (fun hc => ?_) (fun hc => ?_)
                                · have h := if_t _ hc h
                                  exact J_154 w_120l hM_w h _ _ _ hP hS (lv_sub hl [1, 4, 5, 6] rfl)
                                · have h := if_f _ hc h
                                  refine lv_aload_n hx hb dX12_copy_127 rfl (lv_at hl 1 rfl) ?_
                                  refine x_getr F hP k_63 (hP.al 63 rfl) fl_X12_207 rfl r_63_82 dX12_copy_128 ?_
                                  refine lv_iload hx hb dX12_copy_131 (lv_at hl 0 rfl) ?_
                                  refine lv_aload_n hx hb dX12_copy_133 rfl (lv_at hl 1 rfl) ?_
                                  refine x_getr F hP k_63 (hP.al 63 rfl) fl_X12_204 rfl r_63_81 dX12_copy_134 ?_
                                  refine lv_bipush (v := 60) hx hb dX12_copy_137 ib_60 ?_
                                  refine lv_iload_n hx hb dX12_copy_139 rfl (lv_at hl 2 rfl) ?_
                                  refine lv_imul hx hb dX12_copy_140 ?_
                                  refine lv_iload_n hx hb dX12_copy_141 rfl (lv_at hl 3 rfl) ?_
                                  refine lv_iadd hx hb dX12_copy_142 ?_
                                  refine lv_iload hx hb dX12_copy_143 (lv_at hl 0 rfl) ?_
                                  refine lv_iadd hx hb dX12_copy_145 ?_
                                  refine y_iald h F hP k_122 (n2 (hP.al 122 rfl)) dX12_copy_146 (fun v_146 h => ?_)
                                  refine y_iast h F hP hS k_123 (n2 (hP.al 123 rfl)) dX12_copy_147 (fun w_147 H locs hm h hP hS => ?_)
                                  have hM_w := hM_w.trans hm
                                  refine y_iinc (lv' := fun (v_148 : Int32) => [(6, .int v_148), (0, .ref (ad 63)), (1, .int a1), (2, .int a2), (3, .int a3), (4, .int a4), (5, .int a5)]) h F ic_1 dX12_copy_148 hl (kq := 0) rfl (Nat.le_of_ble_eq_true rfl) (fun _ => rfl) (fun v_148 ls hl h => ?_)
                                  refine lv_goto (tgt := 120) hx hb dX12_copy_151 (by decide) ?_
                                  exact ih_120 w_147 v_148 hM_w h _ _ _ hP hS (lv_sub hl [0, 1, 2, 3, 4, 5, 6] rfl)
                            exact L_120 FU w (0 : Int32) mono.refl h _ _ _ hP hS (lv_sub hl [0, 1, 2, 3, 4, 5, 6] rfl)
                        · have h := if_f _ hc h
                          exact J_111  h _ _ _ hP hS (lv_sub hl [0] rfl)
            · have h := if_f _ hc h
              refine lv_aload_n hx hb dX12_copy_56 rfl (lv_at hl 0 rfl) ?_
              refine lv_iconst (v := 4) hx hb dX12_copy_57 ic_4 ?_
              obtain ⟨v_58, w_58, hc_58, h⟩ := bi_s h
              refine x_goes (x_runV (As := [.int (4 : Int32)]) (rest := []) F hP hS (c_X12_finds l D cT lo w ad (4 : Int32) v_58 w_58 hc_58) cw_X12_finds lk_X12_473 vi_X12_finds k_63 (n2 (hP.al 63 rfl)) rfl ⟨rfl, rfl, Nat.le_of_ble_eq_true rfl, Nat.le_of_ble_eq_true rfl⟩ hl.1 rfl (Nat.le_of_ble_eq_true rfl) dX12_copy_58 ⟨Nat.zero_le _, Nat.zero_le _⟩) hS (fun H locs hP hS hm => ?_)
              have hM_w := hm
              exact y_iretM h F hr hP hS hM_w hlk dX12_copy_61
          · have h := if_t _ hc h
            exact J_35  h _ _ _ hP hS (lv_sub hl [0] rfl)
    · have h := if_t _ hc h
      refine lv_bipush (v := -2) hx hb dX12_copy_14 ib_m2 ?_
      exact y_iretM h F hr hP hS mono.refl hlk dX12_copy_16
def l_X12_measure_29 (a1 : Int32) : Nat → Wd → Int32 → Int32 → Option (Int32 × Wd)
  | 0, _, _, _ => none
  | n_29 + 1, w_29l, x3_29l, x2_29l =>
    q_ld w_29l 121 4 a1 (fun v_41 =>
    if v_41 ≤ (((7 : Int32) * x3_29l) + (6 : Int32)) then
    some (x2_29l, w_29l)
    else
    q_lt (((60 : Int32) * a1) + ((7 : Int32) * x3_29l)) (fun v_54 =>
    q_ld w_29l 122 240 v_54 (fun v_63 =>
    q_ld w_29l 122 240 (v_54 + (1 : Int32)) (fun v_72 =>
    q_ld w_29l 122 240 (v_54 + (2 : Int32)) (fun v_81 =>
    q_ld w_29l 122 240 (v_54 + (3 : Int32)) (fun v_90 =>
    q_ld w_29l 122 240 (v_54 + (4 : Int32)) (fun v_99 =>
    q_ld w_29l 122 240 (v_54 + (5 : Int32)) (fun v_108 =>
    q_ld w_29l 122 240 (v_54 + (6 : Int32)) (fun v_118 =>
    q_bi (f_X12_house w_29l v_63 v_72 v_81 v_90 v_99 v_108 v_118) (fun v_119 w_119 =>
    if 0 ≤ v_119 then
    q_lt (x2_29l + (1 : Int32)) (fun v_127 =>
    q_lt (x3_29l + (1 : Int32)) (fun v_130 =>
    l_X12_measure_29 a1 n_29 w_119 v_130 v_127))
    else
    some (x2_29l, w_119)))))))))))
def f_X12_measure (w : Wd) (a1 : Int32) : Option (Int32 × Wd) :=
if (f_X12_isSheet a1) = 0 then
some ((-2 : Int32), w)
else
q_ld w 119 4 a1 (fun v_15 =>
if v_15 = 0 then
q_bi (f_X12_finds w (1 : Int32)) (fun v_21 w_21 =>
some (v_21, w_21))
else
l_X12_measure_29 a1 FU w (0 : Int32) (0 : Int32))
set_option maxRecDepth 100000 in
set_option maxHeartbeats 4000000 in
theorem c_X12_measure (l : Launch) (D : va_G) (cT : Nat → ClassId) (lo : Nat) (w : Wd) (ad : Nat → Nat) (a1 : Int32) (r : Int32) (w9 : Wd) (h : f_X12_measure w a1 = some (r, w9)) : Met l yX12_measure (.code yX12_measure cX12_measure 5 (some .int) :: TW) { frames := 3, cells := 0, slots := 0, locals := 72 } (mPc D cT lo NB w ad [.ref (ad 63), .int a1]) (mQ D cT lo NB w w9 ad (some (.int r))) 0 0 (fun q => lo ≤ q) := by
  unfold f_X12_measure at h
  refine x_met (lv := [(0, .ref (ad 63)), (1, .int a1)]) (by decide +kernel) (Nat.le_of_ble_eq_true rfl) rfl ?_
  intro p e s m args below meth c ls F hr hlk hP hin hl
  have hx := F.1
  have hb := F.2.1
  have hS : va_S (fun q => lo ≤ q) s.heap s.heap [] := va_S.rf
  have hM_w : mono w w := mono.refl
  refine lv_iload_n hx hb dX12_measure_0 rfl (lv_at hl 1 rfl) ?_
  refine x_goesZ (x_runS (As := [.int a1]) (rest := []) F hP hS (c_X12_isSheet l D cT lo NB w ad a1) cw_X12_isSheet lk_X12_470 st_X12_isSheet ⟨rfl, rfl, Nat.le_of_ble_eq_true rfl, Nat.le_of_ble_eq_true rfl⟩ hl.1 rfl (Nat.le_of_ble_eq_true rfl) dX12_measure_1 ⟨Nat.zero_le _, Nat.zero_le _⟩) hS (fun H locs hz_1 hP hS _ => ?_)
  refine lv_if_ne (tgt := 10) hx hb dX12_measure_4 (by decide) (fun hc => ?_) (fun hc => ?_)
  · have h := if_f _ hc h
    refine lv_aload_n hx hb dX12_measure_10 rfl (lv_at hl 0 rfl) ?_
    refine x_getr F hP k_63 (hP.al 63 rfl) fl_X12_195 rfl r_63_78 dX12_measure_11 ?_
    refine lv_iload_n hx hb dX12_measure_14 rfl (lv_at hl 1 rfl) ?_
    refine y_zald h F hP k_119 (n2 (hP.al 119 rfl)) dX12_measure_15 (fun v_15 h => ?_)
    refine lv_if_ne (tgt := 25) hx hb dX12_measure_16 (by decide) (fun hc => ?_) (fun hc => ?_)
    · have h := if_f _ hc h
      refine lv_iconst (v := 0) hx hb dX12_measure_25 ic_0 ?_
      refine lv_istore_n (lv' := [(2, .int (0 : Int32)), (0, .ref (ad 63)), (1, .int a1)]) hx hb dX12_measure_26 rfl hl (Nat.le_of_ble_eq_true rfl) rfl (fun ls hl => ?_)
      refine lv_iconst (v := 0) hx hb dX12_measure_27 ic_0 ?_
      refine lv_istore_n (lv' := [(3, .int (0 : Int32)), (2, .int (0 : Int32)), (0, .ref (ad 63)), (1, .int a1)]) hx hb dX12_measure_28 rfl hl (Nat.le_of_ble_eq_true rfl) rfl (fun ls hl => ?_)
      have L_29 : ∀ (n_29 : Nat) (w_29l : Wd) (x3_29l : Int32) (x2_29l : Int32), mono w w_29l → l_X12_measure_29 a1 n_29 w_29l x3_29l x2_29l = some (r, w9) → GG p l e { frames := 3, cells := 0, slots := 0, locals := 72 } s m args below meth c 0 0 (MQ below (mQ D cT lo NB w w9 ad (some (.int r))) args s 0 0 (fun q => lo ≤ q)) D cT lo NB 5 ad w_29l 29 [(3, .int x3_29l), (2, .int x2_29l), (0, .ref (ad 63)), (1, .int a1)] [] := by
        intro n_29
        induction n_29 with
        | zero =>
          intro w_29l x3_29l x2_29l _ h
          exact absurd h (by unfold l_X12_measure_29; exact fun z => by cases z)
        | succ n_29 ih_29 =>
          intro w_29l x3_29l x2_29l hm h H locs ls hP hS hl
          unfold l_X12_measure_29 at h
          have hM_w := hm
          refine lv_bipush (v := 7) hx hb dX12_measure_29 ib_7 ?_
          refine lv_iload_n hx hb dX12_measure_31 rfl (lv_at hl 0 rfl) ?_
          refine lv_imul hx hb dX12_measure_32 ?_
          refine lv_bipush (v := 6) hx hb dX12_measure_33 ib_6 ?_
          refine lv_iadd hx hb dX12_measure_35 ?_
          refine lv_aload_n hx hb dX12_measure_36 rfl (lv_at hl 2 rfl) ?_
          refine x_getr F hP k_63 (hP.al 63 rfl) fl_X12_201 rfl r_63_80 dX12_measure_37 ?_
          refine lv_iload_n hx hb dX12_measure_40 rfl (lv_at hl 3 rfl) ?_
          refine y_iald h F hP k_121 (n2 (hP.al 121 rfl)) dX12_measure_41 (fun v_41 h => ?_)
          refine lv_icmp_ge (tgt := 136) hx hb dX12_measure_42 (by decide) (fun hc => ?_) (fun hc => ?_)
          · have h := if_t _ hc h
            refine lv_iload_n hx hb dX12_measure_136 rfl (lv_at hl 1 rfl) ?_
            exact y_iretM h F hr hP hS hM_w hlk dX12_measure_137
          · have h := if_f _ hc h
            refine lv_bipush (v := 60) hx hb dX12_measure_45 ib_60 ?_
            refine lv_iload_n hx hb dX12_measure_47 rfl (lv_at hl 3 rfl) ?_
            refine lv_imul hx hb dX12_measure_48 ?_
            refine lv_bipush (v := 7) hx hb dX12_measure_49 ib_7 ?_
            refine lv_iload_n hx hb dX12_measure_51 rfl (lv_at hl 0 rfl) ?_
            refine lv_imul hx hb dX12_measure_52 ?_
            refine lv_iadd hx hb dX12_measure_53 ?_
            refine y_let h (fun v_54 h => ?_)
            refine lv_istore (lv' := [(4, .int v_54), (3, .int x3_29l), (2, .int x2_29l), (0, .ref (ad 63)), (1, .int a1)]) hx hb dX12_measure_54 hl (Nat.le_of_ble_eq_true rfl) rfl (fun ls hl => ?_)
            refine lv_aload_n hx hb dX12_measure_56 rfl (lv_at hl 3 rfl) ?_
            refine lv_aload_n hx hb dX12_measure_57 rfl (lv_at hl 3 rfl) ?_
            refine x_getr F hP k_63 (hP.al 63 rfl) fl_X12_204 rfl r_63_81 dX12_measure_58 ?_
            refine lv_iload hx hb dX12_measure_61 (lv_at hl 0 rfl) ?_
            refine y_iald h F hP k_122 (n2 (hP.al 122 rfl)) dX12_measure_63 (fun v_63 h => ?_)
            refine lv_aload_n hx hb dX12_measure_64 rfl (lv_at hl 3 rfl) ?_
            refine x_getr F hP k_63 (hP.al 63 rfl) fl_X12_204 rfl r_63_81 dX12_measure_65 ?_
            refine lv_iload hx hb dX12_measure_68 (lv_at hl 0 rfl) ?_
            refine lv_iconst (v := 1) hx hb dX12_measure_70 ic_1 ?_
            refine lv_iadd hx hb dX12_measure_71 ?_
            refine y_iald h F hP k_122 (n2 (hP.al 122 rfl)) dX12_measure_72 (fun v_72 h => ?_)
            refine lv_aload_n hx hb dX12_measure_73 rfl (lv_at hl 3 rfl) ?_
            refine x_getr F hP k_63 (hP.al 63 rfl) fl_X12_204 rfl r_63_81 dX12_measure_74 ?_
            refine lv_iload hx hb dX12_measure_77 (lv_at hl 0 rfl) ?_
            refine lv_iconst (v := 2) hx hb dX12_measure_79 ic_2 ?_
            refine lv_iadd hx hb dX12_measure_80 ?_
            refine y_iald h F hP k_122 (n2 (hP.al 122 rfl)) dX12_measure_81 (fun v_81 h => ?_)
            refine lv_aload_n hx hb dX12_measure_82 rfl (lv_at hl 3 rfl) ?_
            refine x_getr F hP k_63 (hP.al 63 rfl) fl_X12_204 rfl r_63_81 dX12_measure_83 ?_
            refine lv_iload hx hb dX12_measure_86 (lv_at hl 0 rfl) ?_
            refine lv_iconst (v := 3) hx hb dX12_measure_88 ic_3 ?_
            refine lv_iadd hx hb dX12_measure_89 ?_
            refine y_iald h F hP k_122 (n2 (hP.al 122 rfl)) dX12_measure_90 (fun v_90 h => ?_)
            refine lv_aload_n hx hb dX12_measure_91 rfl (lv_at hl 3 rfl) ?_
            refine x_getr F hP k_63 (hP.al 63 rfl) fl_X12_204 rfl r_63_81 dX12_measure_92 ?_
            refine lv_iload hx hb dX12_measure_95 (lv_at hl 0 rfl) ?_
            refine lv_iconst (v := 4) hx hb dX12_measure_97 ic_4 ?_
            refine lv_iadd hx hb dX12_measure_98 ?_
            refine y_iald h F hP k_122 (n2 (hP.al 122 rfl)) dX12_measure_99 (fun v_99 h => ?_)
            refine lv_aload_n hx hb dX12_measure_100 rfl (lv_at hl 3 rfl) ?_
            refine x_getr F hP k_63 (hP.al 63 rfl) fl_X12_204 rfl r_63_81 dX12_measure_101 ?_
            refine lv_iload hx hb dX12_measure_104 (lv_at hl 0 rfl) ?_
            refine lv_iconst (v := 5) hx hb dX12_measure_106 ic_5 ?_
            refine lv_iadd hx hb dX12_measure_107 ?_
            refine y_iald h F hP k_122 (n2 (hP.al 122 rfl)) dX12_measure_108 (fun v_108 h => ?_)
            refine lv_aload_n hx hb dX12_measure_109 rfl (lv_at hl 3 rfl) ?_
            refine x_getr F hP k_63 (hP.al 63 rfl) fl_X12_204 rfl r_63_81 dX12_measure_110 ?_
            refine lv_iload hx hb dX12_measure_113 (lv_at hl 0 rfl) ?_
            refine lv_bipush (v := 6) hx hb dX12_measure_115 ib_6 ?_
            refine lv_iadd hx hb dX12_measure_117 ?_
            refine y_iald h F hP k_122 (n2 (hP.al 122 rfl)) dX12_measure_118 (fun v_118 h => ?_)
            obtain ⟨v_119, w_119, hc_119, h⟩ := bi_s h
            refine x_goes (x_runV (As := [.int v_63, .int v_72, .int v_81, .int v_90, .int v_99, .int v_108, .int v_118]) (rest := []) F hP hS (c_X12_house l D cT lo w_29l ad v_63 v_72 v_81 v_90 v_99 v_108 v_118 v_119 w_119 hc_119) cw_X12_house lk_X12_479 vi_X12_house k_63 (n2 (hP.al 63 rfl)) rfl ⟨rfl, rfl, Nat.le_of_ble_eq_true rfl, Nat.le_of_ble_eq_true rfl⟩ hl.1 rfl (Nat.le_of_ble_eq_true rfl) dX12_measure_119 ⟨Nat.zero_le _, Nat.zero_le _⟩) hS (fun H locs hP hS hm => ?_)
            have hM_w := hM_w.trans hm
            refine lv_if_ge (tgt := 127) hx hb dX12_measure_122 (by decide) (fun hc => ?_) (fun hc => ?_)
            · have h := if_t _ hc h
              refine y_iinc (lv' := fun (v_127 : Int32) => [(2, .int v_127), (4, .int v_54), (3, .int x3_29l), (0, .ref (ad 63)), (1, .int a1)]) h F ic_1 dX12_measure_127 hl (kq := 2) rfl (Nat.le_of_ble_eq_true rfl) (fun _ => rfl) (fun v_127 ls hl h => ?_)
              refine y_iinc (lv' := fun (v_130 : Int32) => [(3, .int v_130), (2, .int v_127), (4, .int v_54), (0, .ref (ad 63)), (1, .int a1)]) h F ic_1 dX12_measure_130 hl (kq := 2) rfl (Nat.le_of_ble_eq_true rfl) (fun _ => rfl) (fun v_130 ls hl h => ?_)
              refine lv_goto (tgt := 29) hx hb dX12_measure_133 (by decide) ?_
              exact ih_29 w_119 v_130 v_127 hM_w h _ _ _ hP hS (lv_sub hl [0, 1, 3, 4] rfl)
            · have h := if_f _ hc h
              refine lv_iload_n hx hb dX12_measure_125 rfl (lv_at hl 2 rfl) ?_
              exact y_iretM h F hr hP hS hM_w hlk dX12_measure_126
      exact L_29 FU w (0 : Int32) (0 : Int32) mono.refl h _ _ _ hP hS (lv_sub hl [0, 1, 2, 3] rfl)
    · have h := if_t _ hc h
      refine lv_aload_n hx hb dX12_measure_19 rfl (lv_at hl 0 rfl) ?_
      refine lv_iconst (v := 1) hx hb dX12_measure_20 ic_1 ?_
      obtain ⟨v_21, w_21, hc_21, h⟩ := bi_s h
      refine x_goes (x_runV (As := [.int (1 : Int32)]) (rest := []) F hP hS (c_X12_finds l D cT lo w ad (1 : Int32) v_21 w_21 hc_21) cw_X12_finds lk_X12_473 vi_X12_finds k_63 (n2 (hP.al 63 rfl)) rfl ⟨rfl, rfl, Nat.le_of_ble_eq_true rfl, Nat.le_of_ble_eq_true rfl⟩ hl.1 rfl (Nat.le_of_ble_eq_true rfl) dX12_measure_21 ⟨Nat.zero_le _, Nat.zero_le _⟩) hS (fun H locs hP hS hm => ?_)
      have hM_w := hm
      exact y_iretM h F hr hP hS hM_w hlk dX12_measure_24
  · have h := if_t _ hc h
    refine lv_bipush (v := -2) hx hb dX12_measure_7 ib_m2 ?_
    exact y_iretM h F hr hP hS mono.refl hlk dX12_measure_9
def l_X12_count_80 (w : Wd) : Nat → Int32 → Int32 → Option Int32
  | 0, _, _ => none
  | n_80 + 1, x3_80l, x2_80l =>
    q_gt w 63 7 (fun v_82 =>
    if v_82 ≤ x3_80l then
    some x2_80l
    else
    q_ld w 71 10 x3_80l (fun v_94 =>
    q_jn (fun (s0_103 : Int32) =>
    q_lt (x2_80l + s0_103) (fun v_104 =>
    q_lt (x3_80l + (1 : Int32)) (fun v_105 =>
    l_X12_count_80 w n_80 v_105 v_104))) (fun j_103 =>
    if v_94 = 0 then
    j_103 (1 : Int32)
    else
    j_103 (0 : Int32))))
def l_X12_count_125 (w : Wd) : Nat → Int32 → Int32 → Option Int32
  | 0, _, _ => none
  | n_125 + 1, x3_125l, x2_125l =>
    q_gt w 63 16 (fun v_127 =>
    if v_127 ≤ x3_125l then
    some x2_125l
    else
    q_ld w 84 4 x3_125l (fun v_139 =>
    q_jn (fun (s0_148 : Int32) =>
    q_lt (x2_125l + s0_148) (fun v_149 =>
    q_lt (x3_125l + (1 : Int32)) (fun v_150 =>
    l_X12_count_125 w n_125 v_150 v_149))) (fun j_148 =>
    if v_139 = 0 then
    j_148 (0 : Int32)
    else
    j_148 (1 : Int32))))
def f_X12_count (w : Wd) (a1 : Int32) : Option Int32 :=
if a1 = 0 then
q_gt w 63 0 (fun v_69 =>
some v_69)
else if a1 = 1 then
q_gt w 63 5 (fun v_74 =>
some v_74)
else if a1 = 2 then
l_X12_count_80 w FU (0 : Int32) (0 : Int32)
else if a1 = 3 then
q_gt w 63 11 (fun v_114 =>
some v_114)
else if a1 = 4 then
q_gt w 63 16 (fun v_119 =>
some v_119)
else if a1 = 5 then
l_X12_count_125 w FU (0 : Int32) (0 : Int32)
else if a1 = 6 then
q_gt w 63 59 (fun v_159 =>
some v_159)
else if a1 = 7 then
q_gt w 63 68 (fun v_164 =>
some v_164)
else if a1 = 8 then
q_gt w 63 74 (fun v_169 =>
some v_169)
else if a1 = 9 then
q_gt w 63 83 (fun v_174 =>
some v_174)
else if a1 = 10 then
q_gt w 63 50 (fun v_179 =>
some v_179)
else if a1 = 11 then
q_gt w 63 52 (fun v_184 =>
some v_184)
else if a1 = 12 then
q_gt w 63 30 (fun v_189 =>
some v_189)
else 
some (-2 : Int32)
set_option maxRecDepth 100000 in
set_option maxHeartbeats 4000000 in
theorem c_X12_count (l : Launch) (D : va_G) (cT : Nat → ClassId) (lo : Nat) (w : Wd) (ad : Nat → Nat) (a1 : Int32) (r : Int32) (h : f_X12_count w a1 = some r) : Met l yX12_count (.code yX12_count cX12_count 4 (some .int) :: TW) { frames := 0, cells := 0, slots := 0, locals := 0 } (mPc D cT lo NB w ad [.ref (ad 63), .int a1]) (mQ D cT lo NB w w ad (some (.int r))) 0 0 (fun q => lo ≤ q) := by
  unfold f_X12_count at h
  refine x_met (lv := [(0, .ref (ad 63)), (1, .int a1)]) (by decide +kernel) (Nat.le_of_ble_eq_true rfl) rfl ?_
  intro p e s m args below meth c ls F hr hlk hP hin hl
  have hx := F.1
  have hb := F.2.1
  have hS : va_S (fun q => lo ≤ q) s.heap s.heap [] := va_S.rf
  refine lv_iconst (v := 0) hx hb dX12_count_0 ic_0 ?_
  refine lv_istore_n (lv' := [(2, .int (0 : Int32)), (0, .ref (ad 63)), (1, .int a1)]) hx hb dX12_count_1 rfl hl (Nat.le_of_ble_eq_true rfl) rfl (fun ls hl => ?_)
  refine lv_iload_n hx hb dX12_count_2 rfl (lv_at hl 2 rfl) ?_
  by_cases hc0 : a1 = 0
  · have h := if_t _ hc0 h
    refine lv_tableIn (off := 65) (tgt := 68) hx hb dX12_count_3 (by rw [hc0]; decide) (by rw [hc0]; decide) (by rw [hc0]; rfl) (by decide) ?_
    refine lv_aload_n hx hb dX12_count_68 rfl (lv_at hl 1 rfl) ?_
    refine y_geti h F hP k_63 (n2 (hP.al 63 rfl)) fl_X12_232 rfl dX12_count_69 (fun v_69 h => ?_)
    exact y_iretO h F hr hP hS hlk dX12_count_72
  have h := if_f _ hc0 h
  by_cases hc1 : a1 = 1
  · have h := if_t _ hc1 h
    refine lv_tableIn (off := 70) (tgt := 73) hx hb dX12_count_3 (by rw [hc1]; decide) (by rw [hc1]; decide) (by rw [hc1]; rfl) (by decide) ?_
    refine lv_aload_n hx hb dX12_count_73 rfl (lv_at hl 1 rfl) ?_
    refine y_geti h F hP k_63 (n2 (hP.al 63 rfl)) fl_X12_239 rfl dX12_count_74 (fun v_74 h => ?_)
    exact y_iretO h F hr hP hS hlk dX12_count_77
  have h := if_f _ hc1 h
  by_cases hc2 : a1 = 2
  · have h := if_t _ hc2 h
    refine lv_tableIn (off := 75) (tgt := 78) hx hb dX12_count_3 (by rw [hc2]; decide) (by rw [hc2]; decide) (by rw [hc2]; rfl) (by decide) ?_
    refine lv_iconst (v := 0) hx hb dX12_count_78 ic_0 ?_
    refine lv_istore_n (lv' := [(3, .int (0 : Int32)), (2, .int (0 : Int32)), (0, .ref (ad 63)), (1, .int a1)]) hx hb dX12_count_79 rfl hl (Nat.le_of_ble_eq_true rfl) rfl (fun ls hl => ?_)
    have L_80 : ∀ (n_80 : Nat) (x3_80l : Int32) (x2_80l : Int32), l_X12_count_80 w n_80 x3_80l x2_80l = some r → GG p l e { frames := 0, cells := 0, slots := 0, locals := 0 } s m args below meth c 0 0 (MQ below (mQ D cT lo NB w w ad (some (.int r))) args s 0 0 (fun q => lo ≤ q)) D cT lo NB 4 ad w 80 [(3, .int x3_80l), (2, .int x2_80l), (0, .ref (ad 63))] [] := by
      intro n_80
      induction n_80 with
      | zero =>
        intro x3_80l x2_80l h
        exact absurd h (by unfold l_X12_count_80; exact fun z => by cases z)
      | succ n_80 ih_80 =>
        intro x3_80l x2_80l h H locs ls hP hS hl
        unfold l_X12_count_80 at h
        refine lv_iload_n hx hb dX12_count_80 rfl (lv_at hl 0 rfl) ?_
        refine lv_aload_n hx hb dX12_count_81 rfl (lv_at hl 2 rfl) ?_
        refine y_geti h F hP k_63 (n2 (hP.al 63 rfl)) fl_X12_242 rfl dX12_count_82 (fun v_82 h => ?_)
        refine lv_icmp_ge (tgt := 111) hx hb dX12_count_85 (by decide) (fun hc => ?_) (fun hc => ?_)
        · have h := if_t _ hc h
          refine lv_iload_n hx hb dX12_count_111 rfl (lv_at hl 1 rfl) ?_
          exact y_iretO h F hr hP hS hlk dX12_count_112
        · have h := if_f _ hc h
          refine lv_iload_n hx hb dX12_count_88 rfl (lv_at hl 1 rfl) ?_
          refine lv_aload_n hx hb dX12_count_89 rfl (lv_at hl 2 rfl) ?_
          refine x_getr F hP k_63 (hP.al 63 rfl) fl_X12_31 rfl r_63_10 dX12_count_90 ?_
          refine lv_iload_n hx hb dX12_count_93 rfl (lv_at hl 0 rfl) ?_
          refine y_zald h F hP k_71 (n2 (hP.al 71 rfl)) dX12_count_94 (fun v_94 h => ?_)
          refine jn_use (fun (j_103 : Int32 → Option Int32) => ∀ (s0_103 : Int32), j_103 s0_103 = some r → GG p l e { frames := 0, cells := 0, slots := 0, locals := 0 } s m args below meth c 0 0 (MQ below (mQ D cT lo NB w w ad (some (.int r))) args s 0 0 (fun q => lo ≤ q)) D cT lo NB 4 ad w 103 [(3, .int x3_80l), (0, .ref (ad 63))] [.int s0_103, .int x2_80l]) h (fun s0_103 h H locs ls hP hS hl => ?_) (fun j_103 J_103 h => ?_)
          · refine lv_iadd hx hb dX12_count_103 ?_
            refine y_let h (fun v_104 h => ?_)
            refine lv_istore_n (lv' := [(2, .int v_104), (3, .int x3_80l), (0, .ref (ad 63))]) hx hb dX12_count_104 rfl hl (Nat.le_of_ble_eq_true rfl) rfl (fun ls hl => ?_)
            refine y_iinc (lv' := fun (v_105 : Int32) => [(3, .int v_105), (2, .int v_104), (0, .ref (ad 63))]) h F ic_1 dX12_count_105 hl (kq := 1) rfl (Nat.le_of_ble_eq_true rfl) (fun _ => rfl) (fun v_105 ls hl h => ?_)
            refine lv_goto (tgt := 80) hx hb dX12_count_108 (by decide) ?_
            exact ih_80 v_105 v_104 h _ _ _ hP hS (lv_sub hl [0, 1, 2] rfl)
          · refine lv_if_eq (tgt := 102) hx hb dX12_count_95 (by decide) (fun hc => ?_) (fun hc => ?_)
            · have h := if_t _ hc h
              refine lv_iconst (v := 1) hx hb dX12_count_102 ic_1 ?_
              exact J_103 (1 : Int32) h _ _ _ hP hS (lv_sub hl [0, 2] rfl)
            · have h := if_f _ hc h
              refine lv_iconst (v := 0) hx hb dX12_count_98 ic_0 ?_
              refine lv_goto (tgt := 103) hx hb dX12_count_99 (by decide) ?_
              exact J_103 (0 : Int32) h _ _ _ hP hS (lv_sub hl [0, 2] rfl)
    exact L_80 FU (0 : Int32) (0 : Int32) h _ _ _ hP hS (lv_sub hl [0, 1, 2] rfl)
  have h := if_f _ hc2 h
  by_cases hc3 : a1 = 3
  · have h := if_t _ hc3 h
    refine lv_tableIn (off := 110) (tgt := 113) hx hb dX12_count_3 (by rw [hc3]; decide) (by rw [hc3]; decide) (by rw [hc3]; rfl) (by decide) ?_
    refine lv_aload_n hx hb dX12_count_113 rfl (lv_at hl 1 rfl) ?_
    refine y_geti h F hP k_63 (n2 (hP.al 63 rfl)) fl_X12_245 rfl dX12_count_114 (fun v_114 h => ?_)
    exact y_iretO h F hr hP hS hlk dX12_count_117
  have h := if_f _ hc3 h
  by_cases hc4 : a1 = 4
  · have h := if_t _ hc4 h
    refine lv_tableIn (off := 115) (tgt := 118) hx hb dX12_count_3 (by rw [hc4]; decide) (by rw [hc4]; decide) (by rw [hc4]; rfl) (by decide) ?_
    refine lv_aload_n hx hb dX12_count_118 rfl (lv_at hl 1 rfl) ?_
    refine y_geti h F hP k_63 (n2 (hP.al 63 rfl)) fl_X12_254 rfl dX12_count_119 (fun v_119 h => ?_)
    exact y_iretO h F hr hP hS hlk dX12_count_122
  have h := if_f _ hc4 h
  by_cases hc5 : a1 = 5
  · have h := if_t _ hc5 h
    refine lv_tableIn (off := 120) (tgt := 123) hx hb dX12_count_3 (by rw [hc5]; decide) (by rw [hc5]; decide) (by rw [hc5]; rfl) (by decide) ?_
    refine lv_iconst (v := 0) hx hb dX12_count_123 ic_0 ?_
    refine lv_istore_n (lv' := [(3, .int (0 : Int32)), (2, .int (0 : Int32)), (0, .ref (ad 63)), (1, .int a1)]) hx hb dX12_count_124 rfl hl (Nat.le_of_ble_eq_true rfl) rfl (fun ls hl => ?_)
    have L_125 : ∀ (n_125 : Nat) (x3_125l : Int32) (x2_125l : Int32), l_X12_count_125 w n_125 x3_125l x2_125l = some r → GG p l e { frames := 0, cells := 0, slots := 0, locals := 0 } s m args below meth c 0 0 (MQ below (mQ D cT lo NB w w ad (some (.int r))) args s 0 0 (fun q => lo ≤ q)) D cT lo NB 4 ad w 125 [(3, .int x3_125l), (2, .int x2_125l), (0, .ref (ad 63))] [] := by
      intro n_125
      induction n_125 with
      | zero =>
        intro x3_125l x2_125l h
        exact absurd h (by unfold l_X12_count_125; exact fun z => by cases z)
      | succ n_125 ih_125 =>
        intro x3_125l x2_125l h H locs ls hP hS hl
        unfold l_X12_count_125 at h
        refine lv_iload_n hx hb dX12_count_125 rfl (lv_at hl 0 rfl) ?_
        refine lv_aload_n hx hb dX12_count_126 rfl (lv_at hl 2 rfl) ?_
        refine y_geti h F hP k_63 (n2 (hP.al 63 rfl)) fl_X12_254 rfl dX12_count_127 (fun v_127 h => ?_)
        refine lv_icmp_ge (tgt := 156) hx hb dX12_count_130 (by decide) (fun hc => ?_) (fun hc => ?_)
        · have h := if_t _ hc h
          refine lv_iload_n hx hb dX12_count_156 rfl (lv_at hl 1 rfl) ?_
          exact y_iretO h F hr hP hS hlk dX12_count_157
        · have h := if_f _ hc h
          refine lv_iload_n hx hb dX12_count_133 rfl (lv_at hl 1 rfl) ?_
          refine lv_aload_n hx hb dX12_count_134 rfl (lv_at hl 2 rfl) ?_
          refine x_getr F hP k_63 (hP.al 63 rfl) fl_X12_71 rfl r_63_25 dX12_count_135 ?_
          refine lv_iload_n hx hb dX12_count_138 rfl (lv_at hl 0 rfl) ?_
          refine y_zald h F hP k_84 (n2 (hP.al 84 rfl)) dX12_count_139 (fun v_139 h => ?_)
          refine jn_use (fun (j_148 : Int32 → Option Int32) => ∀ (s0_148 : Int32), j_148 s0_148 = some r → GG p l e { frames := 0, cells := 0, slots := 0, locals := 0 } s m args below meth c 0 0 (MQ below (mQ D cT lo NB w w ad (some (.int r))) args s 0 0 (fun q => lo ≤ q)) D cT lo NB 4 ad w 148 [(3, .int x3_125l), (0, .ref (ad 63))] [.int s0_148, .int x2_125l]) h (fun s0_148 h H locs ls hP hS hl => ?_) (fun j_148 J_148 h => ?_)
          · refine lv_iadd hx hb dX12_count_148 ?_
            refine y_let h (fun v_149 h => ?_)
            refine lv_istore_n (lv' := [(2, .int v_149), (3, .int x3_125l), (0, .ref (ad 63))]) hx hb dX12_count_149 rfl hl (Nat.le_of_ble_eq_true rfl) rfl (fun ls hl => ?_)
            refine y_iinc (lv' := fun (v_150 : Int32) => [(3, .int v_150), (2, .int v_149), (0, .ref (ad 63))]) h F ic_1 dX12_count_150 hl (kq := 1) rfl (Nat.le_of_ble_eq_true rfl) (fun _ => rfl) (fun v_150 ls hl h => ?_)
            refine lv_goto (tgt := 125) hx hb dX12_count_153 (by decide) ?_
            exact ih_125 v_150 v_149 h _ _ _ hP hS (lv_sub hl [0, 1, 2] rfl)
          · refine lv_if_eq (tgt := 147) hx hb dX12_count_140 (by decide) (fun hc => ?_) (fun hc => ?_)
            · have h := if_t _ hc h
              refine lv_iconst (v := 0) hx hb dX12_count_147 ic_0 ?_
              exact J_148 (0 : Int32) h _ _ _ hP hS (lv_sub hl [0, 2] rfl)
            · have h := if_f _ hc h
              refine lv_iconst (v := 1) hx hb dX12_count_143 ic_1 ?_
              refine lv_goto (tgt := 148) hx hb dX12_count_144 (by decide) ?_
              exact J_148 (1 : Int32) h _ _ _ hP hS (lv_sub hl [0, 2] rfl)
    exact L_125 FU (0 : Int32) (0 : Int32) h _ _ _ hP hS (lv_sub hl [0, 1, 2] rfl)
  have h := if_f _ hc5 h
  by_cases hc6 : a1 = 6
  · have h := if_t _ hc6 h
    refine lv_tableIn (off := 155) (tgt := 158) hx hb dX12_count_3 (by rw [hc6]; decide) (by rw [hc6]; decide) (by rw [hc6]; rfl) (by decide) ?_
    refine lv_aload_n hx hb dX12_count_158 rfl (lv_at hl 1 rfl) ?_
    refine y_geti h F hP k_63 (n2 (hP.al 63 rfl)) fl_X12_420 rfl dX12_count_159 (fun v_159 h => ?_)
    exact y_iretO h F hr hP hS hlk dX12_count_162
  have h := if_f _ hc6 h
  by_cases hc7 : a1 = 7
  · have h := if_t _ hc7 h
    refine lv_tableIn (off := 160) (tgt := 163) hx hb dX12_count_3 (by rw [hc7]; decide) (by rw [hc7]; decide) (by rw [hc7]; rfl) (by decide) ?_
    refine lv_aload_n hx hb dX12_count_163 rfl (lv_at hl 1 rfl) ?_
    refine y_geti h F hP k_63 (n2 (hP.al 63 rfl)) fl_X12_437 rfl dX12_count_164 (fun v_164 h => ?_)
    exact y_iretO h F hr hP hS hlk dX12_count_167
  have h := if_f _ hc7 h
  by_cases hc8 : a1 = 8
  · have h := if_t _ hc8 h
    refine lv_tableIn (off := 165) (tgt := 168) hx hb dX12_count_3 (by rw [hc8]; decide) (by rw [hc8]; decide) (by rw [hc8]; rfl) (by decide) ?_
    refine lv_aload_n hx hb dX12_count_168 rfl (lv_at hl 1 rfl) ?_
    refine y_geti h F hP k_63 (n2 (hP.al 63 rfl)) fl_X12_443 rfl dX12_count_169 (fun v_169 h => ?_)
    exact y_iretO h F hr hP hS hlk dX12_count_172
  have h := if_f _ hc8 h
  by_cases hc9 : a1 = 9
  · have h := if_t _ hc9 h
    refine lv_tableIn (off := 170) (tgt := 173) hx hb dX12_count_3 (by rw [hc9]; decide) (by rw [hc9]; decide) (by rw [hc9]; rfl) (by decide) ?_
    refine lv_aload_n hx hb dX12_count_173 rfl (lv_at hl 1 rfl) ?_
    refine y_geti h F hP k_63 (n2 (hP.al 63 rfl)) fl_X12_467 rfl dX12_count_174 (fun v_174 h => ?_)
    exact y_iretO h F hr hP hS hlk dX12_count_177
  have h := if_f _ hc9 h
  by_cases hc10 : a1 = 10
  · have h := if_t _ hc10 h
    refine lv_tableIn (off := 175) (tgt := 178) hx hb dX12_count_3 (by rw [hc10]; decide) (by rw [hc10]; decide) (by rw [hc10]; rfl) (by decide) ?_
    refine lv_aload_n hx hb dX12_count_178 rfl (lv_at hl 1 rfl) ?_
    refine y_geti h F hP k_63 (n2 (hP.al 63 rfl)) fl_X12_396 rfl dX12_count_179 (fun v_179 h => ?_)
    exact y_iretO h F hr hP hS hlk dX12_count_182
  have h := if_f _ hc10 h
  by_cases hc11 : a1 = 11
  · have h := if_t _ hc11 h
    refine lv_tableIn (off := 180) (tgt := 183) hx hb dX12_count_3 (by rw [hc11]; decide) (by rw [hc11]; decide) (by rw [hc11]; rfl) (by decide) ?_
    refine lv_aload_n hx hb dX12_count_183 rfl (lv_at hl 1 rfl) ?_
    refine y_geti h F hP k_63 (n2 (hP.al 63 rfl)) fl_X12_399 rfl dX12_count_184 (fun v_184 h => ?_)
    exact y_iretO h F hr hP hS hlk dX12_count_187
  have h := if_f _ hc11 h
  by_cases hc12 : a1 = 12
  · have h := if_t _ hc12 h
    refine lv_tableIn (off := 185) (tgt := 188) hx hb dX12_count_3 (by rw [hc12]; decide) (by rw [hc12]; decide) (by rw [hc12]; rfl) (by decide) ?_
    refine lv_aload_n hx hb dX12_count_188 rfl (lv_at hl 1 rfl) ?_
    refine y_geti h F hP k_63 (n2 (hP.al 63 rfl)) fl_X12_86 rfl dX12_count_189 (fun v_189 h => ?_)
    exact y_iretO h F hr hP hS hlk dX12_count_192
  have h := if_f _ hc12 h
  refine lv_tableOut (tgt := 193) hx hb dX12_count_3 (tab_out [(0 : Int32), (1 : Int32), (2 : Int32), (3 : Int32), (4 : Int32), (5 : Int32), (6 : Int32), (7 : Int32), (8 : Int32), (9 : Int32), (10 : Int32), (11 : Int32), (12 : Int32)] (by decide) (by simp [hc0, hc1, hc2, hc3, hc4, hc5, hc6, hc7, hc8, hc9, hc10, hc11, hc12])) (by decide) ?_
  refine lv_bipush (v := -2) hx hb dX12_count_193 ib_m2 ?_
  exact y_iretO h F hr hP hS hlk dX12_count_195
def l_X12_digest_182 (w_177 : Wd) (j_210 : Int64 → Option (Int64 × Wd)) : Nat → Int32 → Int64 → Option (Int64 × Wd)
  | 0, _, _ => none
  | n_182 + 1, x3_182l, x1_182l =>
    q_gt w_177 63 68 (fun v_184 =>
    if v_184 ≤ x3_182l then
    j_210 x1_182l
    else
    q_ld w_177 116 12 x3_182l (fun v_200 =>
    q_lt (((31 : Int64) * x1_182l) + v_200.toInt64) (fun v_203 =>
    q_lt (x3_182l + (1 : Int32)) (fun v_204 =>
    l_X12_digest_182 w_177 j_210 n_182 v_204 v_203))))
def l_X12_digest_148 (w_143 : Wd) (j_176 : Int64 → Option (Int64 × Wd)) : Nat → Int32 → Int64 → Option (Int64 × Wd)
  | 0, _, _ => none
  | n_148 + 1, x3_148l, x1_148l =>
    q_gt w_143 63 59 (fun v_150 =>
    if v_150 ≤ x3_148l then
    j_176 x1_148l
    else
    q_ld w_143 113 4 x3_148l (fun v_166 =>
    q_lt (((31 : Int64) * x1_148l) + v_166.toInt64) (fun v_169 =>
    q_lt (x3_148l + (1 : Int32)) (fun v_170 =>
    l_X12_digest_148 w_143 j_176 n_148 v_170 v_169))))
def l_X12_digest_90 (w : Wd) (j_139 : Int64 → Option (Int64 × Wd)) : Nat → Int32 → Int64 → Option (Int64 × Wd)
  | 0, _, _ => none
  | n_90 + 1, x3_90l, x1_90l =>
    q_gt w 63 16 (fun v_92 =>
    if v_92 ≤ x3_90l then
    j_139 x1_90l
    else
    q_ld w 84 4 x3_90l (fun v_103 =>
    q_jn (fun (x1_133 : Int64) =>
    q_lt (x3_90l + (1 : Int32)) (fun v_133 =>
    l_X12_digest_90 w j_139 n_90 v_133 x1_133)) (fun j_133 =>
    if v_103 = 0 then
    j_133 x1_90l
    else
    q_bo (f_X12_pullOf w x3_90l) (fun v_114 =>
    q_lt (((31 : Int64) * x1_90l) + v_114.toInt64) (fun v_119 =>
    q_bo (f_X12_needOf w x3_90l) (fun v_127 =>
    q_lt (((31 : Int64) * v_119) + v_127.toInt64) (fun v_132 =>
    j_133 v_132)))))))
def l_X12_digest_54 (w : Wd) (x3_43l : Int32) (j_82 : Int64 → Option (Int64 × Wd)) : Nat → Int32 → Int64 → Option (Int64 × Wd)
  | 0, _, _ => none
  | n_54 + 1, x4_54l, x1_54l =>
    if (10 : Int32) ≤ x4_54l then
    j_82 x1_54l
    else
    q_bo (f_X12_aboutOf w x3_43l x4_54l) (fun v_70 =>
    q_lt (((31 : Int64) * x1_54l) + v_70.toInt64) (fun v_75 =>
    q_lt (x4_54l + (1 : Int32)) (fun v_76 =>
    l_X12_digest_54 w x3_43l j_82 n_54 v_76 v_75)))
def l_X12_digest_43 (w : Wd) (j_88 : Int64 → Option (Int64 × Wd)) : Nat → Int32 → Int64 → Option (Int64 × Wd)
  | 0, _, _ => none
  | n_43 + 1, x3_43l, x1_43l =>
    q_gt w 63 16 (fun v_45 =>
    if v_45 ≤ x3_43l then
    j_88 x1_43l
    else
    q_jn (fun (x1_82 : Int64) =>
    q_lt (x3_43l + (1 : Int32)) (fun v_82 =>
    l_X12_digest_43 w j_88 n_43 v_82 x1_82)) (fun j_82 =>
    l_X12_digest_54 w x3_43l j_82 FU (0 : Int32) x1_43l))
def l_X12_digest_6 (w : Wd) (j_41 : Int64 → Option (Int64 × Wd)) : Nat → Int32 → Int64 → Option (Int64 × Wd)
  | 0, _, _ => none
  | n_6 + 1, x3_6l, x1_6l =>
    if (13 : Int32) ≤ x3_6l then
    j_41 x1_6l
    else
    q_jn (fun (s0_34 : Int64) =>
    q_lt (x3_6l + (1 : Int32)) (fun v_35 =>
    l_X12_digest_6 w j_41 n_6 v_35 s0_34)) (fun j_34 =>
    if x3_6l = (9 : Int32) then
    j_34 x1_6l
    else
    q_bo (f_X12_count w x3_6l) (fun v_29 =>
    j_34 (((31 : Int64) * x1_6l) + v_29.toInt64)))
def f_X12_digest (w : Wd) : Option (Int64 × Wd) :=
q_jn (fun (x1_41 : Int64) =>
q_jn (fun (x1_88 : Int64) =>
q_jn (fun (x1_139 : Int64) =>
q_bo (f_X12_days w (2000 : Int32)) (fun w_143 =>
q_jn (fun (x1_176 : Int64) =>
q_bo (f_X12_works w_143) (fun w_177 =>
q_jn (fun (x1_210 : Int64) =>
q_bi (f_X12_rosterOrNot w_177) (fun v_216 w_216 =>
some (((31 : Int64) * x1_210) + v_216.toInt64, w_216))) (fun j_210 =>
l_X12_digest_182 w_177 j_210 FU (0 : Int32) x1_176))) (fun j_176 =>
l_X12_digest_148 w_143 j_176 FU (0 : Int32) x1_139))) (fun j_139 =>
l_X12_digest_90 w j_139 FU (0 : Int32) x1_88)) (fun j_88 =>
l_X12_digest_43 w j_88 FU (0 : Int32) x1_41)) (fun j_41 =>
l_X12_digest_6 w j_41 FU (0 : Int32) (17 : Int64))
set_option maxRecDepth 100000 in
set_option maxHeartbeats 4000000 in
theorem c_X12_digest (l : Launch) (D : va_G) (cT : Nat → ClassId) (lo : Nat) (w : Wd) (ad : Nat → Nat)  (r : Int64) (w9 : Wd) (h : f_X12_digest w = some (r, w9)) : Met l yX12_digest (.code yX12_digest cX12_digest 5 (some .long) :: TW) { frames := 6, cells := 0, slots := 0, locals := 136 } (mPc D cT lo NB w ad [.ref (ad 63)]) (mQ D cT lo NB w w9 ad (some (.long r))) 0 0 (fun q => lo ≤ q) := by
  unfold f_X12_digest at h
  refine x_met (lv := [(0, .ref (ad 63))]) (by decide +kernel) (Nat.le_of_ble_eq_true rfl) rfl ?_
  intro p e s m args below meth c ls F hr hlk hP hin hl
  have hx := F.1
  have hb := F.2.1
  have hS : va_S (fun q => lo ≤ q) s.heap s.heap [] := va_S.rf
  have hM_w : mono w w := mono.refl
  refine lv_ldc2 F.1 F.2.1 F.2.2.1 (F.2.2.2.1 _ ct_X12_483) dX12_digest_0 ?_
  refine lv_lstore_n (lv' := [(1, .long (17 : Int64)), (0, .ref (ad 63))]) hx hb dX12_digest_3 rfl hl (Nat.le_of_ble_eq_true rfl) rfl (fun ls hl => ?_)
  refine lv_iconst (v := 0) hx hb dX12_digest_4 ic_0 ?_
  refine lv_istore_n (lv' := [(3, .int (0 : Int32)), (1, .long (17 : Int64)), (0, .ref (ad 63))]) hx hb dX12_digest_5 rfl hl (Nat.le_of_ble_eq_true rfl) rfl (fun ls hl => ?_)
  refine jn_use (fun (j_41 : Int64 → Option (Int64 × Wd)) => ∀ (x1_41 : Int64), j_41 x1_41 = some (r, w9) → GG p l e { frames := 6, cells := 0, slots := 0, locals := 136 } s m args below meth c 0 0 (MQ below (mQ D cT lo NB w w9 ad (some (.long r))) args s 0 0 (fun q => lo ≤ q)) D cT lo NB 5 ad w 41 [(1, .long x1_41), (0, .ref (ad 63))] []) h (fun x1_41 h H locs ls hP hS hl => ?_) (fun j_41 J_41 h => ?_)
  · refine lv_iconst (v := 0) hx hb dX12_digest_41 ic_0 ?_
    refine lv_istore_n (lv' := [(3, .int (0 : Int32)), (1, .long x1_41), (0, .ref (ad 63))]) hx hb dX12_digest_42 rfl hl (Nat.le_of_ble_eq_true rfl) rfl (fun ls hl => ?_)
    refine jn_use (fun (j_88 : Int64 → Option (Int64 × Wd)) => ∀ (x1_88 : Int64), j_88 x1_88 = some (r, w9) → GG p l e { frames := 6, cells := 0, slots := 0, locals := 136 } s m args below meth c 0 0 (MQ below (mQ D cT lo NB w w9 ad (some (.long r))) args s 0 0 (fun q => lo ≤ q)) D cT lo NB 5 ad w 88 [(1, .long x1_88), (0, .ref (ad 63))] []) h (fun x1_88 h H locs ls hP hS hl => ?_) (fun j_88 J_88 h => ?_)
    · refine lv_iconst (v := 0) hx hb dX12_digest_88 ic_0 ?_
      refine lv_istore_n (lv' := [(3, .int (0 : Int32)), (1, .long x1_88), (0, .ref (ad 63))]) hx hb dX12_digest_89 rfl hl (Nat.le_of_ble_eq_true rfl) rfl (fun ls hl => ?_)
      refine jn_use (fun (j_139 : Int64 → Option (Int64 × Wd)) => ∀ (x1_139 : Int64), j_139 x1_139 = some (r, w9) → GG p l e { frames := 6, cells := 0, slots := 0, locals := 136 } s m args below meth c 0 0 (MQ below (mQ D cT lo NB w w9 ad (some (.long r))) args s 0 0 (fun q => lo ≤ q)) D cT lo NB 5 ad w 139 [(1, .long x1_139), (0, .ref (ad 63))] []) h (fun x1_139 h H locs ls hP hS hl => ?_) (fun j_139 J_139 h => ?_)
      · refine lv_aload_n hx hb dX12_digest_139 rfl (lv_at hl 1 rfl) ?_
        refine lv_sipush (v := 2000) hx hb dX12_digest_140 is_2000 ?_
        obtain ⟨w_143, hc_143, h⟩ := bo_s h
        refine x_goes (x_runV (As := [.int (2000 : Int32)]) (rest := []) F hP hS (c_X12_days l D cT lo w ad (2000 : Int32) w_143 hc_143) cw_X12_days lk_X12_434 vi_X12_days k_63 (n2 (hP.al 63 rfl)) rfl ⟨rfl, rfl, Nat.le_of_ble_eq_true rfl, Nat.le_of_ble_eq_true rfl⟩ hl.1 rfl (Nat.le_of_ble_eq_true rfl) dX12_digest_143 ⟨Nat.zero_le _, Nat.zero_le _⟩) hS (fun H locs hP hS hm => ?_)
        have hM_w := hm
        refine lv_iconst (v := 0) hx hb dX12_digest_146 ic_0 ?_
        refine lv_istore_n (lv' := [(3, .int (0 : Int32)), (1, .long x1_139), (0, .ref (ad 63))]) hx hb dX12_digest_147 rfl hl (Nat.le_of_ble_eq_true rfl) rfl (fun ls hl => ?_)
        refine jn_use (fun (j_176 : Int64 → Option (Int64 × Wd)) => ∀ (x1_176 : Int64), j_176 x1_176 = some (r, w9) → GG p l e { frames := 6, cells := 0, slots := 0, locals := 136 } s m args below meth c 0 0 (MQ below (mQ D cT lo NB w w9 ad (some (.long r))) args s 0 0 (fun q => lo ≤ q)) D cT lo NB 5 ad w_143 176 [(1, .long x1_176), (0, .ref (ad 63))] []) h (fun x1_176 h H locs ls hP hS hl => ?_) (fun j_176 J_176 h => ?_)
        · refine lv_aload_n hx hb dX12_digest_176 rfl (lv_at hl 1 rfl) ?_
          obtain ⟨w_177, hc_177, h⟩ := bo_s h
          refine x_goes (x_runV (As := []) (rest := []) F hP hS (c_X12_works l D cT lo w_143 ad  w_177 hc_177) cw_X12_works lk_X12_440 vi_X12_works k_63 (n2 (hP.al 63 rfl)) rfl ⟨rfl, rfl, Nat.le_of_ble_eq_true rfl, Nat.le_of_ble_eq_true rfl⟩ hl.1 rfl (Nat.le_of_ble_eq_true rfl) dX12_digest_177 ⟨Nat.zero_le _, Nat.zero_le _⟩) hS (fun H locs hP hS hm => ?_)
          have hM_w := hM_w.trans hm
          refine lv_iconst (v := 0) hx hb dX12_digest_180 ic_0 ?_
          refine lv_istore_n (lv' := [(3, .int (0 : Int32)), (1, .long x1_176), (0, .ref (ad 63))]) hx hb dX12_digest_181 rfl hl (Nat.le_of_ble_eq_true rfl) rfl (fun ls hl => ?_)
          refine jn_use (fun (j_210 : Int64 → Option (Int64 × Wd)) => ∀ (x1_210 : Int64), j_210 x1_210 = some (r, w9) → GG p l e { frames := 6, cells := 0, slots := 0, locals := 136 } s m args below meth c 0 0 (MQ below (mQ D cT lo NB w w9 ad (some (.long r))) args s 0 0 (fun q => lo ≤ q)) D cT lo NB 5 ad w_177 210 [(1, .long x1_210), (0, .ref (ad 63))] []) h (fun x1_210 h H locs ls hP hS hl => ?_) (fun j_210 J_210 h => ?_)
          · refine lv_ldc2 F.1 F.2.1 F.2.2.1 (F.2.2.2.1 _ ct_X12_485) dX12_digest_210 ?_
            refine lv_lload_n hx hb dX12_digest_213 rfl (lv_at hl 0 rfl) ?_
            refine lv_lmul hx hb dX12_digest_214 ?_
            refine lv_aload_n hx hb dX12_digest_215 rfl (lv_at hl 1 rfl) ?_
            obtain ⟨v_216, w_216, hc_216, h⟩ := bi_s h
            refine x_goes (x_runV (As := []) (rest := [.long ((31 : Int64) * x1_210)]) F hP hS (c_X12_rosterOrNot l D cT lo w_177 ad  v_216 w_216 hc_216) cw_X12_rosterOrNot lk_X12_417 vi_X12_rosterOrNot k_63 (n2 (hP.al 63 rfl)) rfl ⟨rfl, rfl, Nat.le_of_ble_eq_true rfl, Nat.le_of_ble_eq_true rfl⟩ hl.1 rfl (Nat.le_of_ble_eq_true rfl) dX12_digest_216 ⟨Nat.zero_le _, Nat.zero_le _⟩) hS (fun H locs hP hS hm => ?_)
            have hM_w := hM_w.trans hm
            refine lv_i2l hx hb dX12_digest_219 rfl ?_
            refine lv_ladd hx hb dX12_digest_220 ?_
            exact y_lretM h F hr hP hS hM_w hlk dX12_digest_221
          · have L_182 : ∀ (n_182 : Nat) (x3_182l : Int32) (x1_182l : Int64), l_X12_digest_182 w_177 j_210 n_182 x3_182l x1_182l = some (r, w9) → GG p l e { frames := 6, cells := 0, slots := 0, locals := 136 } s m args below meth c 0 0 (MQ below (mQ D cT lo NB w w9 ad (some (.long r))) args s 0 0 (fun q => lo ≤ q)) D cT lo NB 5 ad w_177 182 [(3, .int x3_182l), (1, .long x1_182l), (0, .ref (ad 63))] [] := by
              intro n_182
              induction n_182 with
              | zero =>
                intro x3_182l x1_182l h
                exact absurd h (by unfold l_X12_digest_182; exact fun z => by cases z)
              | succ n_182 ih_182 =>
                intro x3_182l x1_182l h H locs ls hP hS hl
                unfold l_X12_digest_182 at h
                refine lv_iload_n hx hb dX12_digest_182 rfl (lv_at hl 0 rfl) ?_
                refine lv_aload_n hx hb dX12_digest_183 rfl (lv_at hl 2 rfl) ?_
                refine y_geti h F hP k_63 (n2 (hP.al 63 rfl)) fl_X12_437 rfl dX12_digest_184 (fun v_184 h => ?_)
                refine lv_icmp_ge (tgt := 210) hx hb dX12_digest_187 (by decide) (fun hc => ?_) (fun hc => ?_)
                · have h := if_t _ hc h
                  exact J_210 x1_182l h _ _ _ hP hS (lv_sub hl [1, 2] rfl)
                · have h := if_f _ hc h
                  refine lv_ldc2 F.1 F.2.1 F.2.2.1 (F.2.2.2.1 _ ct_X12_485) dX12_digest_190 ?_
                  refine lv_lload_n hx hb dX12_digest_193 rfl (lv_at hl 1 rfl) ?_
                  refine lv_lmul hx hb dX12_digest_194 ?_
                  refine lv_aload_n hx hb dX12_digest_195 rfl (lv_at hl 2 rfl) ?_
                  refine x_getr F hP k_63 (hP.al 63 rfl) fl_X12_183 rfl r_63_71 dX12_digest_196 ?_
                  refine lv_iload_n hx hb dX12_digest_199 rfl (lv_at hl 0 rfl) ?_
                  refine y_iald h F hP k_116 (n2 (hP.al 116 rfl)) dX12_digest_200 (fun v_200 h => ?_)
                  refine lv_i2l hx hb dX12_digest_201 rfl ?_
                  refine lv_ladd hx hb dX12_digest_202 ?_
                  refine y_letl h (fun v_203 h => ?_)
                  refine lv_lstore_n (lv' := [(1, .long v_203), (3, .int x3_182l), (0, .ref (ad 63))]) hx hb dX12_digest_203 rfl hl (Nat.le_of_ble_eq_true rfl) rfl (fun ls hl => ?_)
                  refine y_iinc (lv' := fun (v_204 : Int32) => [(3, .int v_204), (1, .long v_203), (0, .ref (ad 63))]) h F ic_1 dX12_digest_204 hl (kq := 1) rfl (Nat.le_of_ble_eq_true rfl) (fun _ => rfl) (fun v_204 ls hl h => ?_)
                  refine lv_goto (tgt := 182) hx hb dX12_digest_207 (by decide) ?_
                  exact ih_182 v_204 v_203 h _ _ _ hP hS (lv_sub hl [0, 1, 2] rfl)
            exact L_182 FU (0 : Int32) x1_176 h _ _ _ hP hS (lv_sub hl [0, 1, 2] rfl)
        · have L_148 : ∀ (n_148 : Nat) (x3_148l : Int32) (x1_148l : Int64), l_X12_digest_148 w_143 j_176 n_148 x3_148l x1_148l = some (r, w9) → GG p l e { frames := 6, cells := 0, slots := 0, locals := 136 } s m args below meth c 0 0 (MQ below (mQ D cT lo NB w w9 ad (some (.long r))) args s 0 0 (fun q => lo ≤ q)) D cT lo NB 5 ad w_143 148 [(3, .int x3_148l), (1, .long x1_148l), (0, .ref (ad 63))] [] := by
            intro n_148
            induction n_148 with
            | zero =>
              intro x3_148l x1_148l h
              exact absurd h (by unfold l_X12_digest_148; exact fun z => by cases z)
            | succ n_148 ih_148 =>
              intro x3_148l x1_148l h H locs ls hP hS hl
              unfold l_X12_digest_148 at h
              refine lv_iload_n hx hb dX12_digest_148 rfl (lv_at hl 0 rfl) ?_
              refine lv_aload_n hx hb dX12_digest_149 rfl (lv_at hl 2 rfl) ?_
              refine y_geti h F hP k_63 (n2 (hP.al 63 rfl)) fl_X12_420 rfl dX12_digest_150 (fun v_150 h => ?_)
              refine lv_icmp_ge (tgt := 176) hx hb dX12_digest_153 (by decide) (fun hc => ?_) (fun hc => ?_)
              · have h := if_t _ hc h
                exact J_176 x1_148l h _ _ _ hP hS (lv_sub hl [1, 2] rfl)
              · have h := if_f _ hc h
                refine lv_ldc2 F.1 F.2.1 F.2.2.1 (F.2.2.2.1 _ ct_X12_485) dX12_digest_156 ?_
                refine lv_lload_n hx hb dX12_digest_159 rfl (lv_at hl 1 rfl) ?_
                refine lv_lmul hx hb dX12_digest_160 ?_
                refine lv_aload_n hx hb dX12_digest_161 rfl (lv_at hl 2 rfl) ?_
                refine x_getr F hP k_63 (hP.al 63 rfl) fl_X12_174 rfl r_63_67 dX12_digest_162 ?_
                refine lv_iload_n hx hb dX12_digest_165 rfl (lv_at hl 0 rfl) ?_
                refine y_iald h F hP k_113 (n2 (hP.al 113 rfl)) dX12_digest_166 (fun v_166 h => ?_)
                refine lv_i2l hx hb dX12_digest_167 rfl ?_
                refine lv_ladd hx hb dX12_digest_168 ?_
                refine y_letl h (fun v_169 h => ?_)
                refine lv_lstore_n (lv' := [(1, .long v_169), (3, .int x3_148l), (0, .ref (ad 63))]) hx hb dX12_digest_169 rfl hl (Nat.le_of_ble_eq_true rfl) rfl (fun ls hl => ?_)
                refine y_iinc (lv' := fun (v_170 : Int32) => [(3, .int v_170), (1, .long v_169), (0, .ref (ad 63))]) h F ic_1 dX12_digest_170 hl (kq := 1) rfl (Nat.le_of_ble_eq_true rfl) (fun _ => rfl) (fun v_170 ls hl h => ?_)
                refine lv_goto (tgt := 148) hx hb dX12_digest_173 (by decide) ?_
                exact ih_148 v_170 v_169 h _ _ _ hP hS (lv_sub hl [0, 1, 2] rfl)
          exact L_148 FU (0 : Int32) x1_139 h _ _ _ hP hS (lv_sub hl [0, 1, 2] rfl)
      · have L_90 : ∀ (n_90 : Nat) (x3_90l : Int32) (x1_90l : Int64), l_X12_digest_90 w j_139 n_90 x3_90l x1_90l = some (r, w9) → GG p l e { frames := 6, cells := 0, slots := 0, locals := 136 } s m args below meth c 0 0 (MQ below (mQ D cT lo NB w w9 ad (some (.long r))) args s 0 0 (fun q => lo ≤ q)) D cT lo NB 5 ad w 90 [(3, .int x3_90l), (1, .long x1_90l), (0, .ref (ad 63))] [] := by
          intro n_90
          induction n_90 with
          | zero =>
            intro x3_90l x1_90l h
            exact absurd h (by unfold l_X12_digest_90; exact fun z => by cases z)
          | succ n_90 ih_90 =>
            intro x3_90l x1_90l h H locs ls hP hS hl
            unfold l_X12_digest_90 at h
            refine lv_iload_n hx hb dX12_digest_90 rfl (lv_at hl 0 rfl) ?_
            refine lv_aload_n hx hb dX12_digest_91 rfl (lv_at hl 2 rfl) ?_
            refine y_geti h F hP k_63 (n2 (hP.al 63 rfl)) fl_X12_254 rfl dX12_digest_92 (fun v_92 h => ?_)
            refine lv_icmp_ge (tgt := 139) hx hb dX12_digest_95 (by decide) (fun hc => ?_) (fun hc => ?_)
            · have h := if_t _ hc h
              exact J_139 x1_90l h _ _ _ hP hS (lv_sub hl [1, 2] rfl)
            · have h := if_f _ hc h
              refine lv_aload_n hx hb dX12_digest_98 rfl (lv_at hl 2 rfl) ?_
              refine x_getr F hP k_63 (hP.al 63 rfl) fl_X12_71 rfl r_63_25 dX12_digest_99 ?_
              refine lv_iload_n hx hb dX12_digest_102 rfl (lv_at hl 0 rfl) ?_
              refine y_zald h F hP k_84 (n2 (hP.al 84 rfl)) dX12_digest_103 (fun v_103 h => ?_)
              refine jn_use (fun (j_133 : Int64 → Option (Int64 × Wd)) => ∀ (x1_133 : Int64), j_133 x1_133 = some (r, w9) → GG p l e { frames := 6, cells := 0, slots := 0, locals := 136 } s m args below meth c 0 0 (MQ below (mQ D cT lo NB w w9 ad (some (.long r))) args s 0 0 (fun q => lo ≤ q)) D cT lo NB 5 ad w 133 [(3, .int x3_90l), (1, .long x1_133), (0, .ref (ad 63))] []) h (fun x1_133 h H locs ls hP hS hl => ?_) (fun j_133 J_133 h => ?_)
              · refine y_iinc (lv' := fun (v_133 : Int32) => [(3, .int v_133), (1, .long x1_133), (0, .ref (ad 63))]) h F ic_1 dX12_digest_133 hl (kq := 0) rfl (Nat.le_of_ble_eq_true rfl) (fun _ => rfl) (fun v_133 ls hl h => ?_)
                refine lv_goto (tgt := 90) hx hb dX12_digest_136 (by decide) ?_
                exact ih_90 v_133 x1_133 h _ _ _ hP hS (lv_sub hl [0, 1, 2] rfl)
              · refine lv_if_eq (tgt := 133) hx hb dX12_digest_104 (by decide) (fun hc => ?_) (fun hc => ?_)
                · have h := if_t _ hc h
                  exact J_133 x1_90l h _ _ _ hP hS (lv_sub hl [0, 1, 2] rfl)
                · have h := if_f _ hc h
                  refine lv_ldc2 F.1 F.2.1 F.2.2.1 (F.2.2.2.1 _ ct_X12_485) dX12_digest_107 ?_
                  refine lv_lload_n hx hb dX12_digest_110 rfl (lv_at hl 1 rfl) ?_
                  refine lv_lmul hx hb dX12_digest_111 ?_
                  refine lv_aload_n hx hb dX12_digest_112 rfl (lv_at hl 2 rfl) ?_
                  refine lv_iload_n hx hb dX12_digest_113 rfl (lv_at hl 0 rfl) ?_
                  obtain ⟨v_114, hc_114, h⟩ := bo_s h
                  refine x_goes (x_runV (As := [.int x3_90l]) (rest := [.long ((31 : Int64) * x1_90l)]) F hP hS (c_X12_pullOf l D cT lo w ad x3_90l v_114 hc_114) cw_X12_pullOf lk_X12_382 vi_X12_pullOf k_63 (n2 (hP.al 63 rfl)) rfl ⟨rfl, rfl, Nat.le_of_ble_eq_true rfl, Nat.le_of_ble_eq_true rfl⟩ hl.1 rfl (Nat.le_of_ble_eq_true rfl) dX12_digest_114 ⟨Nat.zero_le _, Nat.zero_le _⟩) hS (fun H locs hP hS _ => ?_)
                  refine lv_i2l hx hb dX12_digest_117 rfl ?_
                  refine lv_ladd hx hb dX12_digest_118 ?_
                  refine y_letl h (fun v_119 h => ?_)
                  refine lv_lstore_n (lv' := [(1, .long v_119), (3, .int x3_90l), (0, .ref (ad 63))]) hx hb dX12_digest_119 rfl hl (Nat.le_of_ble_eq_true rfl) rfl (fun ls hl => ?_)
                  refine lv_ldc2 F.1 F.2.1 F.2.2.1 (F.2.2.2.1 _ ct_X12_485) dX12_digest_120 ?_
                  refine lv_lload_n hx hb dX12_digest_123 rfl (lv_at hl 0 rfl) ?_
                  refine lv_lmul hx hb dX12_digest_124 ?_
                  refine lv_aload_n hx hb dX12_digest_125 rfl (lv_at hl 2 rfl) ?_
                  refine lv_iload_n hx hb dX12_digest_126 rfl (lv_at hl 1 rfl) ?_
                  obtain ⟨v_127, hc_127, h⟩ := bo_s h
                  refine x_goes (x_runV (As := [.int x3_90l]) (rest := [.long ((31 : Int64) * v_119)]) F hP hS (c_X12_needOf l D cT lo w ad x3_90l v_127 hc_127) cw_X12_needOf lk_X12_393 vi_X12_needOf k_63 (n2 (hP.al 63 rfl)) rfl ⟨rfl, rfl, Nat.le_of_ble_eq_true rfl, Nat.le_of_ble_eq_true rfl⟩ hl.1 rfl (Nat.le_of_ble_eq_true rfl) dX12_digest_127 ⟨Nat.zero_le _, Nat.zero_le _⟩) hS (fun H locs hP hS _ => ?_)
                  refine lv_i2l hx hb dX12_digest_130 rfl ?_
                  refine lv_ladd hx hb dX12_digest_131 ?_
                  refine y_letl h (fun v_132 h => ?_)
                  refine lv_lstore_n (lv' := [(1, .long v_132), (3, .int x3_90l), (0, .ref (ad 63))]) hx hb dX12_digest_132 rfl hl (Nat.le_of_ble_eq_true rfl) rfl (fun ls hl => ?_)
                  exact J_133 v_132 h _ _ _ hP hS (lv_sub hl [1, 0, 2] rfl)
        exact L_90 FU (0 : Int32) x1_88 h _ _ _ hP hS (lv_sub hl [0, 1, 2] rfl)
    · have L_43 : ∀ (n_43 : Nat) (x3_43l : Int32) (x1_43l : Int64), l_X12_digest_43 w j_88 n_43 x3_43l x1_43l = some (r, w9) → GG p l e { frames := 6, cells := 0, slots := 0, locals := 136 } s m args below meth c 0 0 (MQ below (mQ D cT lo NB w w9 ad (some (.long r))) args s 0 0 (fun q => lo ≤ q)) D cT lo NB 5 ad w 43 [(3, .int x3_43l), (1, .long x1_43l), (0, .ref (ad 63))] [] := by
        intro n_43
        induction n_43 with
        | zero =>
          intro x3_43l x1_43l h
          exact absurd h (by unfold l_X12_digest_43; exact fun z => by cases z)
        | succ n_43 ih_43 =>
          intro x3_43l x1_43l h H locs ls hP hS hl
          unfold l_X12_digest_43 at h
          refine lv_iload_n hx hb dX12_digest_43 rfl (lv_at hl 0 rfl) ?_
          refine lv_aload_n hx hb dX12_digest_44 rfl (lv_at hl 2 rfl) ?_
          refine y_geti h F hP k_63 (n2 (hP.al 63 rfl)) fl_X12_254 rfl dX12_digest_45 (fun v_45 h => ?_)
          refine lv_icmp_ge (tgt := 88) hx hb dX12_digest_48 (by decide) (fun hc => ?_) (fun hc => ?_)
          · have h := if_t _ hc h
            exact J_88 x1_43l h _ _ _ hP hS (lv_sub hl [1, 2] rfl)
          · have h := if_f _ hc h
            refine lv_iconst (v := 0) hx hb dX12_digest_51 ic_0 ?_
            refine lv_istore (lv' := [(4, .int (0 : Int32)), (3, .int x3_43l), (1, .long x1_43l), (0, .ref (ad 63))]) hx hb dX12_digest_52 hl (Nat.le_of_ble_eq_true rfl) rfl (fun ls hl => ?_)
            refine jn_use (fun (j_82 : Int64 → Option (Int64 × Wd)) => ∀ (x1_82 : Int64), j_82 x1_82 = some (r, w9) → GG p l e { frames := 6, cells := 0, slots := 0, locals := 136 } s m args below meth c 0 0 (MQ below (mQ D cT lo NB w w9 ad (some (.long r))) args s 0 0 (fun q => lo ≤ q)) D cT lo NB 5 ad w 82 [(3, .int x3_43l), (1, .long x1_82), (0, .ref (ad 63))] []) h (fun x1_82 h H locs ls hP hS hl => ?_) (fun j_82 J_82 h => ?_)
            · refine y_iinc (lv' := fun (v_82 : Int32) => [(3, .int v_82), (1, .long x1_82), (0, .ref (ad 63))]) h F ic_1 dX12_digest_82 hl (kq := 0) rfl (Nat.le_of_ble_eq_true rfl) (fun _ => rfl) (fun v_82 ls hl h => ?_)
              refine lv_goto (tgt := 43) hx hb dX12_digest_85 (by decide) ?_
              exact ih_43 v_82 x1_82 h _ _ _ hP hS (lv_sub hl [0, 1, 2] rfl)
            · have L_54 : ∀ (n_54 : Nat) (x4_54l : Int32) (x1_54l : Int64), l_X12_digest_54 w x3_43l j_82 n_54 x4_54l x1_54l = some (r, w9) → GG p l e { frames := 6, cells := 0, slots := 0, locals := 136 } s m args below meth c 0 0 (MQ below (mQ D cT lo NB w w9 ad (some (.long r))) args s 0 0 (fun q => lo ≤ q)) D cT lo NB 5 ad w 54 [(4, .int x4_54l), (3, .int x3_43l), (1, .long x1_54l), (0, .ref (ad 63))] [] := by
                intro n_54
                induction n_54 with
                | zero =>
                  intro x4_54l x1_54l h
                  exact absurd h (by unfold l_X12_digest_54; exact fun z => by cases z)
                | succ n_54 ih_54 =>
                  intro x4_54l x1_54l h H locs ls hP hS hl
                  unfold l_X12_digest_54 at h
                  refine lv_iload hx hb dX12_digest_54 (lv_at hl 0 rfl) ?_
                  refine lv_bipush (v := 10) hx hb dX12_digest_56 ib_10 ?_
                  refine lv_icmp_ge (tgt := 82) hx hb dX12_digest_58 (by decide) (fun hc => ?_) (fun hc => ?_)
                  · have h := if_t _ hc h
                    exact J_82 x1_54l h _ _ _ hP hS (lv_sub hl [1, 2, 3] rfl)
                  · have h := if_f _ hc h
                    refine lv_ldc2 F.1 F.2.1 F.2.2.1 (F.2.2.2.1 _ ct_X12_485) dX12_digest_61 ?_
                    refine lv_lload_n hx hb dX12_digest_64 rfl (lv_at hl 2 rfl) ?_
                    refine lv_lmul hx hb dX12_digest_65 ?_
                    refine lv_aload_n hx hb dX12_digest_66 rfl (lv_at hl 3 rfl) ?_
                    refine lv_iload_n hx hb dX12_digest_67 rfl (lv_at hl 1 rfl) ?_
                    refine lv_iload hx hb dX12_digest_68 (lv_at hl 0 rfl) ?_
                    obtain ⟨v_70, hc_70, h⟩ := bo_s h
                    refine x_goes (x_runV (As := [.int x3_43l, .int x4_54l]) (rest := [.long ((31 : Int64) * x1_54l)]) F hP hS (c_X12_aboutOf l D cT lo w ad x3_43l x4_54l v_70 hc_70) cw_X12_aboutOf lk_X12_330 vi_X12_aboutOf k_63 (n2 (hP.al 63 rfl)) rfl ⟨rfl, rfl, Nat.le_of_ble_eq_true rfl, Nat.le_of_ble_eq_true rfl⟩ hl.1 rfl (Nat.le_of_ble_eq_true rfl) dX12_digest_70 ⟨Nat.zero_le _, Nat.zero_le _⟩) hS (fun H locs hP hS _ => ?_)
                    refine lv_i2l hx hb dX12_digest_73 rfl ?_
                    refine lv_ladd hx hb dX12_digest_74 ?_
                    refine y_letl h (fun v_75 h => ?_)
                    refine lv_lstore_n (lv' := [(1, .long v_75), (4, .int x4_54l), (3, .int x3_43l), (0, .ref (ad 63))]) hx hb dX12_digest_75 rfl hl (Nat.le_of_ble_eq_true rfl) rfl (fun ls hl => ?_)
                    refine y_iinc (lv' := fun (v_76 : Int32) => [(4, .int v_76), (1, .long v_75), (3, .int x3_43l), (0, .ref (ad 63))]) h F ic_1 dX12_digest_76 hl (kq := 1) rfl (Nat.le_of_ble_eq_true rfl) (fun _ => rfl) (fun v_76 ls hl h => ?_)
                    refine lv_goto (tgt := 54) hx hb dX12_digest_79 (by decide) ?_
                    exact ih_54 v_76 v_75 h _ _ _ hP hS (lv_sub hl [0, 2, 1, 3] rfl)
              exact L_54 FU (0 : Int32) x1_43l h _ _ _ hP hS (lv_sub hl [0, 1, 2, 3] rfl)
      exact L_43 FU (0 : Int32) x1_41 h _ _ _ hP hS (lv_sub hl [0, 1, 2] rfl)
  · have L_6 : ∀ (n_6 : Nat) (x3_6l : Int32) (x1_6l : Int64), l_X12_digest_6 w j_41 n_6 x3_6l x1_6l = some (r, w9) → GG p l e { frames := 6, cells := 0, slots := 0, locals := 136 } s m args below meth c 0 0 (MQ below (mQ D cT lo NB w w9 ad (some (.long r))) args s 0 0 (fun q => lo ≤ q)) D cT lo NB 5 ad w 6 [(3, .int x3_6l), (1, .long x1_6l), (0, .ref (ad 63))] [] := by
      intro n_6
      induction n_6 with
      | zero =>
        intro x3_6l x1_6l h
        exact absurd h (by unfold l_X12_digest_6; exact fun z => by cases z)
      | succ n_6 ih_6 =>
        intro x3_6l x1_6l h H locs ls hP hS hl
        unfold l_X12_digest_6 at h
        refine lv_iload_n hx hb dX12_digest_6 rfl (lv_at hl 0 rfl) ?_
        refine lv_bipush (v := 13) hx hb dX12_digest_7 ib_13 ?_
        refine lv_icmp_ge (tgt := 41) hx hb dX12_digest_9 (by decide) (fun hc => ?_) (fun hc => ?_)
        · have h := if_t _ hc h
          exact J_41 x1_6l h _ _ _ hP hS (lv_sub hl [1, 2] rfl)
        · have h := if_f _ hc h
          refine lv_iload_n hx hb dX12_digest_12 rfl (lv_at hl 0 rfl) ?_
          refine lv_bipush (v := 9) hx hb dX12_digest_13 ib_9 ?_
          refine jn_use (fun (j_34 : Int64 → Option (Int64 × Wd)) => ∀ (s0_34 : Int64), j_34 s0_34 = some (r, w9) → GG p l e { frames := 6, cells := 0, slots := 0, locals := 136 } s m args below meth c 0 0 (MQ below (mQ D cT lo NB w w9 ad (some (.long r))) args s 0 0 (fun q => lo ≤ q)) D cT lo NB 5 ad w 34 [(3, .int x3_6l), (0, .ref (ad 63))] [.long s0_34]) h (fun s0_34 h H locs ls hP hS hl => ?_) (fun j_34 J_34 h => ?_)
          · refine lv_lstore_n (lv' := [(1, .long s0_34), (3, .int x3_6l), (0, .ref (ad 63))]) hx hb dX12_digest_34 rfl hl (Nat.le_of_ble_eq_true rfl) rfl (fun ls hl => ?_)
            refine y_iinc (lv' := fun (v_35 : Int32) => [(3, .int v_35), (1, .long s0_34), (0, .ref (ad 63))]) h F ic_1 dX12_digest_35 hl (kq := 1) rfl (Nat.le_of_ble_eq_true rfl) (fun _ => rfl) (fun v_35 ls hl h => ?_)
            refine lv_goto (tgt := 6) hx hb dX12_digest_38 (by decide) ?_
            exact ih_6 v_35 s0_34 h _ _ _ hP hS (lv_sub hl [0, 1, 2] rfl)
          · refine lv_icmp_ne (tgt := 22) hx hb dX12_digest_15 (by decide) (fun hc => ?_) (fun hc => ?_)
            · have h := if_f _ hc h
              refine lv_ldc2 F.1 F.2.1 F.2.2.1 (F.2.2.2.1 _ ct_X12_485) dX12_digest_22 ?_
              refine lv_lload_n hx hb dX12_digest_25 rfl (lv_at hl 1 rfl) ?_
              refine lv_lmul hx hb dX12_digest_26 ?_
              refine lv_aload_n hx hb dX12_digest_27 rfl (lv_at hl 2 rfl) ?_
              refine lv_iload_n hx hb dX12_digest_28 rfl (lv_at hl 0 rfl) ?_
              obtain ⟨v_29, hc_29, h⟩ := bo_s h
              refine x_goes (x_runV (As := [.int x3_6l]) (rest := [.long ((31 : Int64) * x1_6l)]) F hP hS (c_X12_count l D cT lo w ad x3_6l v_29 hc_29) cw_X12_count lk_X12_487 vi_X12_count k_63 (n2 (hP.al 63 rfl)) rfl ⟨rfl, rfl, Nat.le_of_ble_eq_true rfl, Nat.le_of_ble_eq_true rfl⟩ hl.1 rfl (Nat.le_of_ble_eq_true rfl) dX12_digest_29 ⟨Nat.zero_le _, Nat.zero_le _⟩) hS (fun H locs hP hS _ => ?_)
              refine lv_i2l hx hb dX12_digest_32 rfl ?_
              refine lv_ladd hx hb dX12_digest_33 ?_
              exact J_34 (((31 : Int64) * x1_6l) + v_29.toInt64) h _ _ _ hP hS (lv_sub hl [0, 2] rfl)
            · have h := if_t _ hc h
              refine lv_lload_n hx hb dX12_digest_18 rfl (lv_at hl 1 rfl) ?_
              refine lv_goto (tgt := 34) hx hb dX12_digest_19 (by decide) ?_
              exact J_34 x1_6l h _ _ _ hP hS (lv_sub hl [0, 2] rfl)
    exact L_6 FU (0 : Int32) (17 : Int64) h _ _ _ hP hS (lv_sub hl [0, 1, 2] rfl)
