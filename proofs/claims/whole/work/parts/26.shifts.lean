theorem dX7_addTeam_0 : decode cX7_addTeam 0 = .ok (.iload_n 1, 1) := by decide +kernel
theorem dX7_addTeam_1 : decode cX7_addTeam 1 = .ok (.iconst 1, 1) := by decide +kernel
theorem dX7_addTeam_2 : decode cX7_addTeam 2 = .ok (.sipush 300, 3) := by decide +kernel
theorem dX7_addTeam_5 : decode cX7_addTeam 5 = .ok (.invokestatic 30, 3) := by decide +kernel
theorem dX7_addTeam_8 : decode cX7_addTeam 8 = .ok (.ifCond .ne 6, 3) := by decide +kernel
theorem dX7_addTeam_11 : decode cX7_addTeam 11 = .ok (.bipush (-2), 2) := by decide +kernel
theorem dX7_addTeam_13 : decode cX7_addTeam 13 = .ok (.ireturn, 1) := by decide +kernel
theorem dX7_addTeam_14 : decode cX7_addTeam 14 = .ok (.aload_n 0, 1) := by decide +kernel
theorem dX7_addTeam_15 : decode cX7_addTeam 15 = .ok (.getfield 34, 3) := by decide +kernel
theorem dX7_addTeam_18 : decode cX7_addTeam 18 = .ok (.iconst 4, 1) := by decide +kernel
theorem dX7_addTeam_19 : decode cX7_addTeam 19 = .ok (.if_icmp .lt 6, 3) := by decide +kernel
theorem dX7_addTeam_22 : decode cX7_addTeam 22 = .ok (.bipush (-4), 2) := by decide +kernel
theorem dX7_addTeam_24 : decode cX7_addTeam 24 = .ok (.ireturn, 1) := by decide +kernel
theorem dX7_addTeam_25 : decode cX7_addTeam 25 = .ok (.aload_n 0, 1) := by decide +kernel
theorem dX7_addTeam_26 : decode cX7_addTeam 26 = .ok (.iconst 0, 1) := by decide +kernel
theorem dX7_addTeam_27 : decode cX7_addTeam 27 = .ok (.putfield 37, 3) := by decide +kernel
theorem dX7_addTeam_30 : decode cX7_addTeam 30 = .ok (.aload_n 0, 1) := by decide +kernel
theorem dX7_addTeam_31 : decode cX7_addTeam 31 = .ok (.getfield 11, 3) := by decide +kernel
theorem dX7_addTeam_34 : decode cX7_addTeam 34 = .ok (.aload_n 0, 1) := by decide +kernel
theorem dX7_addTeam_35 : decode cX7_addTeam 35 = .ok (.getfield 34, 3) := by decide +kernel
theorem dX7_addTeam_38 : decode cX7_addTeam 38 = .ok (.iload_n 1, 1) := by decide +kernel
theorem dX7_addTeam_39 : decode cX7_addTeam 39 = .ok (.iastore, 1) := by decide +kernel
theorem dX7_addTeam_40 : decode cX7_addTeam 40 = .ok (.aload_n 0, 1) := by decide +kernel
theorem dX7_addTeam_41 : decode cX7_addTeam 41 = .ok (.dup, 1) := by decide +kernel
theorem dX7_addTeam_42 : decode cX7_addTeam 42 = .ok (.getfield 34, 3) := by decide +kernel
theorem dX7_addTeam_45 : decode cX7_addTeam 45 = .ok (.dup_x1, 1) := by decide +kernel
theorem dX7_addTeam_46 : decode cX7_addTeam 46 = .ok (.iconst 1, 1) := by decide +kernel
theorem dX7_addTeam_47 : decode cX7_addTeam 47 = .ok (.iadd, 1) := by decide +kernel
theorem dX7_addTeam_48 : decode cX7_addTeam 48 = .ok (.putfield 34, 3) := by decide +kernel
theorem dX7_addTeam_51 : decode cX7_addTeam 51 = .ok (.ireturn, 1) := by decide +kernel
theorem dX7_addStage_0 : decode cX7_addStage 0 = .ok (.iload_n 1, 1) := by decide +kernel
theorem dX7_addStage_1 : decode cX7_addStage 1 = .ok (.iconst 0, 1) := by decide +kernel
theorem dX7_addStage_2 : decode cX7_addStage 2 = .ok (.sipush 2000, 3) := by decide +kernel
theorem dX7_addStage_5 : decode cX7_addStage 5 = .ok (.invokestatic 30, 3) := by decide +kernel
theorem dX7_addStage_8 : decode cX7_addStage 8 = .ok (.ifCond .ne 6, 3) := by decide +kernel
theorem dX7_addStage_11 : decode cX7_addStage 11 = .ok (.bipush (-2), 2) := by decide +kernel
theorem dX7_addStage_13 : decode cX7_addStage 13 = .ok (.ireturn, 1) := by decide +kernel
theorem dX7_addStage_14 : decode cX7_addStage 14 = .ok (.aload_n 0, 1) := by decide +kernel
theorem dX7_addStage_15 : decode cX7_addStage 15 = .ok (.getfield 41, 3) := by decide +kernel
theorem dX7_addStage_18 : decode cX7_addStage 18 = .ok (.bipush 6, 2) := by decide +kernel
theorem dX7_addStage_20 : decode cX7_addStage 20 = .ok (.if_icmp .lt 6, 3) := by decide +kernel
theorem dX7_addStage_23 : decode cX7_addStage 23 = .ok (.bipush (-4), 2) := by decide +kernel
theorem dX7_addStage_25 : decode cX7_addStage 25 = .ok (.ireturn, 1) := by decide +kernel
theorem dX7_addStage_26 : decode cX7_addStage 26 = .ok (.aload_n 0, 1) := by decide +kernel
theorem dX7_addStage_27 : decode cX7_addStage 27 = .ok (.iconst 0, 1) := by decide +kernel
theorem dX7_addStage_28 : decode cX7_addStage 28 = .ok (.putfield 37, 3) := by decide +kernel
theorem dX7_addStage_31 : decode cX7_addStage 31 = .ok (.aload_n 0, 1) := by decide +kernel
theorem dX7_addStage_32 : decode cX7_addStage 32 = .ok (.getfield 15, 3) := by decide +kernel
theorem dX7_addStage_35 : decode cX7_addStage 35 = .ok (.aload_n 0, 1) := by decide +kernel
theorem dX7_addStage_36 : decode cX7_addStage 36 = .ok (.getfield 41, 3) := by decide +kernel
theorem dX7_addStage_39 : decode cX7_addStage 39 = .ok (.iload_n 1, 1) := by decide +kernel
theorem dX7_addStage_40 : decode cX7_addStage 40 = .ok (.iastore, 1) := by decide +kernel
theorem dX7_addStage_41 : decode cX7_addStage 41 = .ok (.aload_n 0, 1) := by decide +kernel
theorem dX7_addStage_42 : decode cX7_addStage 42 = .ok (.dup, 1) := by decide +kernel
theorem dX7_addStage_43 : decode cX7_addStage 43 = .ok (.getfield 41, 3) := by decide +kernel
theorem dX7_addStage_46 : decode cX7_addStage 46 = .ok (.dup_x1, 1) := by decide +kernel
theorem dX7_addStage_47 : decode cX7_addStage 47 = .ok (.iconst 1, 1) := by decide +kernel
theorem dX7_addStage_48 : decode cX7_addStage 48 = .ok (.iadd, 1) := by decide +kernel
theorem dX7_addStage_49 : decode cX7_addStage 49 = .ok (.putfield 41, 3) := by decide +kernel
theorem dX7_addStage_52 : decode cX7_addStage 52 = .ok (.ireturn, 1) := by decide +kernel
theorem dX7_tellRun_0 : decode cX7_tellRun 0 = .ok (.iload_n 1, 1) := by decide +kernel
theorem dX7_tellRun_1 : decode cX7_tellRun 1 = .ok (.iconst 1, 1) := by decide +kernel
theorem dX7_tellRun_2 : decode cX7_tellRun 2 = .ok (.iconst 3, 1) := by decide +kernel
theorem dX7_tellRun_3 : decode cX7_tellRun 3 = .ok (.invokestatic 30, 3) := by decide +kernel
theorem dX7_tellRun_6 : decode cX7_tellRun 6 = .ok (.ifCond .ne 6, 3) := by decide +kernel
theorem dX7_tellRun_9 : decode cX7_tellRun 9 = .ok (.bipush (-2), 2) := by decide +kernel
theorem dX7_tellRun_11 : decode cX7_tellRun 11 = .ok (.ireturn, 1) := by decide +kernel
theorem dX7_tellRun_12 : decode cX7_tellRun 12 = .ok (.aload_n 0, 1) := by decide +kernel
theorem dX7_tellRun_13 : decode cX7_tellRun 13 = .ok (.iconst 0, 1) := by decide +kernel
theorem dX7_tellRun_14 : decode cX7_tellRun 14 = .ok (.putfield 37, 3) := by decide +kernel
theorem dX7_tellRun_17 : decode cX7_tellRun 17 = .ok (.aload_n 0, 1) := by decide +kernel
theorem dX7_tellRun_18 : decode cX7_tellRun 18 = .ok (.getfield 18, 3) := by decide +kernel
theorem dX7_tellRun_21 : decode cX7_tellRun 21 = .ok (.istore_n 2, 1) := by decide +kernel
theorem dX7_tellRun_22 : decode cX7_tellRun 22 = .ok (.aload_n 0, 1) := by decide +kernel
theorem dX7_tellRun_23 : decode cX7_tellRun 23 = .ok (.iload_n 1, 1) := by decide +kernel
theorem dX7_tellRun_24 : decode cX7_tellRun 24 = .ok (.putfield 18, 3) := by decide +kernel
theorem dX7_tellRun_27 : decode cX7_tellRun 27 = .ok (.iload_n 2, 1) := by decide +kernel
theorem dX7_tellRun_28 : decode cX7_tellRun 28 = .ok (.ireturn, 1) := by decide +kernel
theorem dX7_stateBehind_0 : decode cX7_stateBehind 0 = .ok (.iconst 0, 1) := by decide +kernel
theorem dX7_stateBehind_1 : decode cX7_stateBehind 1 = .ok (.istore_n 3, 1) := by decide +kernel
theorem dX7_stateBehind_2 : decode cX7_stateBehind 2 = .ok (.iconst 0, 1) := by decide +kernel
theorem dX7_stateBehind_3 : decode cX7_stateBehind 3 = .ok (.istore 4, 2) := by decide +kernel
theorem dX7_stateBehind_5 : decode cX7_stateBehind 5 = .ok (.iload 4, 2) := by decide +kernel
theorem dX7_stateBehind_7 : decode cX7_stateBehind 7 = .ok (.aload_n 0, 1) := by decide +kernel
theorem dX7_stateBehind_8 : decode cX7_stateBehind 8 = .ok (.getfield 34, 3) := by decide +kernel
theorem dX7_stateBehind_11 : decode cX7_stateBehind 11 = .ok (.if_icmp .ge 52, 3) := by decide +kernel
theorem dX7_stateBehind_14 : decode cX7_stateBehind 14 = .ok (.iload_n 2, 1) := by decide +kernel
theorem dX7_stateBehind_15 : decode cX7_stateBehind 15 = .ok (.iload 4, 2) := by decide +kernel
theorem dX7_stateBehind_17 : decode cX7_stateBehind 17 = .ok (.ishr, 1) := by decide +kernel
theorem dX7_stateBehind_18 : decode cX7_stateBehind 18 = .ok (.iconst 1, 1) := by decide +kernel
theorem dX7_stateBehind_19 : decode cX7_stateBehind 19 = .ok (.iand, 1) := by decide +kernel
theorem dX7_stateBehind_20 : decode cX7_stateBehind 20 = .ok (.iconst 1, 1) := by decide +kernel
theorem dX7_stateBehind_21 : decode cX7_stateBehind 21 = .ok (.if_icmp .ne 36, 3) := by decide +kernel
theorem dX7_stateBehind_24 : decode cX7_stateBehind 24 = .ok (.iload_n 1, 1) := by decide +kernel
theorem dX7_stateBehind_25 : decode cX7_stateBehind 25 = .ok (.iconst 2, 1) := by decide +kernel
theorem dX7_stateBehind_26 : decode cX7_stateBehind 26 = .ok (.iload 4, 2) := by decide +kernel
theorem dX7_stateBehind_28 : decode cX7_stateBehind 28 = .ok (.imul, 1) := by decide +kernel
theorem dX7_stateBehind_29 : decode cX7_stateBehind 29 = .ok (.ishr, 1) := by decide +kernel
theorem dX7_stateBehind_30 : decode cX7_stateBehind 30 = .ok (.iconst 3, 1) := by decide +kernel
theorem dX7_stateBehind_31 : decode cX7_stateBehind 31 = .ok (.iand, 1) := by decide +kernel
theorem dX7_stateBehind_32 : decode cX7_stateBehind 32 = .ok (.iconst 1, 1) := by decide +kernel
theorem dX7_stateBehind_33 : decode cX7_stateBehind 33 = .ok (.iadd, 1) := by decide +kernel
theorem dX7_stateBehind_34 : decode cX7_stateBehind 34 = .ok (.istore 5, 2) := by decide +kernel
theorem dX7_stateBehind_36 : decode cX7_stateBehind 36 = .ok (.iload 5, 2) := by decide +kernel
theorem dX7_stateBehind_38 : decode cX7_stateBehind 38 = .ok (.aload_n 0, 1) := by decide +kernel
theorem dX7_stateBehind_39 : decode cX7_stateBehind 39 = .ok (.getfield 18, 3) := by decide +kernel
theorem dX7_stateBehind_42 : decode cX7_stateBehind 42 = .ok (.if_icmp .le 5, 3) := by decide +kernel
theorem dX7_stateBehind_45 : decode cX7_stateBehind 45 = .ok (.iconst (-1), 1) := by decide +kernel
theorem dX7_stateBehind_46 : decode cX7_stateBehind 46 = .ok (.ireturn, 1) := by decide +kernel
theorem dX7_stateBehind_47 : decode cX7_stateBehind 47 = .ok (.iload_n 3, 1) := by decide +kernel
theorem dX7_stateBehind_48 : decode cX7_stateBehind 48 = .ok (.iload 5, 2) := by decide +kernel
theorem dX7_stateBehind_50 : decode cX7_stateBehind 50 = .ok (.iconst 2, 1) := by decide +kernel
theorem dX7_stateBehind_51 : decode cX7_stateBehind 51 = .ok (.iload 4, 2) := by decide +kernel
theorem dX7_stateBehind_53 : decode cX7_stateBehind 53 = .ok (.imul, 1) := by decide +kernel
theorem dX7_stateBehind_54 : decode cX7_stateBehind 54 = .ok (.ishl, 1) := by decide +kernel
theorem dX7_stateBehind_55 : decode cX7_stateBehind 55 = .ok (.ior, 1) := by decide +kernel
theorem dX7_stateBehind_56 : decode cX7_stateBehind 56 = .ok (.istore_n 3, 1) := by decide +kernel
theorem dX7_stateBehind_57 : decode cX7_stateBehind 57 = .ok (.iinc 4 1, 3) := by decide +kernel
theorem dX7_stateBehind_60 : decode cX7_stateBehind 60 = .ok (.goto (-55), 3) := by decide +kernel
theorem dX7_stateBehind_63 : decode cX7_stateBehind 63 = .ok (.iload_n 3, 1) := by decide +kernel
theorem dX7_stateBehind_64 : decode cX7_stateBehind 64 = .ok (.ireturn, 1) := by decide +kernel
theorem dX7_handsOf_0 : decode cX7_handsOf 0 = .ok (.iconst 0, 1) := by decide +kernel
theorem dX7_handsOf_1 : decode cX7_handsOf 1 = .ok (.istore_n 2, 1) := by decide +kernel
theorem dX7_handsOf_2 : decode cX7_handsOf 2 = .ok (.iconst 0, 1) := by decide +kernel
theorem dX7_handsOf_3 : decode cX7_handsOf 3 = .ok (.istore_n 3, 1) := by decide +kernel
theorem dX7_handsOf_4 : decode cX7_handsOf 4 = .ok (.iload_n 3, 1) := by decide +kernel
theorem dX7_handsOf_5 : decode cX7_handsOf 5 = .ok (.aload_n 0, 1) := by decide +kernel
theorem dX7_handsOf_6 : decode cX7_handsOf 6 = .ok (.getfield 34, 3) := by decide +kernel
theorem dX7_handsOf_9 : decode cX7_handsOf 9 = .ok (.if_icmp .ge 27, 3) := by decide +kernel
theorem dX7_handsOf_12 : decode cX7_handsOf 12 = .ok (.iload_n 1, 1) := by decide +kernel
theorem dX7_handsOf_13 : decode cX7_handsOf 13 = .ok (.iload_n 3, 1) := by decide +kernel
theorem dX7_handsOf_14 : decode cX7_handsOf 14 = .ok (.ishr, 1) := by decide +kernel
theorem dX7_handsOf_15 : decode cX7_handsOf 15 = .ok (.iconst 1, 1) := by decide +kernel
theorem dX7_handsOf_16 : decode cX7_handsOf 16 = .ok (.iand, 1) := by decide +kernel
theorem dX7_handsOf_17 : decode cX7_handsOf 17 = .ok (.iconst 1, 1) := by decide +kernel
theorem dX7_handsOf_18 : decode cX7_handsOf 18 = .ok (.if_icmp .ne 12, 3) := by decide +kernel
theorem dX7_handsOf_21 : decode cX7_handsOf 21 = .ok (.iload_n 2, 1) := by decide +kernel
theorem dX7_handsOf_22 : decode cX7_handsOf 22 = .ok (.aload_n 0, 1) := by decide +kernel
theorem dX7_handsOf_23 : decode cX7_handsOf 23 = .ok (.getfield 11, 3) := by decide +kernel
theorem dX7_handsOf_26 : decode cX7_handsOf 26 = .ok (.iload_n 3, 1) := by decide +kernel
theorem dX7_handsOf_27 : decode cX7_handsOf 27 = .ok (.iaload, 1) := by decide +kernel
theorem dX7_handsOf_28 : decode cX7_handsOf 28 = .ok (.iadd, 1) := by decide +kernel
theorem dX7_handsOf_29 : decode cX7_handsOf 29 = .ok (.istore_n 2, 1) := by decide +kernel
theorem dX7_handsOf_30 : decode cX7_handsOf 30 = .ok (.iinc 3 1, 3) := by decide +kernel
theorem dX7_handsOf_33 : decode cX7_handsOf 33 = .ok (.goto (-29), 3) := by decide +kernel
theorem dX7_handsOf_36 : decode cX7_handsOf 36 = .ok (.iload_n 2, 1) := by decide +kernel
theorem dX7_handsOf_37 : decode cX7_handsOf 37 = .ok (.ireturn, 1) := by decide +kernel
theorem dX7_fewestWith_0 : decode cX7_fewestWith 0 = .ok (.aload_n 0, 1) := by decide +kernel
theorem dX7_fewestWith_1 : decode cX7_fewestWith 1 = .ok (.iload_n 2, 1) := by decide +kernel
theorem dX7_fewestWith_2 : decode cX7_fewestWith 2 = .ok (.iload_n 3, 1) := by decide +kernel
theorem dX7_fewestWith_3 : decode cX7_fewestWith 3 = .ok (.invokevirtual 73, 3) := by decide +kernel
theorem dX7_fewestWith_6 : decode cX7_fewestWith 6 = .ok (.istore 4, 2) := by decide +kernel
theorem dX7_fewestWith_8 : decode cX7_fewestWith 8 = .ok (.iload 4, 2) := by decide +kernel
theorem dX7_fewestWith_10 : decode cX7_fewestWith 10 = .ok (.iconst (-1), 1) := by decide +kernel
theorem dX7_fewestWith_11 : decode cX7_fewestWith 11 = .ok (.if_icmp .eq 17, 3) := by decide +kernel
theorem dX7_fewestWith_14 : decode cX7_fewestWith 14 = .ok (.aload_n 0, 1) := by decide +kernel
theorem dX7_fewestWith_15 : decode cX7_fewestWith 15 = .ok (.iload_n 3, 1) := by decide +kernel
theorem dX7_fewestWith_16 : decode cX7_fewestWith 16 = .ok (.invokevirtual 76, 3) := by decide +kernel
theorem dX7_fewestWith_19 : decode cX7_fewestWith 19 = .ok (.aload_n 0, 1) := by decide +kernel
theorem dX7_fewestWith_20 : decode cX7_fewestWith 20 = .ok (.getfield 15, 3) := by decide +kernel
theorem dX7_fewestWith_23 : decode cX7_fewestWith 23 = .ok (.iload_n 1, 1) := by decide +kernel
theorem dX7_fewestWith_24 : decode cX7_fewestWith 24 = .ok (.iaload, 1) := by decide +kernel
theorem dX7_fewestWith_25 : decode cX7_fewestWith 25 = .ok (.if_icmp .ge 7, 3) := by decide +kernel
theorem dX7_fewestWith_28 : decode cX7_fewestWith 28 = .ok (.sipush 1000, 3) := by decide +kernel
theorem dX7_fewestWith_31 : decode cX7_fewestWith 31 = .ok (.ireturn, 1) := by decide +kernel
theorem dX7_fewestWith_32 : decode cX7_fewestWith 32 = .ok (.sipush 1000, 3) := by decide +kernel
theorem dX7_fewestWith_35 : decode cX7_fewestWith 35 = .ok (.iload_n 3, 1) := by decide +kernel
theorem dX7_fewestWith_36 : decode cX7_fewestWith 36 = .ok (.invokestatic 80, 3) := by decide +kernel
theorem dX7_fewestWith_39 : decode cX7_fewestWith 39 = .ok (.aload_n 0, 1) := by decide +kernel
theorem dX7_fewestWith_40 : decode cX7_fewestWith 40 = .ok (.getfield 24, 3) := by decide +kernel
theorem dX7_fewestWith_43 : decode cX7_fewestWith 43 = .ok (.iload_n 1, 1) := by decide +kernel
theorem dX7_fewestWith_44 : decode cX7_fewestWith 44 = .ok (.iconst 1, 1) := by decide +kernel
theorem dX7_fewestWith_45 : decode cX7_fewestWith 45 = .ok (.iadd, 1) := by decide +kernel
theorem dX7_fewestWith_46 : decode cX7_fewestWith 46 = .ok (.aaload, 1) := by decide +kernel
theorem dX7_fewestWith_47 : decode cX7_fewestWith 47 = .ok (.iload 4, 2) := by decide +kernel
theorem dX7_fewestWith_49 : decode cX7_fewestWith 49 = .ok (.iaload, 1) := by decide +kernel
theorem dX7_fewestWith_50 : decode cX7_fewestWith 50 = .ok (.iadd, 1) := by decide +kernel
theorem dX7_fewestWith_51 : decode cX7_fewestWith 51 = .ok (.invokestatic 68, 3) := by decide +kernel
theorem dX7_fewestWith_54 : decode cX7_fewestWith 54 = .ok (.ireturn, 1) := by decide +kernel
theorem dX7_fewestAt_0 : decode cX7_fewestAt 0 = .ok (.sipush 1000, 3) := by decide +kernel
theorem dX7_fewestAt_3 : decode cX7_fewestAt 3 = .ok (.istore_n 3, 1) := by decide +kernel
theorem dX7_fewestAt_4 : decode cX7_fewestAt 4 = .ok (.iconst 0, 1) := by decide +kernel
theorem dX7_fewestAt_5 : decode cX7_fewestAt 5 = .ok (.istore 4, 2) := by decide +kernel
theorem dX7_fewestAt_7 : decode cX7_fewestAt 7 = .ok (.iload 4, 2) := by decide +kernel
theorem dX7_fewestAt_9 : decode cX7_fewestAt 9 = .ok (.iconst 1, 1) := by decide +kernel
theorem dX7_fewestAt_10 : decode cX7_fewestAt 10 = .ok (.aload_n 0, 1) := by decide +kernel
theorem dX7_fewestAt_11 : decode cX7_fewestAt 11 = .ok (.getfield 34, 3) := by decide +kernel
theorem dX7_fewestAt_14 : decode cX7_fewestAt 14 = .ok (.ishl, 1) := by decide +kernel
theorem dX7_fewestAt_15 : decode cX7_fewestAt 15 = .ok (.if_icmp .ge 22, 3) := by decide +kernel
theorem dX7_fewestAt_18 : decode cX7_fewestAt 18 = .ok (.iload_n 3, 1) := by decide +kernel
theorem dX7_fewestAt_19 : decode cX7_fewestAt 19 = .ok (.aload_n 0, 1) := by decide +kernel
theorem dX7_fewestAt_20 : decode cX7_fewestAt 20 = .ok (.iload_n 1, 1) := by decide +kernel
theorem dX7_fewestAt_21 : decode cX7_fewestAt 21 = .ok (.iload_n 2, 1) := by decide +kernel
theorem dX7_fewestAt_22 : decode cX7_fewestAt 22 = .ok (.iload 4, 2) := by decide +kernel
theorem dX7_fewestAt_24 : decode cX7_fewestAt 24 = .ok (.invokevirtual 64, 3) := by decide +kernel
theorem dX7_fewestAt_27 : decode cX7_fewestAt 27 = .ok (.invokestatic 68, 3) := by decide +kernel
theorem dX7_fewestAt_30 : decode cX7_fewestAt 30 = .ok (.istore_n 3, 1) := by decide +kernel
theorem dX7_fewestAt_31 : decode cX7_fewestAt 31 = .ok (.iinc 4 1, 3) := by decide +kernel
theorem dX7_fewestAt_34 : decode cX7_fewestAt 34 = .ok (.goto (-27), 3) := by decide +kernel
theorem dX7_fewestAt_37 : decode cX7_fewestAt 37 = .ok (.iload_n 3, 1) := by decide +kernel
theorem dX7_fewestAt_38 : decode cX7_fewestAt 38 = .ok (.ireturn, 1) := by decide +kernel
theorem dX7_choose_0 : decode cX7_choose 0 = .ok (.iconst 0, 1) := by decide +kernel
theorem dX7_choose_1 : decode cX7_choose 1 = .ok (.istore_n 1, 1) := by decide +kernel
theorem dX7_choose_2 : decode cX7_choose 2 = .ok (.iconst 0, 1) := by decide +kernel
theorem dX7_choose_3 : decode cX7_choose 3 = .ok (.istore_n 2, 1) := by decide +kernel
theorem dX7_choose_4 : decode cX7_choose 4 = .ok (.iload_n 2, 1) := by decide +kernel
theorem dX7_choose_5 : decode cX7_choose 5 = .ok (.aload_n 0, 1) := by decide +kernel
theorem dX7_choose_6 : decode cX7_choose 6 = .ok (.getfield 41, 3) := by decide +kernel
theorem dX7_choose_9 : decode cX7_choose 9 = .ok (.if_icmp .ge 65, 3) := by decide +kernel
theorem dX7_choose_12 : decode cX7_choose 12 = .ok (.iconst 0, 1) := by decide +kernel
theorem dX7_choose_13 : decode cX7_choose 13 = .ok (.istore_n 3, 1) := by decide +kernel
theorem dX7_choose_14 : decode cX7_choose 14 = .ok (.iload_n 3, 1) := by decide +kernel
theorem dX7_choose_15 : decode cX7_choose 15 = .ok (.iconst 1, 1) := by decide +kernel
theorem dX7_choose_16 : decode cX7_choose 16 = .ok (.aload_n 0, 1) := by decide +kernel
theorem dX7_choose_17 : decode cX7_choose 17 = .ok (.getfield 34, 3) := by decide +kernel
theorem dX7_choose_20 : decode cX7_choose 20 = .ok (.ishl, 1) := by decide +kernel
theorem dX7_choose_21 : decode cX7_choose 21 = .ok (.iconst 1, 1) := by decide +kernel
theorem dX7_choose_22 : decode cX7_choose 22 = .ok (.isub, 1) := by decide +kernel
theorem dX7_choose_23 : decode cX7_choose 23 = .ok (.if_icmp .ge 27, 3) := by decide +kernel
theorem dX7_choose_26 : decode cX7_choose 26 = .ok (.aload_n 0, 1) := by decide +kernel
theorem dX7_choose_27 : decode cX7_choose 27 = .ok (.iload_n 2, 1) := by decide +kernel
theorem dX7_choose_28 : decode cX7_choose 28 = .ok (.iload_n 1, 1) := by decide +kernel
theorem dX7_choose_29 : decode cX7_choose 29 = .ok (.iload_n 3, 1) := by decide +kernel
theorem dX7_choose_30 : decode cX7_choose 30 = .ok (.invokevirtual 64, 3) := by decide +kernel
theorem dX7_choose_33 : decode cX7_choose 33 = .ok (.aload_n 0, 1) := by decide +kernel
theorem dX7_choose_34 : decode cX7_choose 34 = .ok (.getfield 24, 3) := by decide +kernel
theorem dX7_choose_37 : decode cX7_choose 37 = .ok (.iload_n 2, 1) := by decide +kernel
theorem dX7_choose_38 : decode cX7_choose 38 = .ok (.aaload, 1) := by decide +kernel
theorem dX7_choose_39 : decode cX7_choose 39 = .ok (.iload_n 1, 1) := by decide +kernel
theorem dX7_choose_40 : decode cX7_choose 40 = .ok (.iaload, 1) := by decide +kernel
theorem dX7_choose_41 : decode cX7_choose 41 = .ok (.if_icmp .eq 9, 3) := by decide +kernel
theorem dX7_choose_44 : decode cX7_choose 44 = .ok (.iinc 3 1, 3) := by decide +kernel
theorem dX7_choose_47 : decode cX7_choose 47 = .ok (.goto (-33), 3) := by decide +kernel
theorem dX7_choose_50 : decode cX7_choose 50 = .ok (.aload_n 0, 1) := by decide +kernel
theorem dX7_choose_51 : decode cX7_choose 51 = .ok (.getfield 27, 3) := by decide +kernel
theorem dX7_choose_54 : decode cX7_choose 54 = .ok (.iload_n 2, 1) := by decide +kernel
theorem dX7_choose_55 : decode cX7_choose 55 = .ok (.iload_n 3, 1) := by decide +kernel
theorem dX7_choose_56 : decode cX7_choose 56 = .ok (.iastore, 1) := by decide +kernel
theorem dX7_choose_57 : decode cX7_choose 57 = .ok (.iconst 0, 1) := by decide +kernel
theorem dX7_choose_58 : decode cX7_choose 58 = .ok (.aload_n 0, 1) := by decide +kernel
theorem dX7_choose_59 : decode cX7_choose 59 = .ok (.iload_n 1, 1) := by decide +kernel
theorem dX7_choose_60 : decode cX7_choose 60 = .ok (.iload_n 3, 1) := by decide +kernel
theorem dX7_choose_61 : decode cX7_choose 61 = .ok (.invokevirtual 73, 3) := by decide +kernel
theorem dX7_choose_64 : decode cX7_choose 64 = .ok (.invokestatic 85, 3) := by decide +kernel
theorem dX7_choose_67 : decode cX7_choose 67 = .ok (.istore_n 1, 1) := by decide +kernel
theorem dX7_choose_68 : decode cX7_choose 68 = .ok (.iinc 2 1, 3) := by decide +kernel
theorem dX7_choose_71 : decode cX7_choose 71 = .ok (.goto (-67), 3) := by decide +kernel
theorem dX7_choose_74 : decode cX7_choose 74 = .ok (.return_, 1) := by decide +kernel
theorem dX7_reckon_0 : decode cX7_reckon 0 = .ok (.aload_n 0, 1) := by decide +kernel
theorem dX7_reckon_1 : decode cX7_reckon 1 = .ok (.getfield 37, 3) := by decide +kernel
theorem dX7_reckon_4 : decode cX7_reckon 4 = .ok (.ifCond .eq 4, 3) := by decide +kernel
theorem dX7_reckon_7 : decode cX7_reckon 7 = .ok (.return_, 1) := by decide +kernel
theorem dX7_reckon_8 : decode cX7_reckon 8 = .ok (.aload_n 0, 1) := by decide +kernel
theorem dX7_reckon_9 : decode cX7_reckon 9 = .ok (.getfield 24, 3) := by decide +kernel
theorem dX7_reckon_12 : decode cX7_reckon 12 = .ok (.aload_n 0, 1) := by decide +kernel
theorem dX7_reckon_13 : decode cX7_reckon 13 = .ok (.getfield 41, 3) := by decide +kernel
theorem dX7_reckon_16 : decode cX7_reckon 16 = .ok (.aaload, 1) := by decide +kernel
theorem dX7_reckon_17 : decode cX7_reckon 17 = .ok (.iconst 0, 1) := by decide +kernel
theorem dX7_reckon_18 : decode cX7_reckon 18 = .ok (.invokestatic 51, 3) := by decide +kernel
theorem dX7_reckon_21 : decode cX7_reckon 21 = .ok (.aload_n 0, 1) := by decide +kernel
theorem dX7_reckon_22 : decode cX7_reckon 22 = .ok (.getfield 41, 3) := by decide +kernel
theorem dX7_reckon_25 : decode cX7_reckon 25 = .ok (.iconst 1, 1) := by decide +kernel
theorem dX7_reckon_26 : decode cX7_reckon 26 = .ok (.isub, 1) := by decide +kernel
theorem dX7_reckon_27 : decode cX7_reckon 27 = .ok (.istore_n 1, 1) := by decide +kernel
theorem dX7_reckon_28 : decode cX7_reckon 28 = .ok (.iload_n 1, 1) := by decide +kernel
theorem dX7_reckon_29 : decode cX7_reckon 29 = .ok (.ifCond .lt 38, 3) := by decide +kernel
theorem dX7_reckon_32 : decode cX7_reckon 32 = .ok (.iconst 0, 1) := by decide +kernel
theorem dX7_reckon_33 : decode cX7_reckon 33 = .ok (.istore_n 2, 1) := by decide +kernel
theorem dX7_reckon_34 : decode cX7_reckon 34 = .ok (.iload_n 2, 1) := by decide +kernel
theorem dX7_reckon_35 : decode cX7_reckon 35 = .ok (.sipush 256, 3) := by decide +kernel
theorem dX7_reckon_38 : decode cX7_reckon 38 = .ok (.if_icmp .ge 23, 3) := by decide +kernel
theorem dX7_reckon_41 : decode cX7_reckon 41 = .ok (.aload_n 0, 1) := by decide +kernel
theorem dX7_reckon_42 : decode cX7_reckon 42 = .ok (.getfield 24, 3) := by decide +kernel
theorem dX7_reckon_45 : decode cX7_reckon 45 = .ok (.iload_n 1, 1) := by decide +kernel
theorem dX7_reckon_46 : decode cX7_reckon 46 = .ok (.aaload, 1) := by decide +kernel
theorem dX7_reckon_47 : decode cX7_reckon 47 = .ok (.iload_n 2, 1) := by decide +kernel
theorem dX7_reckon_48 : decode cX7_reckon 48 = .ok (.aload_n 0, 1) := by decide +kernel
theorem dX7_reckon_49 : decode cX7_reckon 49 = .ok (.iload_n 1, 1) := by decide +kernel
theorem dX7_reckon_50 : decode cX7_reckon 50 = .ok (.iload_n 2, 1) := by decide +kernel
theorem dX7_reckon_51 : decode cX7_reckon 51 = .ok (.invokevirtual 57, 3) := by decide +kernel
theorem dX7_reckon_54 : decode cX7_reckon 54 = .ok (.iastore, 1) := by decide +kernel
theorem dX7_reckon_55 : decode cX7_reckon 55 = .ok (.iinc 2 1, 3) := by decide +kernel
theorem dX7_reckon_58 : decode cX7_reckon 58 = .ok (.goto (-24), 3) := by decide +kernel
theorem dX7_reckon_61 : decode cX7_reckon 61 = .ok (.iinc 1 (-1), 3) := by decide +kernel
theorem dX7_reckon_64 : decode cX7_reckon 64 = .ok (.goto (-36), 3) := by decide +kernel
theorem dX7_reckon_67 : decode cX7_reckon 67 = .ok (.aload_n 0, 1) := by decide +kernel
theorem dX7_reckon_68 : decode cX7_reckon 68 = .ok (.getfield 24, 3) := by decide +kernel
theorem dX7_reckon_71 : decode cX7_reckon 71 = .ok (.iconst 0, 1) := by decide +kernel
theorem dX7_reckon_72 : decode cX7_reckon 72 = .ok (.aaload, 1) := by decide +kernel
theorem dX7_reckon_73 : decode cX7_reckon 73 = .ok (.iconst 0, 1) := by decide +kernel
theorem dX7_reckon_74 : decode cX7_reckon 74 = .ok (.iaload, 1) := by decide +kernel
theorem dX7_reckon_75 : decode cX7_reckon 75 = .ok (.sipush 1000, 3) := by decide +kernel
theorem dX7_reckon_78 : decode cX7_reckon 78 = .ok (.if_icmp .ge 7, 3) := by decide +kernel
theorem dX7_reckon_81 : decode cX7_reckon 81 = .ok (.aload_n 0, 1) := by decide +kernel
theorem dX7_reckon_82 : decode cX7_reckon 82 = .ok (.invokevirtual 61, 3) := by decide +kernel
theorem dX7_reckon_85 : decode cX7_reckon 85 = .ok (.aload_n 0, 1) := by decide +kernel
theorem dX7_reckon_86 : decode cX7_reckon 86 = .ok (.iconst 1, 1) := by decide +kernel
theorem dX7_reckon_87 : decode cX7_reckon 87 = .ok (.putfield 37, 3) := by decide +kernel
theorem dX7_reckon_90 : decode cX7_reckon 90 = .ok (.return_, 1) := by decide +kernel
theorem dX7_fewest_0 : decode cX7_fewest 0 = .ok (.aload_n 0, 1) := by decide +kernel
theorem dX7_fewest_1 : decode cX7_fewest 1 = .ok (.invokevirtual 44, 3) := by decide +kernel
theorem dX7_fewest_4 : decode cX7_fewest 4 = .ok (.aload_n 0, 1) := by decide +kernel
theorem dX7_fewest_5 : decode cX7_fewest 5 = .ok (.getfield 24, 3) := by decide +kernel
theorem dX7_fewest_8 : decode cX7_fewest 8 = .ok (.iconst 0, 1) := by decide +kernel
theorem dX7_fewest_9 : decode cX7_fewest 9 = .ok (.aaload, 1) := by decide +kernel
theorem dX7_fewest_10 : decode cX7_fewest 10 = .ok (.iconst 0, 1) := by decide +kernel
theorem dX7_fewest_11 : decode cX7_fewest 11 = .ok (.iaload, 1) := by decide +kernel
theorem dX7_fewest_12 : decode cX7_fewest 12 = .ok (.sipush 1000, 3) := by decide +kernel
theorem dX7_fewest_15 : decode cX7_fewest 15 = .ok (.if_icmp .lt 8, 3) := by decide +kernel
theorem dX7_fewest_18 : decode cX7_fewest 18 = .ok (.bipush (-3), 2) := by decide +kernel
theorem dX7_fewest_20 : decode cX7_fewest 20 = .ok (.goto 11, 3) := by decide +kernel
theorem dX7_fewest_23 : decode cX7_fewest 23 = .ok (.aload_n 0, 1) := by decide +kernel
theorem dX7_fewest_24 : decode cX7_fewest 24 = .ok (.getfield 24, 3) := by decide +kernel
theorem dX7_fewest_27 : decode cX7_fewest 27 = .ok (.iconst 0, 1) := by decide +kernel
theorem dX7_fewest_28 : decode cX7_fewest 28 = .ok (.aaload, 1) := by decide +kernel
theorem dX7_fewest_29 : decode cX7_fewest 29 = .ok (.iconst 0, 1) := by decide +kernel
theorem dX7_fewest_30 : decode cX7_fewest 30 = .ok (.iaload, 1) := by decide +kernel
theorem dX7_fewest_31 : decode cX7_fewest 31 = .ok (.ireturn, 1) := by decide +kernel
theorem dX7_teamsOf_0 : decode cX7_teamsOf 0 = .ok (.iload_n 1, 1) := by decide +kernel
theorem dX7_teamsOf_1 : decode cX7_teamsOf 1 = .ok (.iconst 0, 1) := by decide +kernel
theorem dX7_teamsOf_2 : decode cX7_teamsOf 2 = .ok (.aload_n 0, 1) := by decide +kernel
theorem dX7_teamsOf_3 : decode cX7_teamsOf 3 = .ok (.getfield 41, 3) := by decide +kernel
theorem dX7_teamsOf_6 : decode cX7_teamsOf 6 = .ok (.iconst 1, 1) := by decide +kernel
theorem dX7_teamsOf_7 : decode cX7_teamsOf 7 = .ok (.isub, 1) := by decide +kernel
theorem dX7_teamsOf_8 : decode cX7_teamsOf 8 = .ok (.invokestatic 30, 3) := by decide +kernel
theorem dX7_teamsOf_11 : decode cX7_teamsOf 11 = .ok (.ifCond .ne 6, 3) := by decide +kernel
theorem dX7_teamsOf_14 : decode cX7_teamsOf 14 = .ok (.bipush (-2), 2) := by decide +kernel
theorem dX7_teamsOf_16 : decode cX7_teamsOf 16 = .ok (.ireturn, 1) := by decide +kernel
theorem dX7_teamsOf_17 : decode cX7_teamsOf 17 = .ok (.aload_n 0, 1) := by decide +kernel
theorem dX7_teamsOf_18 : decode cX7_teamsOf 18 = .ok (.invokevirtual 47, 3) := by decide +kernel
theorem dX7_teamsOf_21 : decode cX7_teamsOf 21 = .ok (.bipush (-3), 2) := by decide +kernel
theorem dX7_teamsOf_23 : decode cX7_teamsOf 23 = .ok (.if_icmp .ne 8, 3) := by decide +kernel
theorem dX7_teamsOf_26 : decode cX7_teamsOf 26 = .ok (.bipush (-3), 2) := by decide +kernel
theorem dX7_teamsOf_28 : decode cX7_teamsOf 28 = .ok (.goto 9, 3) := by decide +kernel
theorem dX7_teamsOf_31 : decode cX7_teamsOf 31 = .ok (.aload_n 0, 1) := by decide +kernel
theorem dX7_teamsOf_32 : decode cX7_teamsOf 32 = .ok (.getfield 27, 3) := by decide +kernel
theorem dX7_teamsOf_35 : decode cX7_teamsOf 35 = .ok (.iload_n 1, 1) := by decide +kernel
theorem dX7_teamsOf_36 : decode cX7_teamsOf 36 = .ok (.iaload, 1) := by decide +kernel
theorem dX7_teamsOf_37 : decode cX7_teamsOf 37 = .ok (.ireturn, 1) := by decide +kernel
theorem dX9_addTask_0 : decode cX9_addTask 0 = .ok (.iload_n 1, 1) := by decide +kernel
theorem dX9_addTask_1 : decode cX9_addTask 1 = .ok (.iconst 1, 1) := by decide +kernel
theorem dX9_addTask_2 : decode cX9_addTask 2 = .ok (.sipush 200, 3) := by decide +kernel
theorem dX9_addTask_5 : decode cX9_addTask 5 = .ok (.invokestatic 32, 3) := by decide +kernel
theorem dX9_addTask_8 : decode cX9_addTask 8 = .ok (.ifCond .eq 14, 3) := by decide +kernel
theorem dX9_addTask_11 : decode cX9_addTask 11 = .ok (.iload_n 2, 1) := by decide +kernel
theorem dX9_addTask_12 : decode cX9_addTask 12 = .ok (.iconst 0, 1) := by decide +kernel
theorem dX9_addTask_13 : decode cX9_addTask 13 = .ok (.sipush 2000, 3) := by decide +kernel
theorem dX9_addTask_16 : decode cX9_addTask 16 = .ok (.invokestatic 32, 3) := by decide +kernel
theorem dX9_addTask_19 : decode cX9_addTask 19 = .ok (.ifCond .ne 6, 3) := by decide +kernel
theorem dX9_addTask_22 : decode cX9_addTask 22 = .ok (.bipush (-2), 2) := by decide +kernel
theorem dX9_addTask_24 : decode cX9_addTask 24 = .ok (.ireturn, 1) := by decide +kernel
theorem dX9_addTask_25 : decode cX9_addTask 25 = .ok (.aload_n 0, 1) := by decide +kernel
theorem dX9_addTask_26 : decode cX9_addTask 26 = .ok (.getfield 36, 3) := by decide +kernel
theorem dX9_addTask_29 : decode cX9_addTask 29 = .ok (.bipush 12, 2) := by decide +kernel
theorem dX9_addTask_31 : decode cX9_addTask 31 = .ok (.if_icmp .lt 6, 3) := by decide +kernel
theorem dX9_addTask_34 : decode cX9_addTask 34 = .ok (.bipush (-4), 2) := by decide +kernel
theorem dX9_addTask_36 : decode cX9_addTask 36 = .ok (.ireturn, 1) := by decide +kernel
theorem dX9_addTask_37 : decode cX9_addTask 37 = .ok (.aload_n 0, 1) := by decide +kernel
theorem dX9_addTask_38 : decode cX9_addTask 38 = .ok (.getfield 11, 3) := by decide +kernel
theorem dX9_addTask_41 : decode cX9_addTask 41 = .ok (.aload_n 0, 1) := by decide +kernel
theorem dX9_addTask_42 : decode cX9_addTask 42 = .ok (.getfield 36, 3) := by decide +kernel
theorem dX9_addTask_45 : decode cX9_addTask 45 = .ok (.iload_n 1, 1) := by decide +kernel
theorem dX9_addTask_46 : decode cX9_addTask 46 = .ok (.iastore, 1) := by decide +kernel
theorem dX9_addTask_47 : decode cX9_addTask 47 = .ok (.aload_n 0, 1) := by decide +kernel
theorem dX9_addTask_48 : decode cX9_addTask 48 = .ok (.getfield 15, 3) := by decide +kernel
theorem dX9_addTask_51 : decode cX9_addTask 51 = .ok (.aload_n 0, 1) := by decide +kernel
theorem dX9_addTask_52 : decode cX9_addTask 52 = .ok (.getfield 36, 3) := by decide +kernel
theorem dX9_addTask_55 : decode cX9_addTask 55 = .ok (.iload_n 2, 1) := by decide +kernel
theorem dX9_addTask_56 : decode cX9_addTask 56 = .ok (.iastore, 1) := by decide +kernel
theorem dX9_addTask_57 : decode cX9_addTask 57 = .ok (.aload_n 0, 1) := by decide +kernel
theorem dX9_addTask_58 : decode cX9_addTask 58 = .ok (.dup, 1) := by decide +kernel
theorem dX9_addTask_59 : decode cX9_addTask 59 = .ok (.getfield 36, 3) := by decide +kernel
theorem dX9_addTask_62 : decode cX9_addTask 62 = .ok (.dup_x1, 1) := by decide +kernel
theorem dX9_addTask_63 : decode cX9_addTask 63 = .ok (.iconst 1, 1) := by decide +kernel
theorem dX9_addTask_64 : decode cX9_addTask 64 = .ok (.iadd, 1) := by decide +kernel
theorem dX9_addTask_65 : decode cX9_addTask 65 = .ok (.putfield 36, 3) := by decide +kernel
theorem dX9_addTask_68 : decode cX9_addTask 68 = .ok (.ireturn, 1) := by decide +kernel
theorem dX9_tellCrews_0 : decode cX9_tellCrews 0 = .ok (.iload_n 1, 1) := by decide +kernel
theorem dX9_tellCrews_1 : decode cX9_tellCrews 1 = .ok (.iconst 1, 1) := by decide +kernel
theorem dX9_tellCrews_2 : decode cX9_tellCrews 2 = .ok (.iconst 4, 1) := by decide +kernel
theorem dX9_tellCrews_3 : decode cX9_tellCrews 3 = .ok (.invokestatic 32, 3) := by decide +kernel
theorem dX9_tellCrews_6 : decode cX9_tellCrews 6 = .ok (.ifCond .ne 6, 3) := by decide +kernel
theorem dX9_tellCrews_9 : decode cX9_tellCrews 9 = .ok (.bipush (-2), 2) := by decide +kernel
theorem dX9_tellCrews_11 : decode cX9_tellCrews 11 = .ok (.ireturn, 1) := by decide +kernel
theorem dX9_tellCrews_12 : decode cX9_tellCrews 12 = .ok (.aload_n 0, 1) := by decide +kernel
theorem dX9_tellCrews_13 : decode cX9_tellCrews 13 = .ok (.getfield 18, 3) := by decide +kernel
theorem dX9_tellCrews_16 : decode cX9_tellCrews 16 = .ok (.istore_n 2, 1) := by decide +kernel
theorem dX9_tellCrews_17 : decode cX9_tellCrews 17 = .ok (.aload_n 0, 1) := by decide +kernel
theorem dX9_tellCrews_18 : decode cX9_tellCrews 18 = .ok (.iload_n 1, 1) := by decide +kernel
theorem dX9_tellCrews_19 : decode cX9_tellCrews 19 = .ok (.putfield 18, 3) := by decide +kernel
theorem dX9_tellCrews_22 : decode cX9_tellCrews 22 = .ok (.iload_n 2, 1) := by decide +kernel
theorem dX9_tellCrews_23 : decode cX9_tellCrews 23 = .ok (.ireturn, 1) := by decide +kernel
theorem dX9_nextTask_0 : decode cX9_nextTask 0 = .ok (.iconst 0, 1) := by decide +kernel
theorem dX9_nextTask_1 : decode cX9_nextTask 1 = .ok (.istore_n 1, 1) := by decide +kernel
theorem dX9_nextTask_2 : decode cX9_nextTask 2 = .ok (.sipush 2001, 3) := by decide +kernel
theorem dX9_nextTask_5 : decode cX9_nextTask 5 = .ok (.istore_n 2, 1) := by decide +kernel
theorem dX9_nextTask_6 : decode cX9_nextTask 6 = .ok (.iconst 0, 1) := by decide +kernel
theorem dX9_nextTask_7 : decode cX9_nextTask 7 = .ok (.istore_n 3, 1) := by decide +kernel
theorem dX9_nextTask_8 : decode cX9_nextTask 8 = .ok (.iload_n 3, 1) := by decide +kernel
theorem dX9_nextTask_9 : decode cX9_nextTask 9 = .ok (.aload_n 0, 1) := by decide +kernel
theorem dX9_nextTask_10 : decode cX9_nextTask 10 = .ok (.getfield 36, 3) := by decide +kernel
theorem dX9_nextTask_13 : decode cX9_nextTask 13 = .ok (.if_icmp .ge 37, 3) := by decide +kernel
theorem dX9_nextTask_16 : decode cX9_nextTask 16 = .ok (.aload_n 0, 1) := by decide +kernel
theorem dX9_nextTask_17 : decode cX9_nextTask 17 = .ok (.getfield 25, 3) := by decide +kernel
theorem dX9_nextTask_20 : decode cX9_nextTask 20 = .ok (.iload_n 3, 1) := by decide +kernel
theorem dX9_nextTask_21 : decode cX9_nextTask 21 = .ok (.baload, 1) := by decide +kernel
theorem dX9_nextTask_22 : decode cX9_nextTask 22 = .ok (.ifCond .ne 22, 3) := by decide +kernel
theorem dX9_nextTask_25 : decode cX9_nextTask 25 = .ok (.aload_n 0, 1) := by decide +kernel
theorem dX9_nextTask_26 : decode cX9_nextTask 26 = .ok (.getfield 15, 3) := by decide +kernel
theorem dX9_nextTask_29 : decode cX9_nextTask 29 = .ok (.iload_n 3, 1) := by decide +kernel
theorem dX9_nextTask_30 : decode cX9_nextTask 30 = .ok (.iaload, 1) := by decide +kernel
theorem dX9_nextTask_31 : decode cX9_nextTask 31 = .ok (.iload_n 2, 1) := by decide +kernel
theorem dX9_nextTask_32 : decode cX9_nextTask 32 = .ok (.if_icmp .ge 12, 3) := by decide +kernel
theorem dX9_nextTask_35 : decode cX9_nextTask 35 = .ok (.aload_n 0, 1) := by decide +kernel
theorem dX9_nextTask_36 : decode cX9_nextTask 36 = .ok (.getfield 15, 3) := by decide +kernel
theorem dX9_nextTask_39 : decode cX9_nextTask 39 = .ok (.iload_n 3, 1) := by decide +kernel
theorem dX9_nextTask_40 : decode cX9_nextTask 40 = .ok (.iaload, 1) := by decide +kernel
theorem dX9_nextTask_41 : decode cX9_nextTask 41 = .ok (.istore_n 2, 1) := by decide +kernel
theorem dX9_nextTask_42 : decode cX9_nextTask 42 = .ok (.iload_n 3, 1) := by decide +kernel
theorem dX9_nextTask_43 : decode cX9_nextTask 43 = .ok (.istore_n 1, 1) := by decide +kernel
theorem dX9_nextTask_44 : decode cX9_nextTask 44 = .ok (.iinc 3 1, 3) := by decide +kernel
theorem dX9_nextTask_47 : decode cX9_nextTask 47 = .ok (.goto (-39), 3) := by decide +kernel
theorem dX9_nextTask_50 : decode cX9_nextTask 50 = .ok (.iload_n 1, 1) := by decide +kernel
theorem dX9_nextTask_51 : decode cX9_nextTask 51 = .ok (.ireturn, 1) := by decide +kernel
theorem dX9_firstFree_0 : decode cX9_firstFree 0 = .ok (.iconst 0, 1) := by decide +kernel
theorem dX9_firstFree_1 : decode cX9_firstFree 1 = .ok (.istore_n 1, 1) := by decide +kernel
theorem dX9_firstFree_2 : decode cX9_firstFree 2 = .ok (.iconst 1, 1) := by decide +kernel
theorem dX9_firstFree_3 : decode cX9_firstFree 3 = .ok (.istore_n 2, 1) := by decide +kernel
theorem dX9_firstFree_4 : decode cX9_firstFree 4 = .ok (.iload_n 2, 1) := by decide +kernel
theorem dX9_firstFree_5 : decode cX9_firstFree 5 = .ok (.aload_n 0, 1) := by decide +kernel
theorem dX9_firstFree_6 : decode cX9_firstFree 6 = .ok (.getfield 18, 3) := by decide +kernel
theorem dX9_firstFree_9 : decode cX9_firstFree 9 = .ok (.if_icmp .ge 26, 3) := by decide +kernel
theorem dX9_firstFree_12 : decode cX9_firstFree 12 = .ok (.aload_n 0, 1) := by decide +kernel
theorem dX9_firstFree_13 : decode cX9_firstFree 13 = .ok (.getfield 29, 3) := by decide +kernel
theorem dX9_firstFree_16 : decode cX9_firstFree 16 = .ok (.iload_n 2, 1) := by decide +kernel
theorem dX9_firstFree_17 : decode cX9_firstFree 17 = .ok (.iaload, 1) := by decide +kernel
theorem dX9_firstFree_18 : decode cX9_firstFree 18 = .ok (.aload_n 0, 1) := by decide +kernel
theorem dX9_firstFree_19 : decode cX9_firstFree 19 = .ok (.getfield 29, 3) := by decide +kernel
theorem dX9_firstFree_22 : decode cX9_firstFree 22 = .ok (.iload_n 1, 1) := by decide +kernel
theorem dX9_firstFree_23 : decode cX9_firstFree 23 = .ok (.iaload, 1) := by decide +kernel
theorem dX9_firstFree_24 : decode cX9_firstFree 24 = .ok (.if_icmp .ge 5, 3) := by decide +kernel
theorem dX9_firstFree_27 : decode cX9_firstFree 27 = .ok (.iload_n 2, 1) := by decide +kernel
theorem dX9_firstFree_28 : decode cX9_firstFree 28 = .ok (.istore_n 1, 1) := by decide +kernel
theorem dX9_firstFree_29 : decode cX9_firstFree 29 = .ok (.iinc 2 1, 3) := by decide +kernel
theorem dX9_firstFree_32 : decode cX9_firstFree 32 = .ok (.goto (-28), 3) := by decide +kernel
theorem dX9_firstFree_35 : decode cX9_firstFree 35 = .ok (.iload_n 1, 1) := by decide +kernel
theorem dX9_firstFree_36 : decode cX9_firstFree 36 = .ok (.ireturn, 1) := by decide +kernel
theorem dX9_share_0 : decode cX9_share 0 = .ok (.aload_n 0, 1) := by decide +kernel
theorem dX9_share_1 : decode cX9_share 1 = .ok (.getfield 29, 3) := by decide +kernel
theorem dX9_share_4 : decode cX9_share 4 = .ok (.iconst 0, 1) := by decide +kernel
theorem dX9_share_5 : decode cX9_share 5 = .ok (.invokestatic 48, 3) := by decide +kernel
theorem dX9_share_8 : decode cX9_share 8 = .ok (.iconst 0, 1) := by decide +kernel
theorem dX9_share_9 : decode cX9_share 9 = .ok (.istore_n 1, 1) := by decide +kernel
theorem dX9_share_10 : decode cX9_share 10 = .ok (.iload_n 1, 1) := by decide +kernel
theorem dX9_share_11 : decode cX9_share 11 = .ok (.aload_n 0, 1) := by decide +kernel
theorem dX9_share_12 : decode cX9_share 12 = .ok (.getfield 36, 3) := by decide +kernel
theorem dX9_share_15 : decode cX9_share 15 = .ok (.if_icmp .ge 16, 3) := by decide +kernel
theorem dX9_share_18 : decode cX9_share 18 = .ok (.aload_n 0, 1) := by decide +kernel
theorem dX9_share_19 : decode cX9_share 19 = .ok (.getfield 25, 3) := by decide +kernel
theorem dX9_share_22 : decode cX9_share 22 = .ok (.iload_n 1, 1) := by decide +kernel
theorem dX9_share_23 : decode cX9_share 23 = .ok (.iconst 0, 1) := by decide +kernel
theorem dX9_share_24 : decode cX9_share 24 = .ok (.bastore, 1) := by decide +kernel
theorem dX9_share_25 : decode cX9_share 25 = .ok (.iinc 1 1, 3) := by decide +kernel
theorem dX9_share_28 : decode cX9_share 28 = .ok (.goto (-18), 3) := by decide +kernel
theorem dX9_share_31 : decode cX9_share 31 = .ok (.iconst 0, 1) := by decide +kernel
theorem dX9_share_32 : decode cX9_share 32 = .ok (.istore_n 1, 1) := by decide +kernel
theorem dX9_share_33 : decode cX9_share 33 = .ok (.iload_n 1, 1) := by decide +kernel
theorem dX9_share_34 : decode cX9_share 34 = .ok (.aload_n 0, 1) := by decide +kernel
theorem dX9_share_35 : decode cX9_share 35 = .ok (.getfield 36, 3) := by decide +kernel
theorem dX9_share_38 : decode cX9_share 38 = .ok (.if_icmp .ge 60, 3) := by decide +kernel
theorem dX9_share_41 : decode cX9_share 41 = .ok (.aload_n 0, 1) := by decide +kernel
theorem dX9_share_42 : decode cX9_share 42 = .ok (.invokevirtual 54, 3) := by decide +kernel
theorem dX9_share_45 : decode cX9_share 45 = .ok (.istore_n 2, 1) := by decide +kernel
theorem dX9_share_46 : decode cX9_share 46 = .ok (.aload_n 0, 1) := by decide +kernel
theorem dX9_share_47 : decode cX9_share 47 = .ok (.invokevirtual 58, 3) := by decide +kernel
theorem dX9_share_50 : decode cX9_share 50 = .ok (.istore_n 3, 1) := by decide +kernel
theorem dX9_share_51 : decode cX9_share 51 = .ok (.aload_n 0, 1) := by decide +kernel
theorem dX9_share_52 : decode cX9_share 52 = .ok (.getfield 29, 3) := by decide +kernel
theorem dX9_share_55 : decode cX9_share 55 = .ok (.iload_n 3, 1) := by decide +kernel
theorem dX9_share_56 : decode cX9_share 56 = .ok (.dup2, 1) := by decide +kernel
theorem dX9_share_57 : decode cX9_share 57 = .ok (.iaload, 1) := by decide +kernel
theorem dX9_share_58 : decode cX9_share 58 = .ok (.aload_n 0, 1) := by decide +kernel
theorem dX9_share_59 : decode cX9_share 59 = .ok (.getfield 11, 3) := by decide +kernel
theorem dX9_share_62 : decode cX9_share 62 = .ok (.iload_n 2, 1) := by decide +kernel
theorem dX9_share_63 : decode cX9_share 63 = .ok (.iaload, 1) := by decide +kernel
theorem dX9_share_64 : decode cX9_share 64 = .ok (.iadd, 1) := by decide +kernel
theorem dX9_share_65 : decode cX9_share 65 = .ok (.iastore, 1) := by decide +kernel
theorem dX9_share_66 : decode cX9_share 66 = .ok (.aload_n 0, 1) := by decide +kernel
theorem dX9_share_67 : decode cX9_share 67 = .ok (.getfield 22, 3) := by decide +kernel
theorem dX9_share_70 : decode cX9_share 70 = .ok (.iload_n 2, 1) := by decide +kernel
theorem dX9_share_71 : decode cX9_share 71 = .ok (.aload_n 0, 1) := by decide +kernel
theorem dX9_share_72 : decode cX9_share 72 = .ok (.getfield 29, 3) := by decide +kernel
theorem dX9_share_75 : decode cX9_share 75 = .ok (.iload_n 3, 1) := by decide +kernel
theorem dX9_share_76 : decode cX9_share 76 = .ok (.iaload, 1) := by decide +kernel
theorem dX9_share_77 : decode cX9_share 77 = .ok (.aload_n 0, 1) := by decide +kernel
theorem dX9_share_78 : decode cX9_share 78 = .ok (.getfield 15, 3) := by decide +kernel
theorem dX9_share_81 : decode cX9_share 81 = .ok (.iload_n 2, 1) := by decide +kernel
theorem dX9_share_82 : decode cX9_share 82 = .ok (.iaload, 1) := by decide +kernel
theorem dX9_share_83 : decode cX9_share 83 = .ok (.isub, 1) := by decide +kernel
theorem dX9_share_84 : decode cX9_share 84 = .ok (.iastore, 1) := by decide +kernel
theorem dX9_share_85 : decode cX9_share 85 = .ok (.aload_n 0, 1) := by decide +kernel
theorem dX9_share_86 : decode cX9_share 86 = .ok (.getfield 25, 3) := by decide +kernel
theorem dX9_share_89 : decode cX9_share 89 = .ok (.iload_n 2, 1) := by decide +kernel
theorem dX9_share_90 : decode cX9_share 90 = .ok (.iconst 1, 1) := by decide +kernel
theorem dX9_share_91 : decode cX9_share 91 = .ok (.bastore, 1) := by decide +kernel
theorem dX9_share_92 : decode cX9_share 92 = .ok (.iinc 1 1, 3) := by decide +kernel
theorem dX9_share_95 : decode cX9_share 95 = .ok (.goto (-62), 3) := by decide +kernel
theorem dX9_share_98 : decode cX9_share 98 = .ok (.return_, 1) := by decide +kernel
theorem dX9_lateOf_0 : decode cX9_lateOf 0 = .ok (.iload_n 1, 1) := by decide +kernel
theorem dX9_lateOf_1 : decode cX9_lateOf 1 = .ok (.iconst 0, 1) := by decide +kernel
theorem dX9_lateOf_2 : decode cX9_lateOf 2 = .ok (.aload_n 0, 1) := by decide +kernel
theorem dX9_lateOf_3 : decode cX9_lateOf 3 = .ok (.getfield 36, 3) := by decide +kernel
theorem dX9_lateOf_6 : decode cX9_lateOf 6 = .ok (.iconst 1, 1) := by decide +kernel
theorem dX9_lateOf_7 : decode cX9_lateOf 7 = .ok (.isub, 1) := by decide +kernel
theorem dX9_lateOf_8 : decode cX9_lateOf 8 = .ok (.invokestatic 32, 3) := by decide +kernel
theorem dX9_lateOf_11 : decode cX9_lateOf 11 = .ok (.ifCond .ne 7, 3) := by decide +kernel
theorem dX9_lateOf_14 : decode cX9_lateOf 14 = .ok (.sipush (-10000), 3) := by decide +kernel
theorem dX9_lateOf_17 : decode cX9_lateOf 17 = .ok (.ireturn, 1) := by decide +kernel
theorem dX9_lateOf_18 : decode cX9_lateOf 18 = .ok (.aload_n 0, 1) := by decide +kernel
theorem dX9_lateOf_19 : decode cX9_lateOf 19 = .ok (.invokevirtual 39, 3) := by decide +kernel
theorem dX9_lateOf_22 : decode cX9_lateOf 22 = .ok (.aload_n 0, 1) := by decide +kernel
theorem dX9_lateOf_23 : decode cX9_lateOf 23 = .ok (.getfield 22, 3) := by decide +kernel
theorem dX9_lateOf_26 : decode cX9_lateOf 26 = .ok (.iload_n 1, 1) := by decide +kernel
theorem dX9_lateOf_27 : decode cX9_lateOf 27 = .ok (.iaload, 1) := by decide +kernel
theorem dX9_lateOf_28 : decode cX9_lateOf 28 = .ok (.ireturn, 1) := by decide +kernel
theorem dX9_greatestLate_0 : decode cX9_greatestLate 0 = .ok (.aload_n 0, 1) := by decide +kernel
theorem dX9_greatestLate_1 : decode cX9_greatestLate 1 = .ok (.invokevirtual 39, 3) := by decide +kernel
theorem dX9_greatestLate_4 : decode cX9_greatestLate 4 = .ok (.iconst 0, 1) := by decide +kernel
theorem dX9_greatestLate_5 : decode cX9_greatestLate 5 = .ok (.istore_n 1, 1) := by decide +kernel
theorem dX9_greatestLate_6 : decode cX9_greatestLate 6 = .ok (.iconst 0, 1) := by decide +kernel
theorem dX9_greatestLate_7 : decode cX9_greatestLate 7 = .ok (.istore_n 2, 1) := by decide +kernel
theorem dX9_greatestLate_8 : decode cX9_greatestLate 8 = .ok (.iload_n 2, 1) := by decide +kernel
theorem dX9_greatestLate_9 : decode cX9_greatestLate 9 = .ok (.aload_n 0, 1) := by decide +kernel
theorem dX9_greatestLate_10 : decode cX9_greatestLate 10 = .ok (.getfield 36, 3) := by decide +kernel
theorem dX9_greatestLate_13 : decode cX9_greatestLate 13 = .ok (.if_icmp .ge 20, 3) := by decide +kernel
theorem dX9_greatestLate_16 : decode cX9_greatestLate 16 = .ok (.iload_n 1, 1) := by decide +kernel
theorem dX9_greatestLate_17 : decode cX9_greatestLate 17 = .ok (.aload_n 0, 1) := by decide +kernel
theorem dX9_greatestLate_18 : decode cX9_greatestLate 18 = .ok (.getfield 22, 3) := by decide +kernel
theorem dX9_greatestLate_21 : decode cX9_greatestLate 21 = .ok (.iload_n 2, 1) := by decide +kernel
theorem dX9_greatestLate_22 : decode cX9_greatestLate 22 = .ok (.iaload, 1) := by decide +kernel
theorem dX9_greatestLate_23 : decode cX9_greatestLate 23 = .ok (.invokestatic 42, 3) := by decide +kernel
theorem dX9_greatestLate_26 : decode cX9_greatestLate 26 = .ok (.istore_n 1, 1) := by decide +kernel
theorem dX9_greatestLate_27 : decode cX9_greatestLate 27 = .ok (.iinc 2 1, 3) := by decide +kernel
theorem dX9_greatestLate_30 : decode cX9_greatestLate 30 = .ok (.goto (-22), 3) := by decide +kernel
theorem dX9_greatestLate_33 : decode cX9_greatestLate 33 = .ok (.iload_n 1, 1) := by decide +kernel
theorem dX9_greatestLate_34 : decode cX9_greatestLate 34 = .ok (.ireturn, 1) := by decide +kernel
theorem dX9_howManyLate_0 : decode cX9_howManyLate 0 = .ok (.aload_n 0, 1) := by decide +kernel
theorem dX9_howManyLate_1 : decode cX9_howManyLate 1 = .ok (.invokevirtual 39, 3) := by decide +kernel
theorem dX9_howManyLate_4 : decode cX9_howManyLate 4 = .ok (.iconst 0, 1) := by decide +kernel
theorem dX9_howManyLate_5 : decode cX9_howManyLate 5 = .ok (.istore_n 1, 1) := by decide +kernel
theorem dX9_howManyLate_6 : decode cX9_howManyLate 6 = .ok (.iconst 0, 1) := by decide +kernel
theorem dX9_howManyLate_7 : decode cX9_howManyLate 7 = .ok (.istore_n 2, 1) := by decide +kernel
theorem dX9_howManyLate_8 : decode cX9_howManyLate 8 = .ok (.iload_n 2, 1) := by decide +kernel
theorem dX9_howManyLate_9 : decode cX9_howManyLate 9 = .ok (.aload_n 0, 1) := by decide +kernel
theorem dX9_howManyLate_10 : decode cX9_howManyLate 10 = .ok (.getfield 36, 3) := by decide +kernel
theorem dX9_howManyLate_13 : decode cX9_howManyLate 13 = .ok (.if_icmp .ge 21, 3) := by decide +kernel
theorem dX9_howManyLate_16 : decode cX9_howManyLate 16 = .ok (.aload_n 0, 1) := by decide +kernel
theorem dX9_howManyLate_17 : decode cX9_howManyLate 17 = .ok (.getfield 22, 3) := by decide +kernel
theorem dX9_howManyLate_20 : decode cX9_howManyLate 20 = .ok (.iload_n 2, 1) := by decide +kernel
theorem dX9_howManyLate_21 : decode cX9_howManyLate 21 = .ok (.iaload, 1) := by decide +kernel
theorem dX9_howManyLate_22 : decode cX9_howManyLate 22 = .ok (.ifCond .le 6, 3) := by decide +kernel
theorem dX9_howManyLate_25 : decode cX9_howManyLate 25 = .ok (.iinc 1 1, 3) := by decide +kernel
theorem dX9_howManyLate_28 : decode cX9_howManyLate 28 = .ok (.iinc 2 1, 3) := by decide +kernel
theorem dX9_howManyLate_31 : decode cX9_howManyLate 31 = .ok (.goto (-23), 3) := by decide +kernel
theorem dX9_howManyLate_34 : decode cX9_howManyLate 34 = .ok (.iload_n 1, 1) := by decide +kernel
theorem dX9_howManyLate_35 : decode cX9_howManyLate 35 = .ok (.ireturn, 1) := by decide +kernel
def f_X7_addTeam (w : Wd) (a1 : Int32) : Option (Int32 × Wd) :=
if (f_X11_within a1 (1 : Int32) (300 : Int32)) = 0 then
some ((-2 : Int32), w)
else
q_gt w 5 1 (fun v_15 =>
if v_15 < (4 : Int32) then
q_pt w 5 7 (0 : Int32) (fun w_27 =>
q_gt w_27 5 1 (fun v_35 =>
q_st w_27 29 4 v_35 a1 (fun w_39 =>
q_gt w_39 5 1 (fun v_42 =>
q_pt w_39 5 1 (v_42 + (1 : Int32)) (fun w_48 =>
some (v_42, w_48))))))
else
some ((-4 : Int32), w))
set_option maxRecDepth 100000 in
set_option maxHeartbeats 4000000 in
theorem c_X7_addTeam (l : Launch) (D : va_G) (cT : Nat → ClassId) (lo : Nat) (w : Wd) (ad : Nat → Nat) (a1 : Int32) (r : Int32) (w9 : Wd) (h : f_X7_addTeam w a1 = some (r, w9)) : Met l yX7_addTeam (.code yX7_addTeam cX7_addTeam 2 (some .int) :: TW) { frames := 1, cells := 0, slots := 0, locals := 22 } (mPc D cT lo NB w ad [.ref (ad 5), .int a1]) (mQ D cT lo NB w w9 ad (some (.int r))) 0 0 (fun q => lo ≤ q) := by
  unfold f_X7_addTeam at h
  refine x_met (lv := [(0, .ref (ad 5)), (1, .int a1)]) (by decide +kernel) (Nat.le_of_ble_eq_true rfl) rfl ?_
  intro p e s m args below meth c ls F hr hlk hP hin hl
  have hx := F.1
  have hb := F.2.1
  have hS : va_S (fun q => lo ≤ q) s.heap s.heap [] := va_S.rf
  have hM_w : mono w w := mono.refl
  refine lv_iload_n hx hb dX7_addTeam_0 rfl (lv_at hl 1 rfl) ?_
  refine lv_iconst (v := 1) hx hb dX7_addTeam_1 ic_1 ?_
  refine lv_sipush (v := 300) hx hb dX7_addTeam_2 is_300 ?_
  refine x_goesZ (x_runSN (As := [.int a1, .int (1 : Int32), .int (300 : Int32)]) (rest := []) F hP hS (c_X11_within l D cT lo NB w ad a1 (1 : Int32) (300 : Int32)) cw_X11_within nl_X7_30 st_X11_within ⟨rfl, rfl, Nat.le_of_ble_eq_true rfl, Nat.le_of_ble_eq_true rfl⟩ hl.1 rfl (Nat.le_of_ble_eq_true rfl) dX7_addTeam_5 ⟨Nat.zero_le _, Nat.zero_le _⟩) hS (fun H locs hz_5 hP hS _ => ?_)
  refine lv_if_ne (tgt := 14) hx hb dX7_addTeam_8 (by decide) (fun hc => ?_) (fun hc => ?_)
  · have h := if_f _ hc h
    refine lv_aload_n hx hb dX7_addTeam_14 rfl (lv_at hl 0 rfl) ?_
    refine y_geti h F hP k_5 (n2 (hP.al 5 rfl)) fl_X7_34 rfl dX7_addTeam_15 (fun v_15 h => ?_)
    refine lv_iconst (v := 4) hx hb dX7_addTeam_18 ic_4 ?_
    refine lv_icmp_lt (tgt := 25) hx hb dX7_addTeam_19 (by decide) (fun hc => ?_) (fun hc => ?_)
    · have h := if_t _ hc h
      refine lv_aload_n hx hb dX7_addTeam_25 rfl (lv_at hl 0 rfl) ?_
      refine lv_iconst (v := 0) hx hb dX7_addTeam_26 ic_0 ?_
      refine y_putz h (Or.inl rfl) F hP hS k_5 (n2 (hP.al 5 rfl)) fl_X7_37 rfl dX7_addTeam_27 (fun w_27 H locs hm h hP hS => ?_)
      have hM_w := hm
      refine lv_aload_n hx hb dX7_addTeam_30 rfl (lv_at hl 0 rfl) ?_
      refine x_getr F hP k_5 (hP.al 5 rfl) fl_X7_11 rfl r_5_0 dX7_addTeam_31 ?_
      refine lv_aload_n hx hb dX7_addTeam_34 rfl (lv_at hl 0 rfl) ?_
      refine y_geti h F hP k_5 (n2 (hP.al 5 rfl)) fl_X7_34 rfl dX7_addTeam_35 (fun v_35 h => ?_)
      refine lv_iload_n hx hb dX7_addTeam_38 rfl (lv_at hl 1 rfl) ?_
      refine y_iast h F hP hS k_29 (n2 (hP.al 29 rfl)) dX7_addTeam_39 (fun w_39 H locs hm h hP hS => ?_)
      have hM_w := hM_w.trans hm
      refine lv_aload_n hx hb dX7_addTeam_40 rfl (lv_at hl 0 rfl) ?_
      refine lv_dup hx hb dX7_addTeam_41 rfl ?_
      refine y_geti h F hP k_5 (n2 (hP.al 5 rfl)) fl_X7_34 rfl dX7_addTeam_42 (fun v_42 h => ?_)
      refine lv_dup_x1 hx hb dX7_addTeam_45 rfl rfl ?_
      refine lv_iconst (v := 1) hx hb dX7_addTeam_46 ic_1 ?_
      refine lv_iadd hx hb dX7_addTeam_47 ?_
      refine y_puti h F hP hS k_5 (n2 (hP.al 5 rfl)) fl_X7_34 rfl dX7_addTeam_48 (fun w_48 H locs hm h hP hS => ?_)
      have hM_w := hM_w.trans hm
      exact y_iretM h F hr hP hS hM_w hlk dX7_addTeam_51
    · have h := if_f _ hc h
      refine lv_bipush (v := -4) hx hb dX7_addTeam_22 ib_m4 ?_
      exact y_iretM h F hr hP hS mono.refl hlk dX7_addTeam_24
  · have h := if_t _ hc h
    refine lv_bipush (v := -2) hx hb dX7_addTeam_11 ib_m2 ?_
    exact y_iretM h F hr hP hS mono.refl hlk dX7_addTeam_13
def f_X7_addStage (w : Wd) (a1 : Int32) : Option (Int32 × Wd) :=
if (f_X11_within a1 (0 : Int32) (2000 : Int32)) = 0 then
some ((-2 : Int32), w)
else
q_gt w 5 3 (fun v_15 =>
if v_15 < (6 : Int32) then
q_pt w 5 7 (0 : Int32) (fun w_28 =>
q_gt w_28 5 3 (fun v_36 =>
q_st w_28 30 6 v_36 a1 (fun w_40 =>
q_gt w_40 5 3 (fun v_43 =>
q_pt w_40 5 3 (v_43 + (1 : Int32)) (fun w_49 =>
some (v_43, w_49))))))
else
some ((-4 : Int32), w))
set_option maxRecDepth 100000 in
set_option maxHeartbeats 4000000 in
theorem c_X7_addStage (l : Launch) (D : va_G) (cT : Nat → ClassId) (lo : Nat) (w : Wd) (ad : Nat → Nat) (a1 : Int32) (r : Int32) (w9 : Wd) (h : f_X7_addStage w a1 = some (r, w9)) : Met l yX7_addStage (.code yX7_addStage cX7_addStage 2 (some .int) :: TW) { frames := 1, cells := 0, slots := 0, locals := 22 } (mPc D cT lo NB w ad [.ref (ad 5), .int a1]) (mQ D cT lo NB w w9 ad (some (.int r))) 0 0 (fun q => lo ≤ q) := by
  unfold f_X7_addStage at h
  refine x_met (lv := [(0, .ref (ad 5)), (1, .int a1)]) (by decide +kernel) (Nat.le_of_ble_eq_true rfl) rfl ?_
  intro p e s m args below meth c ls F hr hlk hP hin hl
  have hx := F.1
  have hb := F.2.1
  have hS : va_S (fun q => lo ≤ q) s.heap s.heap [] := va_S.rf
  have hM_w : mono w w := mono.refl
  refine lv_iload_n hx hb dX7_addStage_0 rfl (lv_at hl 1 rfl) ?_
  refine lv_iconst (v := 0) hx hb dX7_addStage_1 ic_0 ?_
  refine lv_sipush (v := 2000) hx hb dX7_addStage_2 is_2000 ?_
  refine x_goesZ (x_runSN (As := [.int a1, .int (0 : Int32), .int (2000 : Int32)]) (rest := []) F hP hS (c_X11_within l D cT lo NB w ad a1 (0 : Int32) (2000 : Int32)) cw_X11_within nl_X7_30 st_X11_within ⟨rfl, rfl, Nat.le_of_ble_eq_true rfl, Nat.le_of_ble_eq_true rfl⟩ hl.1 rfl (Nat.le_of_ble_eq_true rfl) dX7_addStage_5 ⟨Nat.zero_le _, Nat.zero_le _⟩) hS (fun H locs hz_5 hP hS _ => ?_)
  refine lv_if_ne (tgt := 14) hx hb dX7_addStage_8 (by decide) (fun hc => ?_) (fun hc => ?_)
  · have h := if_f _ hc h
    refine lv_aload_n hx hb dX7_addStage_14 rfl (lv_at hl 0 rfl) ?_
    refine y_geti h F hP k_5 (n2 (hP.al 5 rfl)) fl_X7_41 rfl dX7_addStage_15 (fun v_15 h => ?_)
    refine lv_bipush (v := 6) hx hb dX7_addStage_18 ib_6 ?_
    refine lv_icmp_lt (tgt := 26) hx hb dX7_addStage_20 (by decide) (fun hc => ?_) (fun hc => ?_)
    · have h := if_t _ hc h
      refine lv_aload_n hx hb dX7_addStage_26 rfl (lv_at hl 0 rfl) ?_
      refine lv_iconst (v := 0) hx hb dX7_addStage_27 ic_0 ?_
      refine y_putz h (Or.inl rfl) F hP hS k_5 (n2 (hP.al 5 rfl)) fl_X7_37 rfl dX7_addStage_28 (fun w_28 H locs hm h hP hS => ?_)
      have hM_w := hm
      refine lv_aload_n hx hb dX7_addStage_31 rfl (lv_at hl 0 rfl) ?_
      refine x_getr F hP k_5 (hP.al 5 rfl) fl_X7_15 rfl r_5_2 dX7_addStage_32 ?_
      refine lv_aload_n hx hb dX7_addStage_35 rfl (lv_at hl 0 rfl) ?_
      refine y_geti h F hP k_5 (n2 (hP.al 5 rfl)) fl_X7_41 rfl dX7_addStage_36 (fun v_36 h => ?_)
      refine lv_iload_n hx hb dX7_addStage_39 rfl (lv_at hl 1 rfl) ?_
      refine y_iast h F hP hS k_30 (n2 (hP.al 30 rfl)) dX7_addStage_40 (fun w_40 H locs hm h hP hS => ?_)
      have hM_w := hM_w.trans hm
      refine lv_aload_n hx hb dX7_addStage_41 rfl (lv_at hl 0 rfl) ?_
      refine lv_dup hx hb dX7_addStage_42 rfl ?_
      refine y_geti h F hP k_5 (n2 (hP.al 5 rfl)) fl_X7_41 rfl dX7_addStage_43 (fun v_43 h => ?_)
      refine lv_dup_x1 hx hb dX7_addStage_46 rfl rfl ?_
      refine lv_iconst (v := 1) hx hb dX7_addStage_47 ic_1 ?_
      refine lv_iadd hx hb dX7_addStage_48 ?_
      refine y_puti h F hP hS k_5 (n2 (hP.al 5 rfl)) fl_X7_41 rfl dX7_addStage_49 (fun w_49 H locs hm h hP hS => ?_)
      have hM_w := hM_w.trans hm
      exact y_iretM h F hr hP hS hM_w hlk dX7_addStage_52
    · have h := if_f _ hc h
      refine lv_bipush (v := -4) hx hb dX7_addStage_23 ib_m4 ?_
      exact y_iretM h F hr hP hS mono.refl hlk dX7_addStage_25
  · have h := if_t _ hc h
    refine lv_bipush (v := -2) hx hb dX7_addStage_11 ib_m2 ?_
    exact y_iretM h F hr hP hS mono.refl hlk dX7_addStage_13
def f_X7_tellRun (w : Wd) (a1 : Int32) : Option (Int32 × Wd) :=
if (f_X11_within a1 (1 : Int32) (3 : Int32)) = 0 then
some ((-2 : Int32), w)
else
q_pt w 5 7 (0 : Int32) (fun w_14 =>
q_gt w_14 5 4 (fun v_18 =>
q_pt w_14 5 4 a1 (fun w_24 =>
some (v_18, w_24))))
set_option maxRecDepth 100000 in
set_option maxHeartbeats 4000000 in
theorem c_X7_tellRun (l : Launch) (D : va_G) (cT : Nat → ClassId) (lo : Nat) (w : Wd) (ad : Nat → Nat) (a1 : Int32) (r : Int32) (w9 : Wd) (h : f_X7_tellRun w a1 = some (r, w9)) : Met l yX7_tellRun (.code yX7_tellRun cX7_tellRun 3 (some .int) :: TW) { frames := 1, cells := 0, slots := 0, locals := 22 } (mPc D cT lo NB w ad [.ref (ad 5), .int a1]) (mQ D cT lo NB w w9 ad (some (.int r))) 0 0 (fun q => lo ≤ q) := by
  unfold f_X7_tellRun at h
  refine x_met (lv := [(0, .ref (ad 5)), (1, .int a1)]) (by decide +kernel) (Nat.le_of_ble_eq_true rfl) rfl ?_
  intro p e s m args below meth c ls F hr hlk hP hin hl
  have hx := F.1
  have hb := F.2.1
  have hS : va_S (fun q => lo ≤ q) s.heap s.heap [] := va_S.rf
  have hM_w : mono w w := mono.refl
  refine lv_iload_n hx hb dX7_tellRun_0 rfl (lv_at hl 1 rfl) ?_
  refine lv_iconst (v := 1) hx hb dX7_tellRun_1 ic_1 ?_
  refine lv_iconst (v := 3) hx hb dX7_tellRun_2 ic_3 ?_
  refine x_goesZ (x_runSN (As := [.int a1, .int (1 : Int32), .int (3 : Int32)]) (rest := []) F hP hS (c_X11_within l D cT lo NB w ad a1 (1 : Int32) (3 : Int32)) cw_X11_within nl_X7_30 st_X11_within ⟨rfl, rfl, Nat.le_of_ble_eq_true rfl, Nat.le_of_ble_eq_true rfl⟩ hl.1 rfl (Nat.le_of_ble_eq_true rfl) dX7_tellRun_3 ⟨Nat.zero_le _, Nat.zero_le _⟩) hS (fun H locs hz_3 hP hS _ => ?_)
  refine lv_if_ne (tgt := 12) hx hb dX7_tellRun_6 (by decide) (fun hc => ?_) (fun hc => ?_)
  · have h := if_f _ hc h
    refine lv_aload_n hx hb dX7_tellRun_12 rfl (lv_at hl 0 rfl) ?_
    refine lv_iconst (v := 0) hx hb dX7_tellRun_13 ic_0 ?_
    refine y_putz h (Or.inl rfl) F hP hS k_5 (n2 (hP.al 5 rfl)) fl_X7_37 rfl dX7_tellRun_14 (fun w_14 H locs hm h hP hS => ?_)
    have hM_w := hm
    refine lv_aload_n hx hb dX7_tellRun_17 rfl (lv_at hl 0 rfl) ?_
    refine y_geti h F hP k_5 (n2 (hP.al 5 rfl)) fl_X7_18 rfl dX7_tellRun_18 (fun v_18 h => ?_)
    refine lv_istore_n (lv' := [(2, .int v_18), (0, .ref (ad 5)), (1, .int a1)]) hx hb dX7_tellRun_21 rfl hl (Nat.le_of_ble_eq_true rfl) rfl (fun ls hl => ?_)
    refine lv_aload_n hx hb dX7_tellRun_22 rfl (lv_at hl 1 rfl) ?_
    refine lv_iload_n hx hb dX7_tellRun_23 rfl (lv_at hl 2 rfl) ?_
    refine y_puti h F hP hS k_5 (n2 (hP.al 5 rfl)) fl_X7_18 rfl dX7_tellRun_24 (fun w_24 H locs hm h hP hS => ?_)
    have hM_w := hM_w.trans hm
    refine lv_iload_n hx hb dX7_tellRun_27 rfl (lv_at hl 0 rfl) ?_
    exact y_iretM h F hr hP hS hM_w hlk dX7_tellRun_28
  · have h := if_t _ hc h
    refine lv_bipush (v := -2) hx hb dX7_tellRun_9 ib_m2 ?_
    exact y_iretM h F hr hP hS mono.refl hlk dX7_tellRun_11
def l_X7_stateBehind_5 (a1 : Int32) (a2 : Int32) (w : Wd) : Nat → Int32 → Int32 → Option Int32
  | 0, _, _ => none
  | n_5 + 1, x4_5l, x3_5l =>
    q_gt w 5 1 (fun v_8 =>
    if v_8 ≤ x4_5l then
    some x3_5l
    else
    q_jn (fun (x3_57 : Int32) =>
    q_lt (x4_5l + (1 : Int32)) (fun v_57 =>
    l_X7_stateBehind_5 a1 a2 w n_5 v_57 x3_57)) (fun j_57 =>
    if ((a2 >>> (x4_5l &&& 31)) &&& (1 : Int32)) = (1 : Int32) then
    q_lt (((a1 >>> (((2 : Int32) * x4_5l) &&& 31)) &&& (3 : Int32)) + (1 : Int32)) (fun v_34 =>
    q_gt w 5 4 (fun v_39 =>
    if v_34 ≤ v_39 then
    q_lt (x3_5l ||| (v_34 <<< (((2 : Int32) * x4_5l) &&& 31))) (fun v_56 =>
    j_57 v_56)
    else
    some (-1 : Int32)))
    else
    j_57 x3_5l))
def f_X7_stateBehind (w : Wd) (a1 : Int32) (a2 : Int32) : Option Int32 :=
l_X7_stateBehind_5 a1 a2 w FU (0 : Int32) (0 : Int32)
set_option maxRecDepth 100000 in
set_option maxHeartbeats 4000000 in
theorem c_X7_stateBehind (l : Launch) (D : va_G) (cT : Nat → ClassId) (lo : Nat) (w : Wd) (ad : Nat → Nat) (a1 : Int32) (a2 : Int32) (r : Int32) (h : f_X7_stateBehind w a1 a2 = some r) : Met l yX7_stateBehind (.code yX7_stateBehind cX7_stateBehind 6 (some .int) :: TW) { frames := 0, cells := 0, slots := 0, locals := 0 } (mPc D cT lo NB w ad [.ref (ad 5), .int a1, .int a2]) (mQ D cT lo NB w w ad (some (.int r))) 0 0 (fun q => lo ≤ q) := by
  unfold f_X7_stateBehind at h
  refine x_met (lv := [(0, .ref (ad 5)), (1, .int a1), (2, .int a2)]) (by decide +kernel) (Nat.le_of_ble_eq_true rfl) rfl ?_
  intro p e s m args below meth c ls F hr hlk hP hin hl
  have hx := F.1
  have hb := F.2.1
  have hS : va_S (fun q => lo ≤ q) s.heap s.heap [] := va_S.rf
  refine lv_iconst (v := 0) hx hb dX7_stateBehind_0 ic_0 ?_
  refine lv_istore_n (lv' := [(3, .int (0 : Int32)), (0, .ref (ad 5)), (1, .int a1), (2, .int a2)]) hx hb dX7_stateBehind_1 rfl hl (Nat.le_of_ble_eq_true rfl) rfl (fun ls hl => ?_)
  refine lv_iconst (v := 0) hx hb dX7_stateBehind_2 ic_0 ?_
  refine lv_istore (lv' := [(4, .int (0 : Int32)), (3, .int (0 : Int32)), (0, .ref (ad 5)), (1, .int a1), (2, .int a2)]) hx hb dX7_stateBehind_3 hl (Nat.le_of_ble_eq_true rfl) rfl (fun ls hl => ?_)
  have L_5 : ∀ (n_5 : Nat) (x4_5l : Int32) (x3_5l : Int32), l_X7_stateBehind_5 a1 a2 w n_5 x4_5l x3_5l = some r → GG p l e { frames := 0, cells := 0, slots := 0, locals := 0 } s m args below meth c 0 0 (MQ below (mQ D cT lo NB w w ad (some (.int r))) args s 0 0 (fun q => lo ≤ q)) D cT lo NB 6 ad w 5 [(4, .int x4_5l), (3, .int x3_5l), (0, .ref (ad 5)), (1, .int a1), (2, .int a2)] [] := by
    intro n_5
    induction n_5 with
    | zero =>
      intro x4_5l x3_5l h
      exact absurd h (by unfold l_X7_stateBehind_5; exact fun z => by cases z)
    | succ n_5 ih_5 =>
      intro x4_5l x3_5l h H locs ls hP hS hl
      unfold l_X7_stateBehind_5 at h
      refine lv_iload hx hb dX7_stateBehind_5 (lv_at hl 0 rfl) ?_
      refine lv_aload_n hx hb dX7_stateBehind_7 rfl (lv_at hl 2 rfl) ?_
      refine y_geti h F hP k_5 (n2 (hP.al 5 rfl)) fl_X7_34 rfl dX7_stateBehind_8 (fun v_8 h => ?_)
      refine lv_icmp_ge (tgt := 63) hx hb dX7_stateBehind_11 (by decide) (fun hc => ?_) (fun hc => ?_)
      · have h := if_t _ hc h
        refine lv_iload_n hx hb dX7_stateBehind_63 rfl (lv_at hl 1 rfl) ?_
        exact y_iretO h F hr hP hS hlk dX7_stateBehind_64
      · have h := if_f _ hc h
        refine lv_iload_n hx hb dX7_stateBehind_14 rfl (lv_at hl 4 rfl) ?_
        refine lv_iload hx hb dX7_stateBehind_15 (lv_at hl 0 rfl) ?_
        refine lv_ishr hx hb dX7_stateBehind_17 ?_
        refine lv_iconst (v := 1) hx hb dX7_stateBehind_18 ic_1 ?_
        refine lv_iand hx hb dX7_stateBehind_19 ?_
        refine lv_iconst (v := 1) hx hb dX7_stateBehind_20 ic_1 ?_
        refine jn_use (fun (j_57 : Int32 → Option Int32) => ∀ (x3_57 : Int32), j_57 x3_57 = some r → GG p l e { frames := 0, cells := 0, slots := 0, locals := 0 } s m args below meth c 0 0 (MQ below (mQ D cT lo NB w w ad (some (.int r))) args s 0 0 (fun q => lo ≤ q)) D cT lo NB 6 ad w 57 [(4, .int x4_5l), (3, .int x3_57), (0, .ref (ad 5)), (1, .int a1), (2, .int a2)] []) h (fun x3_57 h H locs ls hP hS hl => ?_) (fun j_57 J_57 h => ?_)
        · refine y_iinc (lv' := fun (v_57 : Int32) => [(4, .int v_57), (3, .int x3_57), (0, .ref (ad 5)), (1, .int a1), (2, .int a2)]) h F ic_1 dX7_stateBehind_57 hl (kq := 0) rfl (Nat.le_of_ble_eq_true rfl) (fun _ => rfl) (fun v_57 ls hl h => ?_)
          refine lv_goto (tgt := 5) hx hb dX7_stateBehind_60 (by decide) ?_
          exact ih_5 v_57 x3_57 h _ _ _ hP hS (lv_sub hl [0, 1, 2, 3, 4] rfl)
        · refine lv_icmp_ne (tgt := 57) hx hb dX7_stateBehind_21 (by decide) (fun hc => ?_) (fun hc => ?_)
          · have h := if_f _ hc h
            exact J_57 x3_5l h _ _ _ hP hS (lv_sub hl [0, 1, 2, 3, 4] rfl)
          · have h := if_t _ hc h
            refine lv_iload_n hx hb dX7_stateBehind_24 rfl (lv_at hl 3 rfl) ?_
            refine lv_iconst (v := 2) hx hb dX7_stateBehind_25 ic_2 ?_
            refine lv_iload hx hb dX7_stateBehind_26 (lv_at hl 0 rfl) ?_
            refine lv_imul hx hb dX7_stateBehind_28 ?_
            refine lv_ishr hx hb dX7_stateBehind_29 ?_
            refine lv_iconst (v := 3) hx hb dX7_stateBehind_30 ic_3 ?_
            refine lv_iand hx hb dX7_stateBehind_31 ?_
            refine lv_iconst (v := 1) hx hb dX7_stateBehind_32 ic_1 ?_
            refine lv_iadd hx hb dX7_stateBehind_33 ?_
            refine y_let h (fun v_34 h => ?_)
            refine lv_istore (lv' := [(5, .int v_34), (4, .int x4_5l), (3, .int x3_5l), (0, .ref (ad 5)), (1, .int a1), (2, .int a2)]) hx hb dX7_stateBehind_34 hl (Nat.le_of_ble_eq_true rfl) rfl (fun ls hl => ?_)
            refine lv_iload hx hb dX7_stateBehind_36 (lv_at hl 0 rfl) ?_
            refine lv_aload_n hx hb dX7_stateBehind_38 rfl (lv_at hl 3 rfl) ?_
            refine y_geti h F hP k_5 (n2 (hP.al 5 rfl)) fl_X7_18 rfl dX7_stateBehind_39 (fun v_39 h => ?_)
            refine lv_icmp_le (tgt := 47) hx hb dX7_stateBehind_42 (by decide) (fun hc => ?_) (fun hc => ?_)
            · have h := if_t _ hc h
              refine lv_iload_n hx hb dX7_stateBehind_47 rfl (lv_at hl 2 rfl) ?_
              refine lv_iload hx hb dX7_stateBehind_48 (lv_at hl 0 rfl) ?_
              refine lv_iconst (v := 2) hx hb dX7_stateBehind_50 ic_2 ?_
              refine lv_iload hx hb dX7_stateBehind_51 (lv_at hl 1 rfl) ?_
              refine lv_imul hx hb dX7_stateBehind_53 ?_
              refine lv_ishl hx hb dX7_stateBehind_54 ?_
              refine lv_ior hx hb dX7_stateBehind_55 ?_
              refine y_let h (fun v_56 h => ?_)
              refine lv_istore_n (lv' := [(3, .int v_56), (5, .int v_34), (4, .int x4_5l), (0, .ref (ad 5)), (1, .int a1), (2, .int a2)]) hx hb dX7_stateBehind_56 rfl hl (Nat.le_of_ble_eq_true rfl) rfl (fun ls hl => ?_)
              exact J_57 v_56 h _ _ _ hP hS (lv_sub hl [2, 0, 3, 4, 5] rfl)
            · have h := if_f _ hc h
              refine lv_iconst (v := -1) hx hb dX7_stateBehind_45 ic_m1 ?_
              exact y_iretO h F hr hP hS hlk dX7_stateBehind_46
  exact L_5 FU (0 : Int32) (0 : Int32) h _ _ _ hP hS (lv_sub hl [0, 1, 2, 3, 4] rfl)
def l_X7_handsOf_4 (a1 : Int32) (w : Wd) : Nat → Int32 → Int32 → Option Int32
  | 0, _, _ => none
  | n_4 + 1, x3_4l, x2_4l =>
    q_gt w 5 1 (fun v_6 =>
    if v_6 ≤ x3_4l then
    some x2_4l
    else
    q_jn (fun (x2_30 : Int32) =>
    q_lt (x3_4l + (1 : Int32)) (fun v_30 =>
    l_X7_handsOf_4 a1 w n_4 v_30 x2_30)) (fun j_30 =>
    if ((a1 >>> (x3_4l &&& 31)) &&& (1 : Int32)) = (1 : Int32) then
    q_ld w 29 4 x3_4l (fun v_27 =>
    q_lt (x2_4l + v_27) (fun v_29 =>
    j_30 v_29))
    else
    j_30 x2_4l))
def f_X7_handsOf (w : Wd) (a1 : Int32) : Option Int32 :=
l_X7_handsOf_4 a1 w FU (0 : Int32) (0 : Int32)
set_option maxRecDepth 100000 in
set_option maxHeartbeats 4000000 in
theorem c_X7_handsOf (l : Launch) (D : va_G) (cT : Nat → ClassId) (lo : Nat) (w : Wd) (ad : Nat → Nat) (a1 : Int32) (r : Int32) (h : f_X7_handsOf w a1 = some r) : Met l yX7_handsOf (.code yX7_handsOf cX7_handsOf 4 (some .int) :: TW) { frames := 0, cells := 0, slots := 0, locals := 0 } (mPc D cT lo NB w ad [.ref (ad 5), .int a1]) (mQ D cT lo NB w w ad (some (.int r))) 0 0 (fun q => lo ≤ q) := by
  unfold f_X7_handsOf at h
  refine x_met (lv := [(0, .ref (ad 5)), (1, .int a1)]) (by decide +kernel) (Nat.le_of_ble_eq_true rfl) rfl ?_
  intro p e s m args below meth c ls F hr hlk hP hin hl
  have hx := F.1
  have hb := F.2.1
  have hS : va_S (fun q => lo ≤ q) s.heap s.heap [] := va_S.rf
  refine lv_iconst (v := 0) hx hb dX7_handsOf_0 ic_0 ?_
  refine lv_istore_n (lv' := [(2, .int (0 : Int32)), (0, .ref (ad 5)), (1, .int a1)]) hx hb dX7_handsOf_1 rfl hl (Nat.le_of_ble_eq_true rfl) rfl (fun ls hl => ?_)
  refine lv_iconst (v := 0) hx hb dX7_handsOf_2 ic_0 ?_
  refine lv_istore_n (lv' := [(3, .int (0 : Int32)), (2, .int (0 : Int32)), (0, .ref (ad 5)), (1, .int a1)]) hx hb dX7_handsOf_3 rfl hl (Nat.le_of_ble_eq_true rfl) rfl (fun ls hl => ?_)
  have L_4 : ∀ (n_4 : Nat) (x3_4l : Int32) (x2_4l : Int32), l_X7_handsOf_4 a1 w n_4 x3_4l x2_4l = some r → GG p l e { frames := 0, cells := 0, slots := 0, locals := 0 } s m args below meth c 0 0 (MQ below (mQ D cT lo NB w w ad (some (.int r))) args s 0 0 (fun q => lo ≤ q)) D cT lo NB 4 ad w 4 [(3, .int x3_4l), (2, .int x2_4l), (0, .ref (ad 5)), (1, .int a1)] [] := by
    intro n_4
    induction n_4 with
    | zero =>
      intro x3_4l x2_4l h
      exact absurd h (by unfold l_X7_handsOf_4; exact fun z => by cases z)
    | succ n_4 ih_4 =>
      intro x3_4l x2_4l h H locs ls hP hS hl
      unfold l_X7_handsOf_4 at h
      refine lv_iload_n hx hb dX7_handsOf_4 rfl (lv_at hl 0 rfl) ?_
      refine lv_aload_n hx hb dX7_handsOf_5 rfl (lv_at hl 2 rfl) ?_
      refine y_geti h F hP k_5 (n2 (hP.al 5 rfl)) fl_X7_34 rfl dX7_handsOf_6 (fun v_6 h => ?_)
      refine lv_icmp_ge (tgt := 36) hx hb dX7_handsOf_9 (by decide) (fun hc => ?_) (fun hc => ?_)
      · have h := if_t _ hc h
        refine lv_iload_n hx hb dX7_handsOf_36 rfl (lv_at hl 1 rfl) ?_
        exact y_iretO h F hr hP hS hlk dX7_handsOf_37
      · have h := if_f _ hc h
        refine lv_iload_n hx hb dX7_handsOf_12 rfl (lv_at hl 3 rfl) ?_
        refine lv_iload_n hx hb dX7_handsOf_13 rfl (lv_at hl 0 rfl) ?_
        refine lv_ishr hx hb dX7_handsOf_14 ?_
        refine lv_iconst (v := 1) hx hb dX7_handsOf_15 ic_1 ?_
        refine lv_iand hx hb dX7_handsOf_16 ?_
        refine lv_iconst (v := 1) hx hb dX7_handsOf_17 ic_1 ?_
        refine jn_use (fun (j_30 : Int32 → Option Int32) => ∀ (x2_30 : Int32), j_30 x2_30 = some r → GG p l e { frames := 0, cells := 0, slots := 0, locals := 0 } s m args below meth c 0 0 (MQ below (mQ D cT lo NB w w ad (some (.int r))) args s 0 0 (fun q => lo ≤ q)) D cT lo NB 4 ad w 30 [(3, .int x3_4l), (2, .int x2_30), (0, .ref (ad 5)), (1, .int a1)] []) h (fun x2_30 h H locs ls hP hS hl => ?_) (fun j_30 J_30 h => ?_)
        · refine y_iinc (lv' := fun (v_30 : Int32) => [(3, .int v_30), (2, .int x2_30), (0, .ref (ad 5)), (1, .int a1)]) h F ic_1 dX7_handsOf_30 hl (kq := 0) rfl (Nat.le_of_ble_eq_true rfl) (fun _ => rfl) (fun v_30 ls hl h => ?_)
          refine lv_goto (tgt := 4) hx hb dX7_handsOf_33 (by decide) ?_
          exact ih_4 v_30 x2_30 h _ _ _ hP hS (lv_sub hl [0, 1, 2, 3] rfl)
        · refine lv_icmp_ne (tgt := 30) hx hb dX7_handsOf_18 (by decide) (fun hc => ?_) (fun hc => ?_)
          · have h := if_f _ hc h
            exact J_30 x2_4l h _ _ _ hP hS (lv_sub hl [0, 1, 2, 3] rfl)
          · have h := if_t _ hc h
            refine lv_iload_n hx hb dX7_handsOf_21 rfl (lv_at hl 1 rfl) ?_
            refine lv_aload_n hx hb dX7_handsOf_22 rfl (lv_at hl 2 rfl) ?_
            refine x_getr F hP k_5 (hP.al 5 rfl) fl_X7_11 rfl r_5_0 dX7_handsOf_23 ?_
            refine lv_iload_n hx hb dX7_handsOf_26 rfl (lv_at hl 0 rfl) ?_
            refine y_iald h F hP k_29 (n2 (hP.al 29 rfl)) dX7_handsOf_27 (fun v_27 h => ?_)
            refine lv_iadd hx hb dX7_handsOf_28 ?_
            refine y_let h (fun v_29 h => ?_)
            refine lv_istore_n (lv' := [(2, .int v_29), (3, .int x3_4l), (0, .ref (ad 5)), (1, .int a1)]) hx hb dX7_handsOf_29 rfl hl (Nat.le_of_ble_eq_true rfl) rfl (fun ls hl => ?_)
            exact J_30 v_29 h _ _ _ hP hS (lv_sub hl [1, 0, 2, 3] rfl)
  exact L_4 FU (0 : Int32) (0 : Int32) h _ _ _ hP hS (lv_sub hl [0, 1, 2, 3] rfl)
def f_X7_fewestWith (w : Wd) (a1 : Int32) (a2 : Int32) (a3 : Int32) : Option Int32 :=
q_bo (f_X7_stateBehind w a2 a3) (fun v_3 =>
if v_3 = (-1 : Int32) then
some (1000 : Int32)
else
q_bo (f_X7_handsOf w a3) (fun v_16 =>
q_ld w 30 6 a1 (fun v_24 =>
if v_24 ≤ v_16 then
q_ldq w 31 7 (a1 + (1 : Int32)) (fun q_46 =>
q_ld w q_46 256 v_3 (fun v_49 =>
some (f_J9_min_7cf53 (1000 : Int32) ((f_J6_bitCount_0f7a4 a3) + v_49))))
else
some (1000 : Int32))))
set_option maxRecDepth 100000 in
set_option maxHeartbeats 4000000 in
theorem c_X7_fewestWith (l : Launch) (D : va_G) (cT : Nat → ClassId) (lo : Nat) (w : Wd) (ad : Nat → Nat) (a1 : Int32) (a2 : Int32) (a3 : Int32) (r : Int32) (h : f_X7_fewestWith w a1 a2 a3 = some r) : Met l yX7_fewestWith (.code yX7_fewestWith cX7_fewestWith 5 (some .int) :: TW) { frames := 1, cells := 0, slots := 0, locals := 25 } (mPc D cT lo NB w ad [.ref (ad 5), .int a1, .int a2, .int a3]) (mQ D cT lo NB w w ad (some (.int r))) 0 0 (fun q => lo ≤ q) := by
  unfold f_X7_fewestWith at h
  refine x_met (lv := [(0, .ref (ad 5)), (1, .int a1), (2, .int a2), (3, .int a3)]) (by decide +kernel) (Nat.le_of_ble_eq_true rfl) rfl ?_
  intro p e s m args below meth c ls F hr hlk hP hin hl
  have hx := F.1
  have hb := F.2.1
  have hS : va_S (fun q => lo ≤ q) s.heap s.heap [] := va_S.rf
  refine lv_aload_n hx hb dX7_fewestWith_0 rfl (lv_at hl 0 rfl) ?_
  refine lv_iload_n hx hb dX7_fewestWith_1 rfl (lv_at hl 2 rfl) ?_
  refine lv_iload_n hx hb dX7_fewestWith_2 rfl (lv_at hl 3 rfl) ?_
  obtain ⟨v_3, hc_3, h⟩ := bo_s h
  refine x_goes (x_runV (As := [.int a2, .int a3]) (rest := []) F hP hS (c_X7_stateBehind l D cT lo w ad a2 a3 v_3 hc_3) cw_X7_stateBehind lk_X7_73 vi_X7_stateBehind k_5 (n2 (hP.al 5 rfl)) rfl ⟨rfl, rfl, Nat.le_of_ble_eq_true rfl, Nat.le_of_ble_eq_true rfl⟩ hl.1 rfl (Nat.le_of_ble_eq_true rfl) dX7_fewestWith_3 ⟨Nat.zero_le _, Nat.zero_le _⟩) hS (fun H locs hP hS _ => ?_)
  refine lv_istore (lv' := [(4, .int v_3), (0, .ref (ad 5)), (1, .int a1), (2, .int a2), (3, .int a3)]) hx hb dX7_fewestWith_6 hl (Nat.le_of_ble_eq_true rfl) rfl (fun ls hl => ?_)
  refine lv_iload hx hb dX7_fewestWith_8 (lv_at hl 0 rfl) ?_
  refine lv_iconst (v := -1) hx hb dX7_fewestWith_10 ic_m1 ?_
  refine lv_icmp_eq (tgt := 28) hx hb dX7_fewestWith_11 (by decide) (fun hc => ?_) (fun hc => ?_)
  · have h := if_t _ hc h
    refine lv_sipush (v := 1000) hx hb dX7_fewestWith_28 is_1000 ?_
    exact y_iretO h F hr hP hS hlk dX7_fewestWith_31
  · have h := if_f _ hc h
    refine lv_aload_n hx hb dX7_fewestWith_14 rfl (lv_at hl 1 rfl) ?_
    refine lv_iload_n hx hb dX7_fewestWith_15 rfl (lv_at hl 4 rfl) ?_
    obtain ⟨v_16, hc_16, h⟩ := bo_s h
    refine x_goes (x_runV (As := [.int a3]) (rest := []) F hP hS (c_X7_handsOf l D cT lo w ad a3 v_16 hc_16) cw_X7_handsOf lk_X7_76 vi_X7_handsOf k_5 (n2 (hP.al 5 rfl)) rfl ⟨rfl, rfl, Nat.le_of_ble_eq_true rfl, Nat.le_of_ble_eq_true rfl⟩ hl.1 rfl (Nat.le_of_ble_eq_true rfl) dX7_fewestWith_16 ⟨Nat.zero_le _, Nat.zero_le _⟩) hS (fun H locs hP hS _ => ?_)
    refine lv_aload_n hx hb dX7_fewestWith_19 rfl (lv_at hl 1 rfl) ?_
    refine x_getr F hP k_5 (hP.al 5 rfl) fl_X7_15 rfl r_5_2 dX7_fewestWith_20 ?_
    refine lv_iload_n hx hb dX7_fewestWith_23 rfl (lv_at hl 2 rfl) ?_
    refine y_iald h F hP k_30 (n2 (hP.al 30 rfl)) dX7_fewestWith_24 (fun v_24 h => ?_)
    refine lv_icmp_ge (tgt := 32) hx hb dX7_fewestWith_25 (by decide) (fun hc => ?_) (fun hc => ?_)
    · have h := if_t _ hc h
      refine lv_sipush (v := 1000) hx hb dX7_fewestWith_32 is_1000 ?_
      refine lv_iload_n hx hb dX7_fewestWith_35 rfl (lv_at hl 4 rfl) ?_
      refine x_goes (x_runS (As := [.int a3]) (rest := [.int (1000 : Int32)]) F hP hS (c_J6_bitCount_0f7a4 l D cT lo NB w ad a3) cw_J6_bitCount_0f7a4 lk_X7_80 st_J6_bitCount_0f7a4 ⟨rfl, rfl, Nat.le_of_ble_eq_true rfl, Nat.le_of_ble_eq_true rfl⟩ hl.1 rfl (Nat.le_of_ble_eq_true rfl) dX7_fewestWith_36 ⟨Nat.zero_le _, Nat.zero_le _⟩) hS (fun H locs hP hS _ => ?_)
      refine lv_aload_n hx hb dX7_fewestWith_39 rfl (lv_at hl 1 rfl) ?_
      refine x_getr F hP k_5 (hP.al 5 rfl) fl_X7_24 rfl r_5_5 dX7_fewestWith_40 ?_
      refine lv_iload_n hx hb dX7_fewestWith_43 rfl (lv_at hl 2 rfl) ?_
      refine lv_iconst (v := 1) hx hb dX7_fewestWith_44 ic_1 ?_
      refine lv_iadd hx hb dX7_fewestWith_45 ?_
      refine y_aald h F hP k_31 (by decide) (by decide) (n2 (hP.al 31 rfl)) ek_31 dX7_fewestWith_46 (fun q_46 hk_q_46 ha_q_46 h => ?_)
      refine lv_iload hx hb dX7_fewestWith_47 (lv_at hl 0 rfl) ?_
      refine y_iald h F hP hk_q_46 (n2 ha_q_46) dX7_fewestWith_49 (fun v_49 h => ?_)
      refine lv_iadd hx hb dX7_fewestWith_50 ?_
      refine x_goes (x_runS (As := [.int (1000 : Int32), .int ((f_J6_bitCount_0f7a4 a3) + v_49)]) (rest := []) F hP hS (c_J9_min_7cf53 l D cT lo NB w ad (1000 : Int32) ((f_J6_bitCount_0f7a4 a3) + v_49)) cw_J9_min_7cf53 lk_X7_68 st_J9_min_7cf53 ⟨rfl, rfl, Nat.le_of_ble_eq_true rfl, Nat.le_of_ble_eq_true rfl⟩ hl.1 rfl (Nat.le_of_ble_eq_true rfl) dX7_fewestWith_51 ⟨Nat.zero_le _, Nat.zero_le _⟩) hS (fun H locs hP hS _ => ?_)
      exact y_iretO h F hr hP hS hlk dX7_fewestWith_54
    · have h := if_f _ hc h
      refine lv_sipush (v := 1000) hx hb dX7_fewestWith_28 is_1000 ?_
      exact y_iretO h F hr hP hS hlk dX7_fewestWith_31
def l_X7_fewestAt_7 (a1 : Int32) (a2 : Int32) (w : Wd) : Nat → Int32 → Int32 → Option Int32
  | 0, _, _ => none
  | n_7 + 1, x4_7l, x3_7l =>
    q_gt w 5 1 (fun v_11 =>
    if ((1 : Int32) <<< (v_11 &&& 31)) ≤ x4_7l then
    some x3_7l
    else
    q_bo (f_X7_fewestWith w a1 a2 x4_7l) (fun v_24 =>
    q_lt (f_J9_min_7cf53 x3_7l v_24) (fun v_30 =>
    q_lt (x4_7l + (1 : Int32)) (fun v_31 =>
    l_X7_fewestAt_7 a1 a2 w n_7 v_31 v_30))))
def f_X7_fewestAt (w : Wd) (a1 : Int32) (a2 : Int32) : Option Int32 :=
l_X7_fewestAt_7 a1 a2 w FU (0 : Int32) (1000 : Int32)
set_option maxRecDepth 100000 in
set_option maxHeartbeats 4000000 in
theorem c_X7_fewestAt (l : Launch) (D : va_G) (cT : Nat → ClassId) (lo : Nat) (w : Wd) (ad : Nat → Nat) (a1 : Int32) (a2 : Int32) (r : Int32) (h : f_X7_fewestAt w a1 a2 = some r) : Met l yX7_fewestAt (.code yX7_fewestAt cX7_fewestAt 5 (some .int) :: TW) { frames := 2, cells := 0, slots := 0, locals := 49 } (mPc D cT lo NB w ad [.ref (ad 5), .int a1, .int a2]) (mQ D cT lo NB w w ad (some (.int r))) 0 0 (fun q => lo ≤ q) := by
  unfold f_X7_fewestAt at h
  refine x_met (lv := [(0, .ref (ad 5)), (1, .int a1), (2, .int a2)]) (by decide +kernel) (Nat.le_of_ble_eq_true rfl) rfl ?_
  intro p e s m args below meth c ls F hr hlk hP hin hl
  have hx := F.1
  have hb := F.2.1
  have hS : va_S (fun q => lo ≤ q) s.heap s.heap [] := va_S.rf
  refine lv_sipush (v := 1000) hx hb dX7_fewestAt_0 is_1000 ?_
  refine lv_istore_n (lv' := [(3, .int (1000 : Int32)), (0, .ref (ad 5)), (1, .int a1), (2, .int a2)]) hx hb dX7_fewestAt_3 rfl hl (Nat.le_of_ble_eq_true rfl) rfl (fun ls hl => ?_)
  refine lv_iconst (v := 0) hx hb dX7_fewestAt_4 ic_0 ?_
  refine lv_istore (lv' := [(4, .int (0 : Int32)), (3, .int (1000 : Int32)), (0, .ref (ad 5)), (1, .int a1), (2, .int a2)]) hx hb dX7_fewestAt_5 hl (Nat.le_of_ble_eq_true rfl) rfl (fun ls hl => ?_)
  have L_7 : ∀ (n_7 : Nat) (x4_7l : Int32) (x3_7l : Int32), l_X7_fewestAt_7 a1 a2 w n_7 x4_7l x3_7l = some r → GG p l e { frames := 2, cells := 0, slots := 0, locals := 49 } s m args below meth c 0 0 (MQ below (mQ D cT lo NB w w ad (some (.int r))) args s 0 0 (fun q => lo ≤ q)) D cT lo NB 5 ad w 7 [(4, .int x4_7l), (3, .int x3_7l), (0, .ref (ad 5)), (1, .int a1), (2, .int a2)] [] := by
    intro n_7
    induction n_7 with
    | zero =>
      intro x4_7l x3_7l h
      exact absurd h (by unfold l_X7_fewestAt_7; exact fun z => by cases z)
    | succ n_7 ih_7 =>
      intro x4_7l x3_7l h H locs ls hP hS hl
      unfold l_X7_fewestAt_7 at h
      refine lv_iload hx hb dX7_fewestAt_7 (lv_at hl 0 rfl) ?_
      refine lv_iconst (v := 1) hx hb dX7_fewestAt_9 ic_1 ?_
      refine lv_aload_n hx hb dX7_fewestAt_10 rfl (lv_at hl 2 rfl) ?_
      refine y_geti h F hP k_5 (n2 (hP.al 5 rfl)) fl_X7_34 rfl dX7_fewestAt_11 (fun v_11 h => ?_)
      refine lv_ishl hx hb dX7_fewestAt_14 ?_
      refine lv_icmp_ge (tgt := 37) hx hb dX7_fewestAt_15 (by decide) (fun hc => ?_) (fun hc => ?_)
      · have h := if_t _ hc h
        refine lv_iload_n hx hb dX7_fewestAt_37 rfl (lv_at hl 1 rfl) ?_
        exact y_iretO h F hr hP hS hlk dX7_fewestAt_38
      · have h := if_f _ hc h
        refine lv_iload_n hx hb dX7_fewestAt_18 rfl (lv_at hl 1 rfl) ?_
        refine lv_aload_n hx hb dX7_fewestAt_19 rfl (lv_at hl 2 rfl) ?_
        refine lv_iload_n hx hb dX7_fewestAt_20 rfl (lv_at hl 3 rfl) ?_
        refine lv_iload_n hx hb dX7_fewestAt_21 rfl (lv_at hl 4 rfl) ?_
        refine lv_iload hx hb dX7_fewestAt_22 (lv_at hl 0 rfl) ?_
        obtain ⟨v_24, hc_24, h⟩ := bo_s h
        refine x_goes (x_runV (As := [.int a1, .int a2, .int x4_7l]) (rest := [.int x3_7l]) F hP hS (c_X7_fewestWith l D cT lo w ad a1 a2 x4_7l v_24 hc_24) cw_X7_fewestWith lk_X7_64 vi_X7_fewestWith k_5 (n2 (hP.al 5 rfl)) rfl ⟨rfl, rfl, Nat.le_of_ble_eq_true rfl, Nat.le_of_ble_eq_true rfl⟩ hl.1 rfl (Nat.le_of_ble_eq_true rfl) dX7_fewestAt_24 ⟨Nat.zero_le _, Nat.zero_le _⟩) hS (fun H locs hP hS _ => ?_)
        refine x_goes (x_runS (As := [.int x3_7l, .int v_24]) (rest := []) F hP hS (c_J9_min_7cf53 l D cT lo NB w ad x3_7l v_24) cw_J9_min_7cf53 lk_X7_68 st_J9_min_7cf53 ⟨rfl, rfl, Nat.le_of_ble_eq_true rfl, Nat.le_of_ble_eq_true rfl⟩ hl.1 rfl (Nat.le_of_ble_eq_true rfl) dX7_fewestAt_27 ⟨Nat.zero_le _, Nat.zero_le _⟩) hS (fun H locs hP hS _ => ?_)
        refine y_let h (fun v_30 h => ?_)
        refine lv_istore_n (lv' := [(3, .int v_30), (4, .int x4_7l), (0, .ref (ad 5)), (1, .int a1), (2, .int a2)]) hx hb dX7_fewestAt_30 rfl hl (Nat.le_of_ble_eq_true rfl) rfl (fun ls hl => ?_)
        refine y_iinc (lv' := fun (v_31 : Int32) => [(4, .int v_31), (3, .int v_30), (0, .ref (ad 5)), (1, .int a1), (2, .int a2)]) h F ic_1 dX7_fewestAt_31 hl (kq := 1) rfl (Nat.le_of_ble_eq_true rfl) (fun _ => rfl) (fun v_31 ls hl h => ?_)
        refine lv_goto (tgt := 7) hx hb dX7_fewestAt_34 (by decide) ?_
        exact ih_7 v_31 v_30 h _ _ _ hP hS (lv_sub hl [0, 1, 2, 3, 4] rfl)
  exact L_7 FU (0 : Int32) (1000 : Int32) h _ _ _ hP hS (lv_sub hl [0, 1, 2, 3, 4] rfl)
def l_X7_choose_14 (x2_4l : Int32) (x1_4l : Int32) (w_4l : Wd) (j_50 : Int32 → Option Wd) : Nat → Int32 → Option Wd
  | 0, _ => none
  | n_14 + 1, x3_14l =>
    q_gt w_4l 5 1 (fun v_17 =>
    if (((1 : Int32) <<< (v_17 &&& 31)) - (1 : Int32)) ≤ x3_14l then
    j_50 x3_14l
    else
    q_bo (f_X7_fewestWith w_4l x2_4l x1_4l x3_14l) (fun v_30 =>
    q_ldq w_4l 31 7 x2_4l (fun q_38 =>
    q_ld w_4l q_38 256 x1_4l (fun v_40 =>
    if v_30 = v_40 then
    j_50 x3_14l
    else
    q_lt (x3_14l + (1 : Int32)) (fun v_44 =>
    l_X7_choose_14 x2_4l x1_4l w_4l j_50 n_14 v_44)))))
def l_X7_choose_4  : Nat → Wd → Int32 → Int32 → Option Wd
  | 0, _, _, _ => none
  | n_4 + 1, w_4l, x2_4l, x1_4l =>
    q_gt w_4l 5 3 (fun v_6 =>
    if v_6 ≤ x2_4l then
    some w_4l
    else
    q_jn (fun (x3_50 : Int32) =>
    q_st w_4l 39 6 x2_4l x3_50 (fun w_56 =>
    q_bo (f_X7_stateBehind w_56 x1_4l x3_50) (fun v_61 =>
    q_lt (f_J9_max_7cf53 (0 : Int32) v_61) (fun v_67 =>
    q_lt (x2_4l + (1 : Int32)) (fun v_68 =>
    l_X7_choose_4 n_4 w_56 v_68 v_67))))) (fun j_50 =>
    l_X7_choose_14 x2_4l x1_4l w_4l j_50 FU (0 : Int32)))
def f_X7_choose (w : Wd) : Option Wd :=
l_X7_choose_4 FU w (0 : Int32) (0 : Int32)
set_option maxRecDepth 100000 in
set_option maxHeartbeats 4000000 in
theorem c_X7_choose (l : Launch) (D : va_G) (cT : Nat → ClassId) (lo : Nat) (w : Wd) (ad : Nat → Nat)  (w9 : Wd) (h : f_X7_choose w = some w9) : Met l yX7_choose (.code yX7_choose cX7_choose 4 none :: TW) { frames := 2, cells := 0, slots := 0, locals := 49 } (mPc D cT lo NB w ad [.ref (ad 5)]) (mQ D cT lo NB w w9 ad none) 0 0 (fun q => lo ≤ q) := by
  unfold f_X7_choose at h
  refine x_met (lv := [(0, .ref (ad 5))]) (by decide +kernel) (Nat.le_of_ble_eq_true rfl) rfl ?_
  intro p e s m args below meth c ls F hr hlk hP hin hl
  have hx := F.1
  have hb := F.2.1
  have hS : va_S (fun q => lo ≤ q) s.heap s.heap [] := va_S.rf
  have hM_w : mono w w := mono.refl
  refine lv_iconst (v := 0) hx hb dX7_choose_0 ic_0 ?_
  refine lv_istore_n (lv' := [(1, .int (0 : Int32)), (0, .ref (ad 5))]) hx hb dX7_choose_1 rfl hl (Nat.le_of_ble_eq_true rfl) rfl (fun ls hl => ?_)
  refine lv_iconst (v := 0) hx hb dX7_choose_2 ic_0 ?_
  refine lv_istore_n (lv' := [(2, .int (0 : Int32)), (1, .int (0 : Int32)), (0, .ref (ad 5))]) hx hb dX7_choose_3 rfl hl (Nat.le_of_ble_eq_true rfl) rfl (fun ls hl => ?_)
  have L_4 : ∀ (n_4 : Nat) (w_4l : Wd) (x2_4l : Int32) (x1_4l : Int32), mono w w_4l → l_X7_choose_4 n_4 w_4l x2_4l x1_4l = some w9 → GG p l e { frames := 2, cells := 0, slots := 0, locals := 49 } s m args below meth c 0 0 (MQ below (mQ D cT lo NB w w9 ad none) args s 0 0 (fun q => lo ≤ q)) D cT lo NB 4 ad w_4l 4 [(2, .int x2_4l), (1, .int x1_4l), (0, .ref (ad 5))] [] := by
    intro n_4
    induction n_4 with
    | zero =>
      intro w_4l x2_4l x1_4l _ h
      exact absurd h (by unfold l_X7_choose_4; exact fun z => by cases z)
    | succ n_4 ih_4 =>
      intro w_4l x2_4l x1_4l hm h H locs ls hP hS hl
      unfold l_X7_choose_4 at h
      have hM_w := hm
      refine lv_iload_n hx hb dX7_choose_4 rfl (lv_at hl 0 rfl) ?_
      refine lv_aload_n hx hb dX7_choose_5 rfl (lv_at hl 2 rfl) ?_
      refine y_geti h F hP k_5 (n2 (hP.al 5 rfl)) fl_X7_41 rfl dX7_choose_6 (fun v_6 h => ?_)
      refine lv_icmp_ge (tgt := 74) hx hb dX7_choose_9 (by decide) (fun hc => ?_) (fun hc => ?_)
      · have h := if_t _ hc h
        exact y_vret h F hr hP hS hM_w hlk dX7_choose_74
      · have h := if_f _ hc h
        refine lv_iconst (v := 0) hx hb dX7_choose_12 ic_0 ?_
        refine lv_istore_n (lv' := [(3, .int (0 : Int32)), (2, .int x2_4l), (1, .int x1_4l), (0, .ref (ad 5))]) hx hb dX7_choose_13 rfl hl (Nat.le_of_ble_eq_true rfl) rfl (fun ls hl => ?_)
        refine jn_use (fun (j_50 : Int32 → Option Wd) => ∀ (x3_50 : Int32), j_50 x3_50 = some w9 → GG p l e { frames := 2, cells := 0, slots := 0, locals := 49 } s m args below meth c 0 0 (MQ below (mQ D cT lo NB w w9 ad none) args s 0 0 (fun q => lo ≤ q)) D cT lo NB 4 ad w_4l 50 [(3, .int x3_50), (2, .int x2_4l), (1, .int x1_4l), (0, .ref (ad 5))] []) h (fun x3_50 h H locs ls hP hS hl => ?_) (fun j_50 J_50 h => ?_)
        · refine lv_aload_n hx hb dX7_choose_50 rfl (lv_at hl 3 rfl) ?_
          refine x_getr F hP k_5 (hP.al 5 rfl) fl_X7_27 rfl r_5_6 dX7_choose_51 ?_
          refine lv_iload_n hx hb dX7_choose_54 rfl (lv_at hl 1 rfl) ?_
          refine lv_iload_n hx hb dX7_choose_55 rfl (lv_at hl 0 rfl) ?_
          refine y_iast h F hP hS k_39 (n2 (hP.al 39 rfl)) dX7_choose_56 (fun w_56 H locs hm h hP hS => ?_)
          have hM_w := hM_w.trans hm
          refine lv_iconst (v := 0) hx hb dX7_choose_57 ic_0 ?_
          refine lv_aload_n hx hb dX7_choose_58 rfl (lv_at hl 3 rfl) ?_
          refine lv_iload_n hx hb dX7_choose_59 rfl (lv_at hl 2 rfl) ?_
          refine lv_iload_n hx hb dX7_choose_60 rfl (lv_at hl 0 rfl) ?_
          obtain ⟨v_61, hc_61, h⟩ := bo_s h
          refine x_goes (x_runV (As := [.int x1_4l, .int x3_50]) (rest := [.int (0 : Int32)]) F hP hS (c_X7_stateBehind l D cT lo w_56 ad x1_4l x3_50 v_61 hc_61) cw_X7_stateBehind lk_X7_73 vi_X7_stateBehind k_5 (n2 (hP.al 5 rfl)) rfl ⟨rfl, rfl, Nat.le_of_ble_eq_true rfl, Nat.le_of_ble_eq_true rfl⟩ hl.1 rfl (Nat.le_of_ble_eq_true rfl) dX7_choose_61 ⟨Nat.zero_le _, Nat.zero_le _⟩) hS (fun H locs hP hS _ => ?_)
          refine x_goes (x_runS (As := [.int (0 : Int32), .int v_61]) (rest := []) F hP hS (c_J9_max_7cf53 l D cT lo NB w_56 ad (0 : Int32) v_61) cw_J9_max_7cf53 lk_X7_85 st_J9_max_7cf53 ⟨rfl, rfl, Nat.le_of_ble_eq_true rfl, Nat.le_of_ble_eq_true rfl⟩ hl.1 rfl (Nat.le_of_ble_eq_true rfl) dX7_choose_64 ⟨Nat.zero_le _, Nat.zero_le _⟩) hS (fun H locs hP hS _ => ?_)
          refine y_let h (fun v_67 h => ?_)
          refine lv_istore_n (lv' := [(1, .int v_67), (3, .int x3_50), (2, .int x2_4l), (0, .ref (ad 5))]) hx hb dX7_choose_67 rfl hl (Nat.le_of_ble_eq_true rfl) rfl (fun ls hl => ?_)
          refine y_iinc (lv' := fun (v_68 : Int32) => [(2, .int v_68), (1, .int v_67), (3, .int x3_50), (0, .ref (ad 5))]) h F ic_1 dX7_choose_68 hl (kq := 2) rfl (Nat.le_of_ble_eq_true rfl) (fun _ => rfl) (fun v_68 ls hl h => ?_)
          refine lv_goto (tgt := 4) hx hb dX7_choose_71 (by decide) ?_
          exact ih_4 w_56 v_68 v_67 hM_w h _ _ _ hP hS (lv_sub hl [0, 1, 3] rfl)
        · have L_14 : ∀ (n_14 : Nat) (x3_14l : Int32), l_X7_choose_14 x2_4l x1_4l w_4l j_50 n_14 x3_14l = some w9 → GG p l e { frames := 2, cells := 0, slots := 0, locals := 49 } s m args below meth c 0 0 (MQ below (mQ D cT lo NB w w9 ad none) args s 0 0 (fun q => lo ≤ q)) D cT lo NB 4 ad w_4l 14 [(3, .int x3_14l), (2, .int x2_4l), (1, .int x1_4l), (0, .ref (ad 5))] [] := by
            intro n_14
            induction n_14 with
            | zero =>
              intro x3_14l h
              exact absurd h (by unfold l_X7_choose_14; exact fun z => by cases z)
            | succ n_14 ih_14 =>
              intro x3_14l h H locs ls hP hS hl
              unfold l_X7_choose_14 at h
              refine lv_iload_n hx hb dX7_choose_14 rfl (lv_at hl 0 rfl) ?_
              refine lv_iconst (v := 1) hx hb dX7_choose_15 ic_1 ?_
              refine lv_aload_n hx hb dX7_choose_16 rfl (lv_at hl 3 rfl) ?_
              refine y_geti h F hP k_5 (n2 (hP.al 5 rfl)) fl_X7_34 rfl dX7_choose_17 (fun v_17 h => ?_)
              refine lv_ishl hx hb dX7_choose_20 ?_
              refine lv_iconst (v := 1) hx hb dX7_choose_21 ic_1 ?_
              refine lv_isub hx hb dX7_choose_22 ?_
              refine lv_icmp_ge (tgt := 50) hx hb dX7_choose_23 (by decide) (fun hc => ?_) (fun hc => ?_)
              · have h := if_t _ hc h
                exact J_50 x3_14l h _ _ _ hP hS (lv_sub hl [0, 1, 2, 3] rfl)
              · have h := if_f _ hc h
                refine lv_aload_n hx hb dX7_choose_26 rfl (lv_at hl 3 rfl) ?_
                refine lv_iload_n hx hb dX7_choose_27 rfl (lv_at hl 1 rfl) ?_
                refine lv_iload_n hx hb dX7_choose_28 rfl (lv_at hl 2 rfl) ?_
                refine lv_iload_n hx hb dX7_choose_29 rfl (lv_at hl 0 rfl) ?_
                obtain ⟨v_30, hc_30, h⟩ := bo_s h
                refine x_goes (x_runV (As := [.int x2_4l, .int x1_4l, .int x3_14l]) (rest := []) F hP hS (c_X7_fewestWith l D cT lo w_4l ad x2_4l x1_4l x3_14l v_30 hc_30) cw_X7_fewestWith lk_X7_64 vi_X7_fewestWith k_5 (n2 (hP.al 5 rfl)) rfl ⟨rfl, rfl, Nat.le_of_ble_eq_true rfl, Nat.le_of_ble_eq_true rfl⟩ hl.1 rfl (Nat.le_of_ble_eq_true rfl) dX7_choose_30 ⟨Nat.zero_le _, Nat.zero_le _⟩) hS (fun H locs hP hS _ => ?_)
                refine lv_aload_n hx hb dX7_choose_33 rfl (lv_at hl 3 rfl) ?_
                refine x_getr F hP k_5 (hP.al 5 rfl) fl_X7_24 rfl r_5_5 dX7_choose_34 ?_
                refine lv_iload_n hx hb dX7_choose_37 rfl (lv_at hl 1 rfl) ?_
                refine y_aald h F hP k_31 (by decide) (by decide) (n2 (hP.al 31 rfl)) ek_31 dX7_choose_38 (fun q_38 hk_q_38 ha_q_38 h => ?_)
                refine lv_iload_n hx hb dX7_choose_39 rfl (lv_at hl 2 rfl) ?_
                refine y_iald h F hP hk_q_38 (n2 ha_q_38) dX7_choose_40 (fun v_40 h => ?_)
                refine lv_icmp_eq (tgt := 50) hx hb dX7_choose_41 (by decide) (fun hc => ?_) (fun hc => ?_)
                · have h := if_t _ hc h
                  exact J_50 x3_14l h _ _ _ hP hS (lv_sub hl [0, 1, 2, 3] rfl)
                · have h := if_f _ hc h
                  refine y_iinc (lv' := fun (v_44 : Int32) => [(3, .int v_44), (2, .int x2_4l), (1, .int x1_4l), (0, .ref (ad 5))]) h F ic_1 dX7_choose_44 hl (kq := 0) rfl (Nat.le_of_ble_eq_true rfl) (fun _ => rfl) (fun v_44 ls hl h => ?_)
                  refine lv_goto (tgt := 14) hx hb dX7_choose_47 (by decide) ?_
                  exact ih_14 v_44 h _ _ _ hP hS (lv_sub hl [0, 1, 2, 3] rfl)
          exact L_14 FU (0 : Int32) h _ _ _ hP hS (lv_sub hl [0, 1, 2, 3] rfl)
  exact L_4 FU w (0 : Int32) (0 : Int32) mono.refl h _ _ _ hP hS (lv_sub hl [0, 1, 2] rfl)
def l_X7_reckon_34 (x1_28l : Int32) (j_61 : Wd → Option Wd) : Nat → Wd → Int32 → Option Wd
  | 0, _, _ => none
  | n_34 + 1, w_34l, x2_34l =>
    if (256 : Int32) ≤ x2_34l then
    j_61 w_34l
    else
    q_ldq w_34l 31 7 x1_28l (fun q_46 =>
    q_bo (f_X7_fewestAt w_34l x1_28l x2_34l) (fun v_51 =>
    q_st w_34l q_46 256 x2_34l v_51 (fun w_54 =>
    q_lt (x2_34l + (1 : Int32)) (fun v_55 =>
    l_X7_reckon_34 x1_28l j_61 n_34 w_54 v_55))))
def l_X7_reckon_28 (j_67 : Wd → Option Wd) : Nat → Wd → Int32 → Option Wd
  | 0, _, _ => none
  | n_28 + 1, w_28l, x1_28l =>
    if x1_28l < 0 then
    j_67 w_28l
    else
    q_jn (fun (w_61j : Wd) =>
    q_lt (x1_28l + (-1 : Int32)) (fun v_61 =>
    l_X7_reckon_28 j_67 n_28 w_61j v_61)) (fun j_61 =>
    l_X7_reckon_34 x1_28l j_61 FU w_28l (0 : Int32))
def f_X7_reckon (w : Wd) : Option Wd :=
q_gt w 5 7 (fun v_1 =>
if v_1 = 0 then
q_gt w 5 3 (fun v_13 =>
q_ldq w 31 7 v_13 (fun q_16 =>
q_bo (f_J7_fill_53178 w q_16 256 (0 : Int32)) (fun w_18 =>
q_gt w_18 5 3 (fun v_22 =>
q_lt (v_22 - (1 : Int32)) (fun v_27 =>
q_jn (fun (w_67j : Wd) =>
q_ldq w_67j 31 7 (0 : Int32) (fun q_72 =>
q_ld w_67j q_72 256 (0 : Int32) (fun v_74 =>
q_jn (fun (w_85j : Wd) =>
q_pt w_85j 5 7 (1 : Int32) (fun w_87 =>
some w_87)) (fun j_85 =>
if (1000 : Int32) ≤ v_74 then
j_85 w_67j
else
q_bo (f_X7_choose w_67j) (fun w_82 =>
j_85 w_82))))) (fun j_67 =>
l_X7_reckon_28 j_67 FU w_18 v_27))))))
else
some w)
set_option maxRecDepth 100000 in
set_option maxHeartbeats 4000000 in
theorem c_X7_reckon (l : Launch) (D : va_G) (cT : Nat → ClassId) (lo : Nat) (w : Wd) (ad : Nat → Nat)  (w9 : Wd) (h : f_X7_reckon w = some w9) : Met l yX7_reckon (.code yX7_reckon cX7_reckon 3 none :: TW) { frames := 3, cells := 0, slots := 0, locals := 73 } (mPc D cT lo NB w ad [.ref (ad 5)]) (mQ D cT lo NB w w9 ad none) 0 0 (fun q => lo ≤ q) := by
  unfold f_X7_reckon at h
  refine x_met (lv := [(0, .ref (ad 5))]) (by decide +kernel) (Nat.le_of_ble_eq_true rfl) rfl ?_
  intro p e s m args below meth c ls F hr hlk hP hin hl
  have hx := F.1
  have hb := F.2.1
  have hS : va_S (fun q => lo ≤ q) s.heap s.heap [] := va_S.rf
  have hM_w : mono w w := mono.refl
  refine lv_aload_n hx hb dX7_reckon_0 rfl (lv_at hl 0 rfl) ?_
  refine y_geti h F hP k_5 (n2 (hP.al 5 rfl)) fl_X7_37 rfl dX7_reckon_1 (fun v_1 h => ?_)
  refine lv_if_eq (tgt := 8) hx hb dX7_reckon_4 (by decide) (fun hc => ?_) (fun hc => ?_)
  · have h := if_t _ hc h
    refine lv_aload_n hx hb dX7_reckon_8 rfl (lv_at hl 0 rfl) ?_
    refine x_getr F hP k_5 (hP.al 5 rfl) fl_X7_24 rfl r_5_5 dX7_reckon_9 ?_
    refine lv_aload_n hx hb dX7_reckon_12 rfl (lv_at hl 0 rfl) ?_
    refine y_geti h F hP k_5 (n2 (hP.al 5 rfl)) fl_X7_41 rfl dX7_reckon_13 (fun v_13 h => ?_)
    refine y_aald h F hP k_31 (by decide) (by decide) (n2 (hP.al 31 rfl)) ek_31 dX7_reckon_16 (fun q_16 hk_q_16 ha_q_16 h => ?_)
    refine lv_iconst (v := 0) hx hb dX7_reckon_17 ic_0 ?_
    obtain ⟨w_18, hc_18, h⟩ := bo_s h
    refine x_goes (x_runS (As := [.ref (ad q_16), .int (0 : Int32)]) (rest := []) F hP hS (c_J7_fill_53178 l D cT lo NB w ad q_16 256 hk_q_16 ha_q_16 (0 : Int32) w_18 hc_18) cw_J7_fill_53178 lk_X7_51 st_J7_fill_53178 ⟨rfl, rfl, Nat.le_of_ble_eq_true rfl, Nat.le_of_ble_eq_true rfl⟩ hl.1 rfl (Nat.le_of_ble_eq_true rfl) dX7_reckon_18 ⟨Nat.zero_le _, Nat.zero_le _⟩) hS (fun H locs hP hS hm => ?_)
    have hM_w := hm
    have ha_q_16 := hm.2 _ ha_q_16
    refine lv_aload_n hx hb dX7_reckon_21 rfl (lv_at hl 0 rfl) ?_
    refine y_geti h F hP k_5 (n2 (hP.al 5 rfl)) fl_X7_41 rfl dX7_reckon_22 (fun v_22 h => ?_)
    refine lv_iconst (v := 1) hx hb dX7_reckon_25 ic_1 ?_
    refine lv_isub hx hb dX7_reckon_26 ?_
    refine y_let h (fun v_27 h => ?_)
    refine lv_istore_n (lv' := [(1, .int v_27), (0, .ref (ad 5))]) hx hb dX7_reckon_27 rfl hl (Nat.le_of_ble_eq_true rfl) rfl (fun ls hl => ?_)
    refine jn_use (fun (j_67 : Wd → Option Wd) => ∀ (w_67j : Wd), mono w_18 w_67j → j_67 w_67j = some w9 → GG p l e { frames := 3, cells := 0, slots := 0, locals := 73 } s m args below meth c 0 0 (MQ below (mQ D cT lo NB w w9 ad none) args s 0 0 (fun q => lo ≤ q)) D cT lo NB 3 ad w_67j 67 [(0, .ref (ad 5))] []) h (fun w_67j hm h H locs ls hP hS hl => ?_) (fun j_67 J_67 h => ?_)
    · have hM_w := hM_w.trans hm
      have hM_w_18 := hm
      have ha_q_16 := hm.2 _ ha_q_16
      refine lv_aload_n hx hb dX7_reckon_67 rfl (lv_at hl 0 rfl) ?_
      refine x_getr F hP k_5 (hP.al 5 rfl) fl_X7_24 rfl r_5_5 dX7_reckon_68 ?_
      refine lv_iconst (v := 0) hx hb dX7_reckon_71 ic_0 ?_
      refine y_aald h F hP k_31 (by decide) (by decide) (n2 (hP.al 31 rfl)) ek_31 dX7_reckon_72 (fun q_72 hk_q_72 ha_q_72 h => ?_)
      refine lv_iconst (v := 0) hx hb dX7_reckon_73 ic_0 ?_
      refine y_iald h F hP hk_q_72 (n2 ha_q_72) dX7_reckon_74 (fun v_74 h => ?_)
      refine lv_sipush (v := 1000) hx hb dX7_reckon_75 is_1000 ?_
      refine jn_use (fun (j_85 : Wd → Option Wd) => ∀ (w_85j : Wd), mono w_67j w_85j → j_85 w_85j = some w9 → GG p l e { frames := 3, cells := 0, slots := 0, locals := 73 } s m args below meth c 0 0 (MQ below (mQ D cT lo NB w w9 ad none) args s 0 0 (fun q => lo ≤ q)) D cT lo NB 3 ad w_85j 85 [(0, .ref (ad 5))] []) h (fun w_85j hm h H locs ls hP hS hl => ?_) (fun j_85 J_85 h => ?_)
      · have hM_w := hM_w.trans hm
        have hM_w_18 := hM_w_18.trans hm
        have hM_w_67j := hm
        have ha_q_16 := hm.2 _ ha_q_16
        have ha_q_72 := hm.2 _ ha_q_72
        refine lv_aload_n hx hb dX7_reckon_85 rfl (lv_at hl 0 rfl) ?_
        refine lv_iconst (v := 1) hx hb dX7_reckon_86 ic_1 ?_
        refine y_putz h (Or.inr rfl) F hP hS k_5 (n2 (hP.al 5 rfl)) fl_X7_37 rfl dX7_reckon_87 (fun w_87 H locs hm h hP hS => ?_)
        have hM_w := hM_w.trans hm
        have hM_w_18 := hM_w_18.trans hm
        have hM_w_67j := hM_w_67j.trans hm
        have ha_q_16 := hm.2 _ ha_q_16
        have ha_q_72 := hm.2 _ ha_q_72
        exact y_vret h F hr hP hS hM_w hlk dX7_reckon_90
      · refine lv_icmp_ge (tgt := 85) hx hb dX7_reckon_78 (by decide) (fun hc => ?_) (fun hc => ?_)
        · have h := if_t _ hc h
          exact J_85 w_67j mono.refl h _ _ _ hP hS (lv_sub hl [0] rfl)
        · have h := if_f _ hc h
          refine lv_aload_n hx hb dX7_reckon_81 rfl (lv_at hl 0 rfl) ?_
          obtain ⟨w_82, hc_82, h⟩ := bo_s h
          refine x_goes (x_runV (As := []) (rest := []) F hP hS (c_X7_choose l D cT lo w_67j ad  w_82 hc_82) cw_X7_choose lk_X7_61 vi_X7_choose k_5 (n2 (hP.al 5 rfl)) rfl ⟨rfl, rfl, Nat.le_of_ble_eq_true rfl, Nat.le_of_ble_eq_true rfl⟩ hl.1 rfl (Nat.le_of_ble_eq_true rfl) dX7_reckon_82 ⟨Nat.zero_le _, Nat.zero_le _⟩) hS (fun H locs hP hS hm => ?_)
          have hM_w := hM_w.trans hm
          have hM_w_18 := hM_w_18.trans hm
          have hM_w_67j := hm
          have ha_q_16 := hm.2 _ ha_q_16
          have ha_q_72 := hm.2 _ ha_q_72
          exact J_85 w_82 hM_w_67j h _ _ _ hP hS (lv_sub hl [0] rfl)
    · have L_28 : ∀ (n_28 : Nat) (w_28l : Wd) (x1_28l : Int32), mono w_18 w_28l → l_X7_reckon_28 j_67 n_28 w_28l x1_28l = some w9 → GG p l e { frames := 3, cells := 0, slots := 0, locals := 73 } s m args below meth c 0 0 (MQ below (mQ D cT lo NB w w9 ad none) args s 0 0 (fun q => lo ≤ q)) D cT lo NB 3 ad w_28l 28 [(1, .int x1_28l), (0, .ref (ad 5))] [] := by
        intro n_28
        induction n_28 with
        | zero =>
          intro w_28l x1_28l _ h
          exact absurd h (by unfold l_X7_reckon_28; exact fun z => by cases z)
        | succ n_28 ih_28 =>
          intro w_28l x1_28l hm h H locs ls hP hS hl
          unfold l_X7_reckon_28 at h
          have hM_w := hM_w.trans hm
          have hM_w_18 := hm
          have ha_q_16 := hm.2 _ ha_q_16
          refine lv_iload_n hx hb dX7_reckon_28 rfl (lv_at hl 0 rfl) ?_
          refine lv_if_lt (tgt := 67) hx hb dX7_reckon_29 (by decide) (fun hc => ?_) (fun hc => ?_)
          · have h := if_t _ hc h
            exact J_67 w_28l hM_w_18 h _ _ _ hP hS (lv_sub hl [1] rfl)
          · have h := if_f _ hc h
            refine lv_iconst (v := 0) hx hb dX7_reckon_32 ic_0 ?_
            refine lv_istore_n (lv' := [(2, .int (0 : Int32)), (1, .int x1_28l), (0, .ref (ad 5))]) hx hb dX7_reckon_33 rfl hl (Nat.le_of_ble_eq_true rfl) rfl (fun ls hl => ?_)
            refine jn_use (fun (j_61 : Wd → Option Wd) => ∀ (w_61j : Wd), mono w_28l w_61j → j_61 w_61j = some w9 → GG p l e { frames := 3, cells := 0, slots := 0, locals := 73 } s m args below meth c 0 0 (MQ below (mQ D cT lo NB w w9 ad none) args s 0 0 (fun q => lo ≤ q)) D cT lo NB 3 ad w_61j 61 [(1, .int x1_28l), (0, .ref (ad 5))] []) h (fun w_61j hm h H locs ls hP hS hl => ?_) (fun j_61 J_61 h => ?_)
            · have hM_w := hM_w.trans hm
              have hM_w_18 := hM_w_18.trans hm
              have hM_w_28l := hm
              have ha_q_16 := hm.2 _ ha_q_16
              refine y_iinc (lv' := fun (v_61 : Int32) => [(1, .int v_61), (0, .ref (ad 5))]) h F ic_m1 dX7_reckon_61 hl (kq := 0) rfl (Nat.le_of_ble_eq_true rfl) (fun _ => rfl) (fun v_61 ls hl h => ?_)
              refine lv_goto (tgt := 28) hx hb dX7_reckon_64 (by decide) ?_
              exact ih_28 w_61j v_61 hM_w_18 h _ _ _ hP hS (lv_sub hl [0, 1] rfl)
            · have L_34 : ∀ (n_34 : Nat) (w_34l : Wd) (x2_34l : Int32), mono w_28l w_34l → l_X7_reckon_34 x1_28l j_61 n_34 w_34l x2_34l = some w9 → GG p l e { frames := 3, cells := 0, slots := 0, locals := 73 } s m args below meth c 0 0 (MQ below (mQ D cT lo NB w w9 ad none) args s 0 0 (fun q => lo ≤ q)) D cT lo NB 3 ad w_34l 34 [(2, .int x2_34l), (1, .int x1_28l), (0, .ref (ad 5))] [] := by
                intro n_34
                induction n_34 with
                | zero =>
                  intro w_34l x2_34l _ h
                  exact absurd h (by unfold l_X7_reckon_34; exact fun z => by cases z)
                | succ n_34 ih_34 =>
                  intro w_34l x2_34l hm h H locs ls hP hS hl
                  unfold l_X7_reckon_34 at h
                  have hM_w := hM_w.trans hm
                  have hM_w_18 := hM_w_18.trans hm
                  have hM_w_28l := hm
                  have ha_q_16 := hm.2 _ ha_q_16
                  refine lv_iload_n hx hb dX7_reckon_34 rfl (lv_at hl 0 rfl) ?_
                  refine lv_sipush (v := 256) hx hb dX7_reckon_35 is_256 ?_
                  refine lv_icmp_ge (tgt := 61) hx hb dX7_reckon_38 (by decide) (fun hc => ?_) (fun hc => ?_)
                  · have h := if_t _ hc h
                    exact J_61 w_34l hM_w_28l h _ _ _ hP hS (lv_sub hl [1, 2] rfl)
                  · have h := if_f _ hc h
                    refine lv_aload_n hx hb dX7_reckon_41 rfl (lv_at hl 2 rfl) ?_
                    refine x_getr F hP k_5 (hP.al 5 rfl) fl_X7_24 rfl r_5_5 dX7_reckon_42 ?_
                    refine lv_iload_n hx hb dX7_reckon_45 rfl (lv_at hl 1 rfl) ?_
                    refine y_aald h F hP k_31 (by decide) (by decide) (n2 (hP.al 31 rfl)) ek_31 dX7_reckon_46 (fun q_46 hk_q_46 ha_q_46 h => ?_)
                    refine lv_iload_n hx hb dX7_reckon_47 rfl (lv_at hl 0 rfl) ?_
                    refine lv_aload_n hx hb dX7_reckon_48 rfl (lv_at hl 2 rfl) ?_
                    refine lv_iload_n hx hb dX7_reckon_49 rfl (lv_at hl 1 rfl) ?_
                    refine lv_iload_n hx hb dX7_reckon_50 rfl (lv_at hl 0 rfl) ?_
                    obtain ⟨v_51, hc_51, h⟩ := bo_s h
                    refine x_goes (x_runV (As := [.int x1_28l, .int x2_34l]) (rest := [.int x2_34l, .ref (ad q_46)]) F hP hS (c_X7_fewestAt l D cT lo w_34l ad x1_28l x2_34l v_51 hc_51) cw_X7_fewestAt lk_X7_57 vi_X7_fewestAt k_5 (n2 (hP.al 5 rfl)) rfl ⟨rfl, rfl, Nat.le_of_ble_eq_true rfl, Nat.le_of_ble_eq_true rfl⟩ hl.1 rfl (Nat.le_of_ble_eq_true rfl) dX7_reckon_51 ⟨Nat.zero_le _, Nat.zero_le _⟩) hS (fun H locs hP hS _ => ?_)
                    refine y_iast h F hP hS hk_q_46 (n2 ha_q_46) dX7_reckon_54 (fun w_54 H locs hm h hP hS => ?_)
                    have hM_w := hM_w.trans hm
                    have hM_w_18 := hM_w_18.trans hm
                    have hM_w_28l := hM_w_28l.trans hm
                    have ha_q_16 := hm.2 _ ha_q_16
                    have ha_q_46 := hm.2 _ ha_q_46
                    refine y_iinc (lv' := fun (v_55 : Int32) => [(2, .int v_55), (1, .int x1_28l), (0, .ref (ad 5))]) h F ic_1 dX7_reckon_55 hl (kq := 0) rfl (Nat.le_of_ble_eq_true rfl) (fun _ => rfl) (fun v_55 ls hl h => ?_)
                    refine lv_goto (tgt := 34) hx hb dX7_reckon_58 (by decide) ?_
                    exact ih_34 w_54 v_55 hM_w_28l h _ _ _ hP hS (lv_sub hl [0, 1, 2] rfl)
              exact L_34 FU w_28l (0 : Int32) mono.refl h _ _ _ hP hS (lv_sub hl [0, 1, 2] rfl)
      exact L_28 FU w_18 v_27 mono.refl h _ _ _ hP hS (lv_sub hl [0, 1] rfl)
  · have h := if_f _ hc h
    exact y_vret h F hr hP hS mono.refl hlk dX7_reckon_7
def f_X7_fewest (w : Wd) : Option (Int32 × Wd) :=
q_bo (f_X7_reckon w) (fun w_1 =>
q_ldq w_1 31 7 (0 : Int32) (fun q_9 =>
q_ld w_1 q_9 256 (0 : Int32) (fun v_11 =>
if v_11 < (1000 : Int32) then
q_ldq w_1 31 7 (0 : Int32) (fun q_28 =>
q_ld w_1 q_28 256 (0 : Int32) (fun v_30 =>
some (v_30, w_1)))
else
some ((-3 : Int32), w_1))))
set_option maxRecDepth 100000 in
set_option maxHeartbeats 4000000 in
theorem c_X7_fewest (l : Launch) (D : va_G) (cT : Nat → ClassId) (lo : Nat) (w : Wd) (ad : Nat → Nat)  (r : Int32) (w9 : Wd) (h : f_X7_fewest w = some (r, w9)) : Met l yX7_fewest (.code yX7_fewest cX7_fewest 1 (some .int) :: TW) { frames := 4, cells := 0, slots := 0, locals := 95 } (mPc D cT lo NB w ad [.ref (ad 5)]) (mQ D cT lo NB w w9 ad (some (.int r))) 0 0 (fun q => lo ≤ q) := by
  unfold f_X7_fewest at h
  refine x_met (lv := [(0, .ref (ad 5))]) (by decide +kernel) (Nat.le_of_ble_eq_true rfl) rfl ?_
  intro p e s m args below meth c ls F hr hlk hP hin hl
  have hx := F.1
  have hb := F.2.1
  have hS : va_S (fun q => lo ≤ q) s.heap s.heap [] := va_S.rf
  have hM_w : mono w w := mono.refl
  refine lv_aload_n hx hb dX7_fewest_0 rfl (lv_at hl 0 rfl) ?_
  obtain ⟨w_1, hc_1, h⟩ := bo_s h
  refine x_goes (x_runV (As := []) (rest := []) F hP hS (c_X7_reckon l D cT lo w ad  w_1 hc_1) cw_X7_reckon lk_X7_44 vi_X7_reckon k_5 (n2 (hP.al 5 rfl)) rfl ⟨rfl, rfl, Nat.le_of_ble_eq_true rfl, Nat.le_of_ble_eq_true rfl⟩ hl.1 rfl (Nat.le_of_ble_eq_true rfl) dX7_fewest_1 ⟨Nat.zero_le _, Nat.zero_le _⟩) hS (fun H locs hP hS hm => ?_)
  have hM_w := hm
  refine lv_aload_n hx hb dX7_fewest_4 rfl (lv_at hl 0 rfl) ?_
  refine x_getr F hP k_5 (hP.al 5 rfl) fl_X7_24 rfl r_5_5 dX7_fewest_5 ?_
  refine lv_iconst (v := 0) hx hb dX7_fewest_8 ic_0 ?_
  refine y_aald h F hP k_31 (by decide) (by decide) (n2 (hP.al 31 rfl)) ek_31 dX7_fewest_9 (fun q_9 hk_q_9 ha_q_9 h => ?_)
  refine lv_iconst (v := 0) hx hb dX7_fewest_10 ic_0 ?_
  refine y_iald h F hP hk_q_9 (n2 ha_q_9) dX7_fewest_11 (fun v_11 h => ?_)
  refine lv_sipush (v := 1000) hx hb dX7_fewest_12 is_1000 ?_
  refine lv_icmp_lt (tgt := 23) hx hb dX7_fewest_15 (by decide) (fun hc => ?_) (fun hc => ?_)
  · have h := if_t _ hc h
    refine lv_aload_n hx hb dX7_fewest_23 rfl (lv_at hl 0 rfl) ?_
    refine x_getr F hP k_5 (hP.al 5 rfl) fl_X7_24 rfl r_5_5 dX7_fewest_24 ?_
    refine lv_iconst (v := 0) hx hb dX7_fewest_27 ic_0 ?_
    refine y_aald h F hP k_31 (by decide) (by decide) (n2 (hP.al 31 rfl)) ek_31 dX7_fewest_28 (fun q_28 hk_q_28 ha_q_28 h => ?_)
    refine lv_iconst (v := 0) hx hb dX7_fewest_29 ic_0 ?_
    refine y_iald h F hP hk_q_28 (n2 ha_q_28) dX7_fewest_30 (fun v_30 h => ?_)
    exact y_iretM h F hr hP hS hM_w hlk dX7_fewest_31
  · have h := if_f _ hc h
    refine lv_bipush (v := -3) hx hb dX7_fewest_18 ib_m3 ?_
    refine lv_goto (tgt := 31) hx hb dX7_fewest_20 (by decide) ?_
    exact y_iretM h F hr hP hS hM_w hlk dX7_fewest_31
def f_X7_teamsOf (w : Wd) (a1 : Int32) : Option (Int32 × Wd) :=
q_gt w 5 3 (fun v_3 =>
if (f_X11_within a1 (0 : Int32) (v_3 - (1 : Int32))) = 0 then
some ((-2 : Int32), w)
else
q_bi (f_X7_fewest w) (fun v_18 w_18 =>
if v_18 = (-3 : Int32) then
some ((-3 : Int32), w_18)
else
q_ld w_18 39 6 a1 (fun v_36 =>
some (v_36, w_18))))
set_option maxRecDepth 100000 in
set_option maxHeartbeats 4000000 in
theorem c_X7_teamsOf (l : Launch) (D : va_G) (cT : Nat → ClassId) (lo : Nat) (w : Wd) (ad : Nat → Nat) (a1 : Int32) (r : Int32) (w9 : Wd) (h : f_X7_teamsOf w a1 = some (r, w9)) : Met l yX7_teamsOf (.code yX7_teamsOf cX7_teamsOf 2 (some .int) :: TW) { frames := 5, cells := 0, slots := 0, locals := 115 } (mPc D cT lo NB w ad [.ref (ad 5), .int a1]) (mQ D cT lo NB w w9 ad (some (.int r))) 0 0 (fun q => lo ≤ q) := by
  unfold f_X7_teamsOf at h
  refine x_met (lv := [(0, .ref (ad 5)), (1, .int a1)]) (by decide +kernel) (Nat.le_of_ble_eq_true rfl) rfl ?_
  intro p e s m args below meth c ls F hr hlk hP hin hl
  have hx := F.1
  have hb := F.2.1
  have hS : va_S (fun q => lo ≤ q) s.heap s.heap [] := va_S.rf
  have hM_w : mono w w := mono.refl
  refine lv_iload_n hx hb dX7_teamsOf_0 rfl (lv_at hl 1 rfl) ?_
  refine lv_iconst (v := 0) hx hb dX7_teamsOf_1 ic_0 ?_
  refine lv_aload_n hx hb dX7_teamsOf_2 rfl (lv_at hl 0 rfl) ?_
  refine y_geti h F hP k_5 (n2 (hP.al 5 rfl)) fl_X7_41 rfl dX7_teamsOf_3 (fun v_3 h => ?_)
  refine lv_iconst (v := 1) hx hb dX7_teamsOf_6 ic_1 ?_
  refine lv_isub hx hb dX7_teamsOf_7 ?_
  refine x_goesZ (x_runSN (As := [.int a1, .int (0 : Int32), .int (v_3 - (1 : Int32))]) (rest := []) F hP hS (c_X11_within l D cT lo NB w ad a1 (0 : Int32) (v_3 - (1 : Int32))) cw_X11_within nl_X7_30 st_X11_within ⟨rfl, rfl, Nat.le_of_ble_eq_true rfl, Nat.le_of_ble_eq_true rfl⟩ hl.1 rfl (Nat.le_of_ble_eq_true rfl) dX7_teamsOf_8 ⟨Nat.zero_le _, Nat.zero_le _⟩) hS (fun H locs hz_8 hP hS _ => ?_)
  refine lv_if_ne (tgt := 17) hx hb dX7_teamsOf_11 (by decide) (fun hc => ?_) (fun hc => ?_)
  · have h := if_f _ hc h
    refine lv_aload_n hx hb dX7_teamsOf_17 rfl (lv_at hl 0 rfl) ?_
    obtain ⟨v_18, w_18, hc_18, h⟩ := bi_s h
    refine x_goes (x_runV (As := []) (rest := []) F hP hS (c_X7_fewest l D cT lo w ad  v_18 w_18 hc_18) cw_X7_fewest lk_X7_47 vi_X7_fewest k_5 (n2 (hP.al 5 rfl)) rfl ⟨rfl, rfl, Nat.le_of_ble_eq_true rfl, Nat.le_of_ble_eq_true rfl⟩ hl.1 rfl (Nat.le_of_ble_eq_true rfl) dX7_teamsOf_18 ⟨Nat.zero_le _, Nat.zero_le _⟩) hS (fun H locs hP hS hm => ?_)
    have hM_w := hm
    refine lv_bipush (v := -3) hx hb dX7_teamsOf_21 ib_m3 ?_
    refine lv_icmp_ne (tgt := 31) hx hb dX7_teamsOf_23 (by decide) (fun hc => ?_) (fun hc => ?_)
    · have h := if_f _ hc h
      refine lv_aload_n hx hb dX7_teamsOf_31 rfl (lv_at hl 0 rfl) ?_
      refine x_getr F hP k_5 (hP.al 5 rfl) fl_X7_27 rfl r_5_6 dX7_teamsOf_32 ?_
      refine lv_iload_n hx hb dX7_teamsOf_35 rfl (lv_at hl 1 rfl) ?_
      refine y_iald h F hP k_39 (n2 (hP.al 39 rfl)) dX7_teamsOf_36 (fun v_36 h => ?_)
      exact y_iretM h F hr hP hS hM_w hlk dX7_teamsOf_37
    · have h := if_t _ hc h
      refine lv_bipush (v := -3) hx hb dX7_teamsOf_26 ib_m3 ?_
      refine lv_goto (tgt := 37) hx hb dX7_teamsOf_28 (by decide) ?_
      exact y_iretM h F hr hP hS hM_w hlk dX7_teamsOf_37
  · have h := if_t _ hc h
    refine lv_bipush (v := -2) hx hb dX7_teamsOf_14 ib_m2 ?_
    exact y_iretM h F hr hP hS mono.refl hlk dX7_teamsOf_16
def f_X9_addTask (w : Wd) (a1 : Int32) (a2 : Int32) : Option (Int32 × Wd) :=
if (f_X11_within a1 (1 : Int32) (200 : Int32)) = 0 then
some ((-2 : Int32), w)
else
if (f_X11_within a2 (0 : Int32) (2000 : Int32)) = 0 then
some ((-2 : Int32), w)
else
q_gt w 7 2 (fun v_26 =>
if v_26 < (12 : Int32) then
q_gt w 7 2 (fun v_42 =>
q_st w 50 12 v_42 a1 (fun w_46 =>
q_gt w_46 7 2 (fun v_52 =>
q_st w_46 51 12 v_52 a2 (fun w_56 =>
q_gt w_56 7 2 (fun v_59 =>
q_pt w_56 7 2 (v_59 + (1 : Int32)) (fun w_65 =>
some (v_59, w_65)))))))
else
some ((-4 : Int32), w))
set_option maxRecDepth 100000 in
set_option maxHeartbeats 4000000 in
theorem c_X9_addTask (l : Launch) (D : va_G) (cT : Nat → ClassId) (lo : Nat) (w : Wd) (ad : Nat → Nat) (a1 : Int32) (a2 : Int32) (r : Int32) (w9 : Wd) (h : f_X9_addTask w a1 a2 = some (r, w9)) : Met l yX9_addTask (.code yX9_addTask cX9_addTask 3 (some .int) :: TW) { frames := 1, cells := 0, slots := 0, locals := 22 } (mPc D cT lo NB w ad [.ref (ad 7), .int a1, .int a2]) (mQ D cT lo NB w w9 ad (some (.int r))) 0 0 (fun q => lo ≤ q) := by
  unfold f_X9_addTask at h
  refine x_met (lv := [(0, .ref (ad 7)), (1, .int a1), (2, .int a2)]) (by decide +kernel) (Nat.le_of_ble_eq_true rfl) rfl ?_
  intro p e s m args below meth c ls F hr hlk hP hin hl
  have hx := F.1
  have hb := F.2.1
  have hS : va_S (fun q => lo ≤ q) s.heap s.heap [] := va_S.rf
  have hM_w : mono w w := mono.refl
  refine lv_iload_n hx hb dX9_addTask_0 rfl (lv_at hl 1 rfl) ?_
  refine lv_iconst (v := 1) hx hb dX9_addTask_1 ic_1 ?_
  refine lv_sipush (v := 200) hx hb dX9_addTask_2 is_200 ?_
  refine x_goesZ (x_runSN (As := [.int a1, .int (1 : Int32), .int (200 : Int32)]) (rest := []) F hP hS (c_X11_within l D cT lo NB w ad a1 (1 : Int32) (200 : Int32)) cw_X11_within nl_X9_32 st_X11_within ⟨rfl, rfl, Nat.le_of_ble_eq_true rfl, Nat.le_of_ble_eq_true rfl⟩ hl.1 rfl (Nat.le_of_ble_eq_true rfl) dX9_addTask_5 ⟨Nat.zero_le _, Nat.zero_le _⟩) hS (fun H locs hz_5 hP hS _ => ?_)
  refine lv_if_eq (tgt := 22) hx hb dX9_addTask_8 (by decide) (fun hc => ?_) (fun hc => ?_)
  · have h := if_t _ hc h
    refine lv_bipush (v := -2) hx hb dX9_addTask_22 ib_m2 ?_
    exact y_iretM h F hr hP hS mono.refl hlk dX9_addTask_24
  · have h := if_f _ hc h
    refine lv_iload_n hx hb dX9_addTask_11 rfl (lv_at hl 2 rfl) ?_
    refine lv_iconst (v := 0) hx hb dX9_addTask_12 ic_0 ?_
    refine lv_sipush (v := 2000) hx hb dX9_addTask_13 is_2000 ?_
    refine x_goesZ (x_runSN (As := [.int a2, .int (0 : Int32), .int (2000 : Int32)]) (rest := []) F hP hS (c_X11_within l D cT lo NB w ad a2 (0 : Int32) (2000 : Int32)) cw_X11_within nl_X9_32 st_X11_within ⟨rfl, rfl, Nat.le_of_ble_eq_true rfl, Nat.le_of_ble_eq_true rfl⟩ hl.1 rfl (Nat.le_of_ble_eq_true rfl) dX9_addTask_16 ⟨Nat.zero_le _, Nat.zero_le _⟩) hS (fun H locs hz_16 hP hS _ => ?_)
    refine lv_if_ne (tgt := 25) hx hb dX9_addTask_19 (by decide) (fun hc => ?_) (fun hc => ?_)
    · have h := if_f _ hc h
      refine lv_aload_n hx hb dX9_addTask_25 rfl (lv_at hl 0 rfl) ?_
      refine y_geti h F hP k_7 (n2 (hP.al 7 rfl)) fl_X9_36 rfl dX9_addTask_26 (fun v_26 h => ?_)
      refine lv_bipush (v := 12) hx hb dX9_addTask_29 ib_12 ?_
      refine lv_icmp_lt (tgt := 37) hx hb dX9_addTask_31 (by decide) (fun hc => ?_) (fun hc => ?_)
      · have h := if_t _ hc h
        refine lv_aload_n hx hb dX9_addTask_37 rfl (lv_at hl 0 rfl) ?_
        refine x_getr F hP k_7 (hP.al 7 rfl) fl_X9_11 rfl r_7_0 dX9_addTask_38 ?_
        refine lv_aload_n hx hb dX9_addTask_41 rfl (lv_at hl 0 rfl) ?_
        refine y_geti h F hP k_7 (n2 (hP.al 7 rfl)) fl_X9_36 rfl dX9_addTask_42 (fun v_42 h => ?_)
        refine lv_iload_n hx hb dX9_addTask_45 rfl (lv_at hl 1 rfl) ?_
        refine y_iast h F hP hS k_50 (n2 (hP.al 50 rfl)) dX9_addTask_46 (fun w_46 H locs hm h hP hS => ?_)
        have hM_w := hm
        refine lv_aload_n hx hb dX9_addTask_47 rfl (lv_at hl 0 rfl) ?_
        refine x_getr F hP k_7 (hP.al 7 rfl) fl_X9_15 rfl r_7_1 dX9_addTask_48 ?_
        refine lv_aload_n hx hb dX9_addTask_51 rfl (lv_at hl 0 rfl) ?_
        refine y_geti h F hP k_7 (n2 (hP.al 7 rfl)) fl_X9_36 rfl dX9_addTask_52 (fun v_52 h => ?_)
        refine lv_iload_n hx hb dX9_addTask_55 rfl (lv_at hl 2 rfl) ?_
        refine y_iast h F hP hS k_51 (n2 (hP.al 51 rfl)) dX9_addTask_56 (fun w_56 H locs hm h hP hS => ?_)
        have hM_w := hM_w.trans hm
        refine lv_aload_n hx hb dX9_addTask_57 rfl (lv_at hl 0 rfl) ?_
        refine lv_dup hx hb dX9_addTask_58 rfl ?_
        refine y_geti h F hP k_7 (n2 (hP.al 7 rfl)) fl_X9_36 rfl dX9_addTask_59 (fun v_59 h => ?_)
        refine lv_dup_x1 hx hb dX9_addTask_62 rfl rfl ?_
        refine lv_iconst (v := 1) hx hb dX9_addTask_63 ic_1 ?_
        refine lv_iadd hx hb dX9_addTask_64 ?_
        refine y_puti h F hP hS k_7 (n2 (hP.al 7 rfl)) fl_X9_36 rfl dX9_addTask_65 (fun w_65 H locs hm h hP hS => ?_)
        have hM_w := hM_w.trans hm
        exact y_iretM h F hr hP hS hM_w hlk dX9_addTask_68
      · have h := if_f _ hc h
        refine lv_bipush (v := -4) hx hb dX9_addTask_34 ib_m4 ?_
        exact y_iretM h F hr hP hS mono.refl hlk dX9_addTask_36
    · have h := if_t _ hc h
      refine lv_bipush (v := -2) hx hb dX9_addTask_22 ib_m2 ?_
      exact y_iretM h F hr hP hS mono.refl hlk dX9_addTask_24
def f_X9_tellCrews (w : Wd) (a1 : Int32) : Option (Int32 × Wd) :=
if (f_X11_within a1 (1 : Int32) (4 : Int32)) = 0 then
some ((-2 : Int32), w)
else
q_gt w 7 3 (fun v_13 =>
q_pt w 7 3 a1 (fun w_19 =>
some (v_13, w_19)))
set_option maxRecDepth 100000 in
set_option maxHeartbeats 4000000 in
theorem c_X9_tellCrews (l : Launch) (D : va_G) (cT : Nat → ClassId) (lo : Nat) (w : Wd) (ad : Nat → Nat) (a1 : Int32) (r : Int32) (w9 : Wd) (h : f_X9_tellCrews w a1 = some (r, w9)) : Met l yX9_tellCrews (.code yX9_tellCrews cX9_tellCrews 3 (some .int) :: TW) { frames := 1, cells := 0, slots := 0, locals := 22 } (mPc D cT lo NB w ad [.ref (ad 7), .int a1]) (mQ D cT lo NB w w9 ad (some (.int r))) 0 0 (fun q => lo ≤ q) := by
  unfold f_X9_tellCrews at h
  refine x_met (lv := [(0, .ref (ad 7)), (1, .int a1)]) (by decide +kernel) (Nat.le_of_ble_eq_true rfl) rfl ?_
  intro p e s m args below meth c ls F hr hlk hP hin hl
  have hx := F.1
  have hb := F.2.1
  have hS : va_S (fun q => lo ≤ q) s.heap s.heap [] := va_S.rf
  have hM_w : mono w w := mono.refl
  refine lv_iload_n hx hb dX9_tellCrews_0 rfl (lv_at hl 1 rfl) ?_
  refine lv_iconst (v := 1) hx hb dX9_tellCrews_1 ic_1 ?_
  refine lv_iconst (v := 4) hx hb dX9_tellCrews_2 ic_4 ?_
  refine x_goesZ (x_runSN (As := [.int a1, .int (1 : Int32), .int (4 : Int32)]) (rest := []) F hP hS (c_X11_within l D cT lo NB w ad a1 (1 : Int32) (4 : Int32)) cw_X11_within nl_X9_32 st_X11_within ⟨rfl, rfl, Nat.le_of_ble_eq_true rfl, Nat.le_of_ble_eq_true rfl⟩ hl.1 rfl (Nat.le_of_ble_eq_true rfl) dX9_tellCrews_3 ⟨Nat.zero_le _, Nat.zero_le _⟩) hS (fun H locs hz_3 hP hS _ => ?_)
  refine lv_if_ne (tgt := 12) hx hb dX9_tellCrews_6 (by decide) (fun hc => ?_) (fun hc => ?_)
  · have h := if_f _ hc h
    refine lv_aload_n hx hb dX9_tellCrews_12 rfl (lv_at hl 0 rfl) ?_
    refine y_geti h F hP k_7 (n2 (hP.al 7 rfl)) fl_X9_18 rfl dX9_tellCrews_13 (fun v_13 h => ?_)
    refine lv_istore_n (lv' := [(2, .int v_13), (0, .ref (ad 7)), (1, .int a1)]) hx hb dX9_tellCrews_16 rfl hl (Nat.le_of_ble_eq_true rfl) rfl (fun ls hl => ?_)
    refine lv_aload_n hx hb dX9_tellCrews_17 rfl (lv_at hl 1 rfl) ?_
    refine lv_iload_n hx hb dX9_tellCrews_18 rfl (lv_at hl 2 rfl) ?_
    refine y_puti h F hP hS k_7 (n2 (hP.al 7 rfl)) fl_X9_18 rfl dX9_tellCrews_19 (fun w_19 H locs hm h hP hS => ?_)
    have hM_w := hm
    refine lv_iload_n hx hb dX9_tellCrews_22 rfl (lv_at hl 0 rfl) ?_
    exact y_iretM h F hr hP hS hM_w hlk dX9_tellCrews_23
  · have h := if_t _ hc h
    refine lv_bipush (v := -2) hx hb dX9_tellCrews_9 ib_m2 ?_
    exact y_iretM h F hr hP hS mono.refl hlk dX9_tellCrews_11
def l_X9_nextTask_8 (w : Wd) : Nat → Int32 → Int32 → Int32 → Option Int32
  | 0, _, _, _ => none
  | n_8 + 1, x3_8l, x2_8l, x1_8l =>
    q_gt w 7 2 (fun v_10 =>
    if v_10 ≤ x3_8l then
    some x1_8l
    else
    q_ld w 53 12 x3_8l (fun v_21 =>
    q_jn (fun (x1_44 : Int32) (x2_44 : Int32) =>
    q_lt (x3_8l + (1 : Int32)) (fun v_44 =>
    l_X9_nextTask_8 w n_8 v_44 x2_44 x1_44)) (fun j_44 =>
    if v_21 = 0 then
    q_ld w 51 12 x3_8l (fun v_30 =>
    if x2_8l ≤ v_30 then
    j_44 x1_8l x2_8l
    else
    q_ld w 51 12 x3_8l (fun v_40 =>
    j_44 x3_8l v_40))
    else
    j_44 x1_8l x2_8l)))
def f_X9_nextTask (w : Wd) : Option Int32 :=
l_X9_nextTask_8 w FU (0 : Int32) (2001 : Int32) (0 : Int32)
set_option maxRecDepth 100000 in
set_option maxHeartbeats 4000000 in
theorem c_X9_nextTask (l : Launch) (D : va_G) (cT : Nat → ClassId) (lo : Nat) (w : Wd) (ad : Nat → Nat)  (r : Int32) (h : f_X9_nextTask w = some r) : Met l yX9_nextTask (.code yX9_nextTask cX9_nextTask 4 (some .int) :: TW) { frames := 0, cells := 0, slots := 0, locals := 0 } (mPc D cT lo NB w ad [.ref (ad 7)]) (mQ D cT lo NB w w ad (some (.int r))) 0 0 (fun q => lo ≤ q) := by
  unfold f_X9_nextTask at h
  refine x_met (lv := [(0, .ref (ad 7))]) (by decide +kernel) (Nat.le_of_ble_eq_true rfl) rfl ?_
  intro p e s m args below meth c ls F hr hlk hP hin hl
  have hx := F.1
  have hb := F.2.1
  have hS : va_S (fun q => lo ≤ q) s.heap s.heap [] := va_S.rf
  refine lv_iconst (v := 0) hx hb dX9_nextTask_0 ic_0 ?_
  refine lv_istore_n (lv' := [(1, .int (0 : Int32)), (0, .ref (ad 7))]) hx hb dX9_nextTask_1 rfl hl (Nat.le_of_ble_eq_true rfl) rfl (fun ls hl => ?_)
  refine lv_sipush (v := 2001) hx hb dX9_nextTask_2 is_2001 ?_
  refine lv_istore_n (lv' := [(2, .int (2001 : Int32)), (1, .int (0 : Int32)), (0, .ref (ad 7))]) hx hb dX9_nextTask_5 rfl hl (Nat.le_of_ble_eq_true rfl) rfl (fun ls hl => ?_)
  refine lv_iconst (v := 0) hx hb dX9_nextTask_6 ic_0 ?_
  refine lv_istore_n (lv' := [(3, .int (0 : Int32)), (2, .int (2001 : Int32)), (1, .int (0 : Int32)), (0, .ref (ad 7))]) hx hb dX9_nextTask_7 rfl hl (Nat.le_of_ble_eq_true rfl) rfl (fun ls hl => ?_)
  have L_8 : ∀ (n_8 : Nat) (x3_8l : Int32) (x2_8l : Int32) (x1_8l : Int32), l_X9_nextTask_8 w n_8 x3_8l x2_8l x1_8l = some r → GG p l e { frames := 0, cells := 0, slots := 0, locals := 0 } s m args below meth c 0 0 (MQ below (mQ D cT lo NB w w ad (some (.int r))) args s 0 0 (fun q => lo ≤ q)) D cT lo NB 4 ad w 8 [(3, .int x3_8l), (2, .int x2_8l), (1, .int x1_8l), (0, .ref (ad 7))] [] := by
    intro n_8
    induction n_8 with
    | zero =>
      intro x3_8l x2_8l x1_8l h
      exact absurd h (by unfold l_X9_nextTask_8; exact fun z => by cases z)
    | succ n_8 ih_8 =>
      intro x3_8l x2_8l x1_8l h H locs ls hP hS hl
      unfold l_X9_nextTask_8 at h
      refine lv_iload_n hx hb dX9_nextTask_8 rfl (lv_at hl 0 rfl) ?_
      refine lv_aload_n hx hb dX9_nextTask_9 rfl (lv_at hl 3 rfl) ?_
      refine y_geti h F hP k_7 (n2 (hP.al 7 rfl)) fl_X9_36 rfl dX9_nextTask_10 (fun v_10 h => ?_)
      refine lv_icmp_ge (tgt := 50) hx hb dX9_nextTask_13 (by decide) (fun hc => ?_) (fun hc => ?_)
      · have h := if_t _ hc h
        refine lv_iload_n hx hb dX9_nextTask_50 rfl (lv_at hl 2 rfl) ?_
        exact y_iretO h F hr hP hS hlk dX9_nextTask_51
      · have h := if_f _ hc h
        refine lv_aload_n hx hb dX9_nextTask_16 rfl (lv_at hl 3 rfl) ?_
        refine x_getr F hP k_7 (hP.al 7 rfl) fl_X9_25 rfl r_7_5 dX9_nextTask_17 ?_
        refine lv_iload_n hx hb dX9_nextTask_20 rfl (lv_at hl 0 rfl) ?_
        refine y_zald h F hP k_53 (n2 (hP.al 53 rfl)) dX9_nextTask_21 (fun v_21 h => ?_)
        refine jn_use (fun (j_44 : Int32 → Int32 → Option Int32) => ∀ (x1_44 : Int32) (x2_44 : Int32), j_44 x1_44 x2_44 = some r → GG p l e { frames := 0, cells := 0, slots := 0, locals := 0 } s m args below meth c 0 0 (MQ below (mQ D cT lo NB w w ad (some (.int r))) args s 0 0 (fun q => lo ≤ q)) D cT lo NB 4 ad w 44 [(3, .int x3_8l), (2, .int x2_44), (1, .int x1_44), (0, .ref (ad 7))] []) h (fun x1_44 x2_44 h H locs ls hP hS hl => ?_) (fun j_44 J_44 h => ?_)
        · refine y_iinc (lv' := fun (v_44 : Int32) => [(3, .int v_44), (2, .int x2_44), (1, .int x1_44), (0, .ref (ad 7))]) h F ic_1 dX9_nextTask_44 hl (kq := 0) rfl (Nat.le_of_ble_eq_true rfl) (fun _ => rfl) (fun v_44 ls hl h => ?_)
          refine lv_goto (tgt := 8) hx hb dX9_nextTask_47 (by decide) ?_
          exact ih_8 v_44 x2_44 x1_44 h _ _ _ hP hS (lv_sub hl [0, 1, 2, 3] rfl)
        · refine lv_if_ne (tgt := 44) hx hb dX9_nextTask_22 (by decide) (fun hc => ?_) (fun hc => ?_)
          · have h := if_f _ hc h
            exact J_44 x1_8l x2_8l h _ _ _ hP hS (lv_sub hl [0, 1, 2, 3] rfl)
          · have h := if_t _ hc h
            refine lv_aload_n hx hb dX9_nextTask_25 rfl (lv_at hl 3 rfl) ?_
            refine x_getr F hP k_7 (hP.al 7 rfl) fl_X9_15 rfl r_7_1 dX9_nextTask_26 ?_
            refine lv_iload_n hx hb dX9_nextTask_29 rfl (lv_at hl 0 rfl) ?_
            refine y_iald h F hP k_51 (n2 (hP.al 51 rfl)) dX9_nextTask_30 (fun v_30 h => ?_)
            refine lv_iload_n hx hb dX9_nextTask_31 rfl (lv_at hl 1 rfl) ?_
            refine lv_icmp_ge (tgt := 44) hx hb dX9_nextTask_32 (by decide) (fun hc => ?_) (fun hc => ?_)
            · have h := if_t _ hc h
              exact J_44 x1_8l x2_8l h _ _ _ hP hS (lv_sub hl [0, 1, 2, 3] rfl)
            · have h := if_f _ hc h
              refine lv_aload_n hx hb dX9_nextTask_35 rfl (lv_at hl 3 rfl) ?_
              refine x_getr F hP k_7 (hP.al 7 rfl) fl_X9_15 rfl r_7_1 dX9_nextTask_36 ?_
              refine lv_iload_n hx hb dX9_nextTask_39 rfl (lv_at hl 0 rfl) ?_
              refine y_iald h F hP k_51 (n2 (hP.al 51 rfl)) dX9_nextTask_40 (fun v_40 h => ?_)
              refine lv_istore_n (lv' := [(2, .int v_40), (3, .int x3_8l), (1, .int x1_8l), (0, .ref (ad 7))]) hx hb dX9_nextTask_41 rfl hl (Nat.le_of_ble_eq_true rfl) rfl (fun ls hl => ?_)
              refine lv_iload_n hx hb dX9_nextTask_42 rfl (lv_at hl 1 rfl) ?_
              refine lv_istore_n (lv' := [(1, .int x3_8l), (2, .int v_40), (3, .int x3_8l), (0, .ref (ad 7))]) hx hb dX9_nextTask_43 rfl hl (Nat.le_of_ble_eq_true rfl) rfl (fun ls hl => ?_)
              exact J_44 x3_8l v_40 h _ _ _ hP hS (lv_sub hl [2, 1, 0, 3] rfl)
  exact L_8 FU (0 : Int32) (2001 : Int32) (0 : Int32) h _ _ _ hP hS (lv_sub hl [0, 1, 2, 3] rfl)
def l_X9_firstFree_4 (w : Wd) : Nat → Int32 → Int32 → Option Int32
  | 0, _, _ => none
  | n_4 + 1, x2_4l, x1_4l =>
    q_gt w 7 3 (fun v_6 =>
    if v_6 ≤ x2_4l then
    some x1_4l
    else
    q_ld w 54 4 x2_4l (fun v_17 =>
    q_ld w 54 4 x1_4l (fun v_23 =>
    q_jn (fun (x1_29 : Int32) =>
    q_lt (x2_4l + (1 : Int32)) (fun v_29 =>
    l_X9_firstFree_4 w n_4 v_29 x1_29)) (fun j_29 =>
    if v_23 ≤ v_17 then
    j_29 x1_4l
    else
    j_29 x2_4l))))
def f_X9_firstFree (w : Wd) : Option Int32 :=
l_X9_firstFree_4 w FU (1 : Int32) (0 : Int32)
set_option maxRecDepth 100000 in
set_option maxHeartbeats 4000000 in
theorem c_X9_firstFree (l : Launch) (D : va_G) (cT : Nat → ClassId) (lo : Nat) (w : Wd) (ad : Nat → Nat)  (r : Int32) (h : f_X9_firstFree w = some r) : Met l yX9_firstFree (.code yX9_firstFree cX9_firstFree 3 (some .int) :: TW) { frames := 0, cells := 0, slots := 0, locals := 0 } (mPc D cT lo NB w ad [.ref (ad 7)]) (mQ D cT lo NB w w ad (some (.int r))) 0 0 (fun q => lo ≤ q) := by
  unfold f_X9_firstFree at h
  refine x_met (lv := [(0, .ref (ad 7))]) (by decide +kernel) (Nat.le_of_ble_eq_true rfl) rfl ?_
  intro p e s m args below meth c ls F hr hlk hP hin hl
  have hx := F.1
  have hb := F.2.1
  have hS : va_S (fun q => lo ≤ q) s.heap s.heap [] := va_S.rf
  refine lv_iconst (v := 0) hx hb dX9_firstFree_0 ic_0 ?_
  refine lv_istore_n (lv' := [(1, .int (0 : Int32)), (0, .ref (ad 7))]) hx hb dX9_firstFree_1 rfl hl (Nat.le_of_ble_eq_true rfl) rfl (fun ls hl => ?_)
  refine lv_iconst (v := 1) hx hb dX9_firstFree_2 ic_1 ?_
  refine lv_istore_n (lv' := [(2, .int (1 : Int32)), (1, .int (0 : Int32)), (0, .ref (ad 7))]) hx hb dX9_firstFree_3 rfl hl (Nat.le_of_ble_eq_true rfl) rfl (fun ls hl => ?_)
  have L_4 : ∀ (n_4 : Nat) (x2_4l : Int32) (x1_4l : Int32), l_X9_firstFree_4 w n_4 x2_4l x1_4l = some r → GG p l e { frames := 0, cells := 0, slots := 0, locals := 0 } s m args below meth c 0 0 (MQ below (mQ D cT lo NB w w ad (some (.int r))) args s 0 0 (fun q => lo ≤ q)) D cT lo NB 3 ad w 4 [(2, .int x2_4l), (1, .int x1_4l), (0, .ref (ad 7))] [] := by
    intro n_4
    induction n_4 with
    | zero =>
      intro x2_4l x1_4l h
      exact absurd h (by unfold l_X9_firstFree_4; exact fun z => by cases z)
    | succ n_4 ih_4 =>
      intro x2_4l x1_4l h H locs ls hP hS hl
      unfold l_X9_firstFree_4 at h
      refine lv_iload_n hx hb dX9_firstFree_4 rfl (lv_at hl 0 rfl) ?_
      refine lv_aload_n hx hb dX9_firstFree_5 rfl (lv_at hl 2 rfl) ?_
      refine y_geti h F hP k_7 (n2 (hP.al 7 rfl)) fl_X9_18 rfl dX9_firstFree_6 (fun v_6 h => ?_)
      refine lv_icmp_ge (tgt := 35) hx hb dX9_firstFree_9 (by decide) (fun hc => ?_) (fun hc => ?_)
      · have h := if_t _ hc h
        refine lv_iload_n hx hb dX9_firstFree_35 rfl (lv_at hl 1 rfl) ?_
        exact y_iretO h F hr hP hS hlk dX9_firstFree_36
      · have h := if_f _ hc h
        refine lv_aload_n hx hb dX9_firstFree_12 rfl (lv_at hl 2 rfl) ?_
        refine x_getr F hP k_7 (hP.al 7 rfl) fl_X9_29 rfl r_7_6 dX9_firstFree_13 ?_
        refine lv_iload_n hx hb dX9_firstFree_16 rfl (lv_at hl 0 rfl) ?_
        refine y_iald h F hP k_54 (n2 (hP.al 54 rfl)) dX9_firstFree_17 (fun v_17 h => ?_)
        refine lv_aload_n hx hb dX9_firstFree_18 rfl (lv_at hl 2 rfl) ?_
        refine x_getr F hP k_7 (hP.al 7 rfl) fl_X9_29 rfl r_7_6 dX9_firstFree_19 ?_
        refine lv_iload_n hx hb dX9_firstFree_22 rfl (lv_at hl 1 rfl) ?_
        refine y_iald h F hP k_54 (n2 (hP.al 54 rfl)) dX9_firstFree_23 (fun v_23 h => ?_)
        refine jn_use (fun (j_29 : Int32 → Option Int32) => ∀ (x1_29 : Int32), j_29 x1_29 = some r → GG p l e { frames := 0, cells := 0, slots := 0, locals := 0 } s m args below meth c 0 0 (MQ below (mQ D cT lo NB w w ad (some (.int r))) args s 0 0 (fun q => lo ≤ q)) D cT lo NB 3 ad w 29 [(2, .int x2_4l), (1, .int x1_29), (0, .ref (ad 7))] []) h (fun x1_29 h H locs ls hP hS hl => ?_) (fun j_29 J_29 h => ?_)
        · refine y_iinc (lv' := fun (v_29 : Int32) => [(2, .int v_29), (1, .int x1_29), (0, .ref (ad 7))]) h F ic_1 dX9_firstFree_29 hl (kq := 0) rfl (Nat.le_of_ble_eq_true rfl) (fun _ => rfl) (fun v_29 ls hl h => ?_)
          refine lv_goto (tgt := 4) hx hb dX9_firstFree_32 (by decide) ?_
          exact ih_4 v_29 x1_29 h _ _ _ hP hS (lv_sub hl [0, 1, 2] rfl)
        · refine lv_icmp_ge (tgt := 29) hx hb dX9_firstFree_24 (by decide) (fun hc => ?_) (fun hc => ?_)
          · have h := if_t _ hc h
            exact J_29 x1_4l h _ _ _ hP hS (lv_sub hl [0, 1, 2] rfl)
          · have h := if_f _ hc h
            refine lv_iload_n hx hb dX9_firstFree_27 rfl (lv_at hl 0 rfl) ?_
            refine lv_istore_n (lv' := [(1, .int x2_4l), (2, .int x2_4l), (0, .ref (ad 7))]) hx hb dX9_firstFree_28 rfl hl (Nat.le_of_ble_eq_true rfl) rfl (fun ls hl => ?_)
            exact J_29 x2_4l h _ _ _ hP hS (lv_sub hl [1, 0, 2] rfl)
  exact L_4 FU (1 : Int32) (0 : Int32) h _ _ _ hP hS (lv_sub hl [0, 1, 2] rfl)
def l_X9_share_33  : Nat → Wd → Int32 → Option Wd
  | 0, _, _ => none
  | n_33 + 1, w_33l, x1_33l =>
    q_gt w_33l 7 2 (fun v_35 =>
    if v_35 ≤ x1_33l then
    some w_33l
    else
    q_bo (f_X9_nextTask w_33l) (fun v_42 =>
    q_bo (f_X9_firstFree w_33l) (fun v_47 =>
    q_ld w_33l 54 4 v_47 (fun v_57 =>
    q_ld w_33l 50 12 v_42 (fun v_63 =>
    q_st w_33l 54 4 v_47 (v_57 + v_63) (fun w_65 =>
    q_ld w_65 54 4 v_47 (fun v_76 =>
    q_ld w_65 51 12 v_42 (fun v_82 =>
    q_st w_65 52 12 v_42 (v_76 - v_82) (fun w_84 =>
    q_sz w_84 53 12 v_42 (1 : Int32) (fun w_91 =>
    q_lt (x1_33l + (1 : Int32)) (fun v_92 =>
    l_X9_share_33 n_33 w_91 v_92)))))))))))
def l_X9_share_10 (j_31 : Wd → Option Wd) : Nat → Wd → Int32 → Option Wd
  | 0, _, _ => none
  | n_10 + 1, w_10l, x1_10l =>
    q_gt w_10l 7 2 (fun v_12 =>
    if v_12 ≤ x1_10l then
    j_31 w_10l
    else
    q_sz w_10l 53 12 x1_10l (0 : Int32) (fun w_24 =>
    q_lt (x1_10l + (1 : Int32)) (fun v_25 =>
    l_X9_share_10 j_31 n_10 w_24 v_25)))
def f_X9_share (w : Wd) : Option Wd :=
q_bo (f_J7_fill_53178 w 54 4 (0 : Int32)) (fun w_5 =>
q_jn (fun (w_31j : Wd) =>
l_X9_share_33 FU w_31j (0 : Int32)) (fun j_31 =>
l_X9_share_10 j_31 FU w_5 (0 : Int32)))
set_option maxRecDepth 100000 in
set_option maxHeartbeats 4000000 in
theorem c_X9_share (l : Launch) (D : va_G) (cT : Nat → ClassId) (lo : Nat) (w : Wd) (ad : Nat → Nat)  (w9 : Wd) (h : f_X9_share w = some w9) : Met l yX9_share (.code yX9_share cX9_share 4 none :: TW) { frames := 1, cells := 0, slots := 0, locals := 23 } (mPc D cT lo NB w ad [.ref (ad 7)]) (mQ D cT lo NB w w9 ad none) 0 0 (fun q => lo ≤ q) := by
  unfold f_X9_share at h
  refine x_met (lv := [(0, .ref (ad 7))]) (by decide +kernel) (Nat.le_of_ble_eq_true rfl) rfl ?_
  intro p e s m args below meth c ls F hr hlk hP hin hl
  have hx := F.1
  have hb := F.2.1
  have hS : va_S (fun q => lo ≤ q) s.heap s.heap [] := va_S.rf
  have hM_w : mono w w := mono.refl
  refine lv_aload_n hx hb dX9_share_0 rfl (lv_at hl 0 rfl) ?_
  refine x_getr F hP k_7 (hP.al 7 rfl) fl_X9_29 rfl r_7_6 dX9_share_1 ?_
  refine lv_iconst (v := 0) hx hb dX9_share_4 ic_0 ?_
  obtain ⟨w_5, hc_5, h⟩ := bo_s h
  refine x_goes (x_runS (As := [.ref (ad 54), .int (0 : Int32)]) (rest := []) F hP hS (c_J7_fill_53178 l D cT lo NB w ad 54 4 k_54 (hP.al 54 rfl) (0 : Int32) w_5 hc_5) cw_J7_fill_53178 lk_X9_48 st_J7_fill_53178 ⟨rfl, rfl, Nat.le_of_ble_eq_true rfl, Nat.le_of_ble_eq_true rfl⟩ hl.1 rfl (Nat.le_of_ble_eq_true rfl) dX9_share_5 ⟨Nat.zero_le _, Nat.zero_le _⟩) hS (fun H locs hP hS hm => ?_)
  have hM_w := hm
  refine lv_iconst (v := 0) hx hb dX9_share_8 ic_0 ?_
  refine lv_istore_n (lv' := [(1, .int (0 : Int32)), (0, .ref (ad 7))]) hx hb dX9_share_9 rfl hl (Nat.le_of_ble_eq_true rfl) rfl (fun ls hl => ?_)
  refine jn_use (fun (j_31 : Wd → Option Wd) => ∀ (w_31j : Wd), mono w_5 w_31j → j_31 w_31j = some w9 → GG p l e { frames := 1, cells := 0, slots := 0, locals := 23 } s m args below meth c 0 0 (MQ below (mQ D cT lo NB w w9 ad none) args s 0 0 (fun q => lo ≤ q)) D cT lo NB 4 ad w_31j 31 [(0, .ref (ad 7))] []) h (fun w_31j hm h H locs ls hP hS hl => ?_) (fun j_31 J_31 h => ?_)
  · have hM_w := hM_w.trans hm
    have hM_w_5 := hm
    refine lv_iconst (v := 0) hx hb dX9_share_31 ic_0 ?_
    refine lv_istore_n (lv' := [(1, .int (0 : Int32)), (0, .ref (ad 7))]) hx hb dX9_share_32 rfl hl (Nat.le_of_ble_eq_true rfl) rfl (fun ls hl => ?_)
    have L_33 : ∀ (n_33 : Nat) (w_33l : Wd) (x1_33l : Int32), mono w_31j w_33l → l_X9_share_33 n_33 w_33l x1_33l = some w9 → GG p l e { frames := 1, cells := 0, slots := 0, locals := 23 } s m args below meth c 0 0 (MQ below (mQ D cT lo NB w w9 ad none) args s 0 0 (fun q => lo ≤ q)) D cT lo NB 4 ad w_33l 33 [(1, .int x1_33l), (0, .ref (ad 7))] [] := by
      intro n_33
      induction n_33 with
      | zero =>
        intro w_33l x1_33l _ h
        exact absurd h (by unfold l_X9_share_33; exact fun z => by cases z)
      | succ n_33 ih_33 =>
        intro w_33l x1_33l hm h H locs ls hP hS hl
        unfold l_X9_share_33 at h
        have hM_w := hM_w.trans hm
        have hM_w_5 := hM_w_5.trans hm
        have hM_w_31j := hm
        refine lv_iload_n hx hb dX9_share_33 rfl (lv_at hl 0 rfl) ?_
        refine lv_aload_n hx hb dX9_share_34 rfl (lv_at hl 1 rfl) ?_
        refine y_geti h F hP k_7 (n2 (hP.al 7 rfl)) fl_X9_36 rfl dX9_share_35 (fun v_35 h => ?_)
        refine lv_icmp_ge (tgt := 98) hx hb dX9_share_38 (by decide) (fun hc => ?_) (fun hc => ?_)
        · have h := if_t _ hc h
          exact y_vret h F hr hP hS hM_w hlk dX9_share_98
        · have h := if_f _ hc h
          refine lv_aload_n hx hb dX9_share_41 rfl (lv_at hl 1 rfl) ?_
          obtain ⟨v_42, hc_42, h⟩ := bo_s h
          refine x_goes (x_runV (As := []) (rest := []) F hP hS (c_X9_nextTask l D cT lo w_33l ad  v_42 hc_42) cw_X9_nextTask lk_X9_54 vi_X9_nextTask k_7 (n2 (hP.al 7 rfl)) rfl ⟨rfl, rfl, Nat.le_of_ble_eq_true rfl, Nat.le_of_ble_eq_true rfl⟩ hl.1 rfl (Nat.le_of_ble_eq_true rfl) dX9_share_42 ⟨Nat.zero_le _, Nat.zero_le _⟩) hS (fun H locs hP hS _ => ?_)
          refine lv_istore_n (lv' := [(2, .int v_42), (1, .int x1_33l), (0, .ref (ad 7))]) hx hb dX9_share_45 rfl hl (Nat.le_of_ble_eq_true rfl) rfl (fun ls hl => ?_)
          refine lv_aload_n hx hb dX9_share_46 rfl (lv_at hl 2 rfl) ?_
          obtain ⟨v_47, hc_47, h⟩ := bo_s h
          refine x_goes (x_runV (As := []) (rest := []) F hP hS (c_X9_firstFree l D cT lo w_33l ad  v_47 hc_47) cw_X9_firstFree lk_X9_58 vi_X9_firstFree k_7 (n2 (hP.al 7 rfl)) rfl ⟨rfl, rfl, Nat.le_of_ble_eq_true rfl, Nat.le_of_ble_eq_true rfl⟩ hl.1 rfl (Nat.le_of_ble_eq_true rfl) dX9_share_47 ⟨Nat.zero_le _, Nat.zero_le _⟩) hS (fun H locs hP hS _ => ?_)
          refine lv_istore_n (lv' := [(3, .int v_47), (2, .int v_42), (1, .int x1_33l), (0, .ref (ad 7))]) hx hb dX9_share_50 rfl hl (Nat.le_of_ble_eq_true rfl) rfl (fun ls hl => ?_)
          refine lv_aload_n hx hb dX9_share_51 rfl (lv_at hl 3 rfl) ?_
          refine x_getr F hP k_7 (hP.al 7 rfl) fl_X9_29 rfl r_7_6 dX9_share_52 ?_
          refine lv_iload_n hx hb dX9_share_55 rfl (lv_at hl 0 rfl) ?_
          refine lv_dup2_11 hx hb dX9_share_56 rfl rfl ?_
          refine y_iald h F hP k_54 (n2 (hP.al 54 rfl)) dX9_share_57 (fun v_57 h => ?_)
          refine lv_aload_n hx hb dX9_share_58 rfl (lv_at hl 3 rfl) ?_
          refine x_getr F hP k_7 (hP.al 7 rfl) fl_X9_11 rfl r_7_0 dX9_share_59 ?_
          refine lv_iload_n hx hb dX9_share_62 rfl (lv_at hl 1 rfl) ?_
          refine y_iald h F hP k_50 (n2 (hP.al 50 rfl)) dX9_share_63 (fun v_63 h => ?_)
          refine lv_iadd hx hb dX9_share_64 ?_
          refine y_iast h F hP hS k_54 (n2 (hP.al 54 rfl)) dX9_share_65 (fun w_65 H locs hm h hP hS => ?_)
          have hM_w := hM_w.trans hm
          have hM_w_5 := hM_w_5.trans hm
          have hM_w_31j := hM_w_31j.trans hm
          refine lv_aload_n hx hb dX9_share_66 rfl (lv_at hl 3 rfl) ?_
          refine x_getr F hP k_7 (hP.al 7 rfl) fl_X9_22 rfl r_7_4 dX9_share_67 ?_
          refine lv_iload_n hx hb dX9_share_70 rfl (lv_at hl 1 rfl) ?_
          refine lv_aload_n hx hb dX9_share_71 rfl (lv_at hl 3 rfl) ?_
          refine x_getr F hP k_7 (hP.al 7 rfl) fl_X9_29 rfl r_7_6 dX9_share_72 ?_
          refine lv_iload_n hx hb dX9_share_75 rfl (lv_at hl 0 rfl) ?_
          refine y_iald h F hP k_54 (n2 (hP.al 54 rfl)) dX9_share_76 (fun v_76 h => ?_)
          refine lv_aload_n hx hb dX9_share_77 rfl (lv_at hl 3 rfl) ?_
          refine x_getr F hP k_7 (hP.al 7 rfl) fl_X9_15 rfl r_7_1 dX9_share_78 ?_
          refine lv_iload_n hx hb dX9_share_81 rfl (lv_at hl 1 rfl) ?_
          refine y_iald h F hP k_51 (n2 (hP.al 51 rfl)) dX9_share_82 (fun v_82 h => ?_)
          refine lv_isub hx hb dX9_share_83 ?_
          refine y_iast h F hP hS k_52 (n2 (hP.al 52 rfl)) dX9_share_84 (fun w_84 H locs hm h hP hS => ?_)
          have hM_w := hM_w.trans hm
          have hM_w_5 := hM_w_5.trans hm
          have hM_w_31j := hM_w_31j.trans hm
          refine lv_aload_n hx hb dX9_share_85 rfl (lv_at hl 3 rfl) ?_
          refine x_getr F hP k_7 (hP.al 7 rfl) fl_X9_25 rfl r_7_5 dX9_share_86 ?_
          refine lv_iload_n hx hb dX9_share_89 rfl (lv_at hl 1 rfl) ?_
          refine lv_iconst (v := 1) hx hb dX9_share_90 ic_1 ?_
          refine y_zast h F hP hS k_53 (n2 (hP.al 53 rfl)) dX9_share_91 (fun w_91 H locs hm h hP hS => ?_)
          have hM_w := hM_w.trans hm
          have hM_w_5 := hM_w_5.trans hm
          have hM_w_31j := hM_w_31j.trans hm
          refine y_iinc (lv' := fun (v_92 : Int32) => [(1, .int v_92), (3, .int v_47), (2, .int v_42), (0, .ref (ad 7))]) h F ic_1 dX9_share_92 hl (kq := 2) rfl (Nat.le_of_ble_eq_true rfl) (fun _ => rfl) (fun v_92 ls hl h => ?_)
          refine lv_goto (tgt := 33) hx hb dX9_share_95 (by decide) ?_
          exact ih_33 w_91 v_92 hM_w_31j h _ _ _ hP hS (lv_sub hl [0, 3] rfl)
    exact L_33 FU w_31j (0 : Int32) mono.refl h _ _ _ hP hS (lv_sub hl [0, 1] rfl)
  · have L_10 : ∀ (n_10 : Nat) (w_10l : Wd) (x1_10l : Int32), mono w_5 w_10l → l_X9_share_10 j_31 n_10 w_10l x1_10l = some w9 → GG p l e { frames := 1, cells := 0, slots := 0, locals := 23 } s m args below meth c 0 0 (MQ below (mQ D cT lo NB w w9 ad none) args s 0 0 (fun q => lo ≤ q)) D cT lo NB 4 ad w_10l 10 [(1, .int x1_10l), (0, .ref (ad 7))] [] := by
      intro n_10
      induction n_10 with
      | zero =>
        intro w_10l x1_10l _ h
        exact absurd h (by unfold l_X9_share_10; exact fun z => by cases z)
      | succ n_10 ih_10 =>
        intro w_10l x1_10l hm h H locs ls hP hS hl
        unfold l_X9_share_10 at h
        have hM_w := hM_w.trans hm
        have hM_w_5 := hm
        refine lv_iload_n hx hb dX9_share_10 rfl (lv_at hl 0 rfl) ?_
        refine lv_aload_n hx hb dX9_share_11 rfl (lv_at hl 1 rfl) ?_
        refine y_geti h F hP k_7 (n2 (hP.al 7 rfl)) fl_X9_36 rfl dX9_share_12 (fun v_12 h => ?_)
        refine lv_icmp_ge (tgt := 31) hx hb dX9_share_15 (by decide) (fun hc => ?_) (fun hc => ?_)
        · have h := if_t _ hc h
          exact J_31 w_10l hM_w_5 h _ _ _ hP hS (lv_sub hl [1] rfl)
        · have h := if_f _ hc h
          refine lv_aload_n hx hb dX9_share_18 rfl (lv_at hl 1 rfl) ?_
          refine x_getr F hP k_7 (hP.al 7 rfl) fl_X9_25 rfl r_7_5 dX9_share_19 ?_
          refine lv_iload_n hx hb dX9_share_22 rfl (lv_at hl 0 rfl) ?_
          refine lv_iconst (v := 0) hx hb dX9_share_23 ic_0 ?_
          refine y_zast h F hP hS k_53 (n2 (hP.al 53 rfl)) dX9_share_24 (fun w_24 H locs hm h hP hS => ?_)
          have hM_w := hM_w.trans hm
          have hM_w_5 := hM_w_5.trans hm
          refine y_iinc (lv' := fun (v_25 : Int32) => [(1, .int v_25), (0, .ref (ad 7))]) h F ic_1 dX9_share_25 hl (kq := 0) rfl (Nat.le_of_ble_eq_true rfl) (fun _ => rfl) (fun v_25 ls hl h => ?_)
          refine lv_goto (tgt := 10) hx hb dX9_share_28 (by decide) ?_
          exact ih_10 w_24 v_25 hM_w_5 h _ _ _ hP hS (lv_sub hl [0, 1] rfl)
    exact L_10 FU w_5 (0 : Int32) mono.refl h _ _ _ hP hS (lv_sub hl [0, 1] rfl)
def f_X9_lateOf (w : Wd) (a1 : Int32) : Option (Int32 × Wd) :=
q_gt w 7 2 (fun v_3 =>
if (f_X11_within a1 (0 : Int32) (v_3 - (1 : Int32))) = 0 then
some ((-10000 : Int32), w)
else
q_bo (f_X9_share w) (fun w_19 =>
q_ld w_19 52 12 a1 (fun v_27 =>
some (v_27, w_19))))
set_option maxRecDepth 100000 in
set_option maxHeartbeats 4000000 in
theorem c_X9_lateOf (l : Launch) (D : va_G) (cT : Nat → ClassId) (lo : Nat) (w : Wd) (ad : Nat → Nat) (a1 : Int32) (r : Int32) (w9 : Wd) (h : f_X9_lateOf w a1 = some (r, w9)) : Met l yX9_lateOf (.code yX9_lateOf cX9_lateOf 2 (some .int) :: TW) { frames := 2, cells := 0, slots := 0, locals := 46 } (mPc D cT lo NB w ad [.ref (ad 7), .int a1]) (mQ D cT lo NB w w9 ad (some (.int r))) 0 0 (fun q => lo ≤ q) := by
  unfold f_X9_lateOf at h
  refine x_met (lv := [(0, .ref (ad 7)), (1, .int a1)]) (by decide +kernel) (Nat.le_of_ble_eq_true rfl) rfl ?_
  intro p e s m args below meth c ls F hr hlk hP hin hl
  have hx := F.1
  have hb := F.2.1
  have hS : va_S (fun q => lo ≤ q) s.heap s.heap [] := va_S.rf
  have hM_w : mono w w := mono.refl
  refine lv_iload_n hx hb dX9_lateOf_0 rfl (lv_at hl 1 rfl) ?_
  refine lv_iconst (v := 0) hx hb dX9_lateOf_1 ic_0 ?_
  refine lv_aload_n hx hb dX9_lateOf_2 rfl (lv_at hl 0 rfl) ?_
  refine y_geti h F hP k_7 (n2 (hP.al 7 rfl)) fl_X9_36 rfl dX9_lateOf_3 (fun v_3 h => ?_)
  refine lv_iconst (v := 1) hx hb dX9_lateOf_6 ic_1 ?_
  refine lv_isub hx hb dX9_lateOf_7 ?_
  refine x_goesZ (x_runSN (As := [.int a1, .int (0 : Int32), .int (v_3 - (1 : Int32))]) (rest := []) F hP hS (c_X11_within l D cT lo NB w ad a1 (0 : Int32) (v_3 - (1 : Int32))) cw_X11_within nl_X9_32 st_X11_within ⟨rfl, rfl, Nat.le_of_ble_eq_true rfl, Nat.le_of_ble_eq_true rfl⟩ hl.1 rfl (Nat.le_of_ble_eq_true rfl) dX9_lateOf_8 ⟨Nat.zero_le _, Nat.zero_le _⟩) hS (fun H locs hz_8 hP hS _ => ?_)
  refine lv_if_ne (tgt := 18) hx hb dX9_lateOf_11 (by decide) (fun hc => ?_) (fun hc => ?_)
  · have h := if_f _ hc h
    refine lv_aload_n hx hb dX9_lateOf_18 rfl (lv_at hl 0 rfl) ?_
    obtain ⟨w_19, hc_19, h⟩ := bo_s h
    refine x_goes (x_runV (As := []) (rest := []) F hP hS (c_X9_share l D cT lo w ad  w_19 hc_19) cw_X9_share lk_X9_39 vi_X9_share k_7 (n2 (hP.al 7 rfl)) rfl ⟨rfl, rfl, Nat.le_of_ble_eq_true rfl, Nat.le_of_ble_eq_true rfl⟩ hl.1 rfl (Nat.le_of_ble_eq_true rfl) dX9_lateOf_19 ⟨Nat.zero_le _, Nat.zero_le _⟩) hS (fun H locs hP hS hm => ?_)
    have hM_w := hm
    refine lv_aload_n hx hb dX9_lateOf_22 rfl (lv_at hl 0 rfl) ?_
    refine x_getr F hP k_7 (hP.al 7 rfl) fl_X9_22 rfl r_7_4 dX9_lateOf_23 ?_
    refine lv_iload_n hx hb dX9_lateOf_26 rfl (lv_at hl 1 rfl) ?_
    refine y_iald h F hP k_52 (n2 (hP.al 52 rfl)) dX9_lateOf_27 (fun v_27 h => ?_)
    exact y_iretM h F hr hP hS hM_w hlk dX9_lateOf_28
  · have h := if_t _ hc h
    refine lv_sipush (v := -10000) hx hb dX9_lateOf_14 is_m10000 ?_
    exact y_iretM h F hr hP hS mono.refl hlk dX9_lateOf_17
def l_X9_greatestLate_8 (w_1 : Wd) : Nat → Int32 → Int32 → Option (Int32 × Wd)
  | 0, _, _ => none
  | n_8 + 1, x2_8l, x1_8l =>
    q_gt w_1 7 2 (fun v_10 =>
    if v_10 ≤ x2_8l then
    some (x1_8l, w_1)
    else
    q_ld w_1 52 12 x2_8l (fun v_22 =>
    q_lt (f_J9_max_7cf53 x1_8l v_22) (fun v_26 =>
    q_lt (x2_8l + (1 : Int32)) (fun v_27 =>
    l_X9_greatestLate_8 w_1 n_8 v_27 v_26))))
def f_X9_greatestLate (w : Wd) : Option (Int32 × Wd) :=
q_bo (f_X9_share w) (fun w_1 =>
l_X9_greatestLate_8 w_1 FU (0 : Int32) (0 : Int32))
set_option maxRecDepth 100000 in
set_option maxHeartbeats 4000000 in
theorem c_X9_greatestLate (l : Launch) (D : va_G) (cT : Nat → ClassId) (lo : Nat) (w : Wd) (ad : Nat → Nat)  (r : Int32) (w9 : Wd) (h : f_X9_greatestLate w = some (r, w9)) : Met l yX9_greatestLate (.code yX9_greatestLate cX9_greatestLate 3 (some .int) :: TW) { frames := 2, cells := 0, slots := 0, locals := 46 } (mPc D cT lo NB w ad [.ref (ad 7)]) (mQ D cT lo NB w w9 ad (some (.int r))) 0 0 (fun q => lo ≤ q) := by
  unfold f_X9_greatestLate at h
  refine x_met (lv := [(0, .ref (ad 7))]) (by decide +kernel) (Nat.le_of_ble_eq_true rfl) rfl ?_
  intro p e s m args below meth c ls F hr hlk hP hin hl
  have hx := F.1
  have hb := F.2.1
  have hS : va_S (fun q => lo ≤ q) s.heap s.heap [] := va_S.rf
  have hM_w : mono w w := mono.refl
  refine lv_aload_n hx hb dX9_greatestLate_0 rfl (lv_at hl 0 rfl) ?_
  obtain ⟨w_1, hc_1, h⟩ := bo_s h
  refine x_goes (x_runV (As := []) (rest := []) F hP hS (c_X9_share l D cT lo w ad  w_1 hc_1) cw_X9_share lk_X9_39 vi_X9_share k_7 (n2 (hP.al 7 rfl)) rfl ⟨rfl, rfl, Nat.le_of_ble_eq_true rfl, Nat.le_of_ble_eq_true rfl⟩ hl.1 rfl (Nat.le_of_ble_eq_true rfl) dX9_greatestLate_1 ⟨Nat.zero_le _, Nat.zero_le _⟩) hS (fun H locs hP hS hm => ?_)
  have hM_w := hm
  refine lv_iconst (v := 0) hx hb dX9_greatestLate_4 ic_0 ?_
  refine lv_istore_n (lv' := [(1, .int (0 : Int32)), (0, .ref (ad 7))]) hx hb dX9_greatestLate_5 rfl hl (Nat.le_of_ble_eq_true rfl) rfl (fun ls hl => ?_)
  refine lv_iconst (v := 0) hx hb dX9_greatestLate_6 ic_0 ?_
  refine lv_istore_n (lv' := [(2, .int (0 : Int32)), (1, .int (0 : Int32)), (0, .ref (ad 7))]) hx hb dX9_greatestLate_7 rfl hl (Nat.le_of_ble_eq_true rfl) rfl (fun ls hl => ?_)
  have L_8 : ∀ (n_8 : Nat) (x2_8l : Int32) (x1_8l : Int32), l_X9_greatestLate_8 w_1 n_8 x2_8l x1_8l = some (r, w9) → GG p l e { frames := 2, cells := 0, slots := 0, locals := 46 } s m args below meth c 0 0 (MQ below (mQ D cT lo NB w w9 ad (some (.int r))) args s 0 0 (fun q => lo ≤ q)) D cT lo NB 3 ad w_1 8 [(2, .int x2_8l), (1, .int x1_8l), (0, .ref (ad 7))] [] := by
    intro n_8
    induction n_8 with
    | zero =>
      intro x2_8l x1_8l h
      exact absurd h (by unfold l_X9_greatestLate_8; exact fun z => by cases z)
    | succ n_8 ih_8 =>
      intro x2_8l x1_8l h H locs ls hP hS hl
      unfold l_X9_greatestLate_8 at h
      refine lv_iload_n hx hb dX9_greatestLate_8 rfl (lv_at hl 0 rfl) ?_
      refine lv_aload_n hx hb dX9_greatestLate_9 rfl (lv_at hl 2 rfl) ?_
      refine y_geti h F hP k_7 (n2 (hP.al 7 rfl)) fl_X9_36 rfl dX9_greatestLate_10 (fun v_10 h => ?_)
      refine lv_icmp_ge (tgt := 33) hx hb dX9_greatestLate_13 (by decide) (fun hc => ?_) (fun hc => ?_)
      · have h := if_t _ hc h
        refine lv_iload_n hx hb dX9_greatestLate_33 rfl (lv_at hl 1 rfl) ?_
        exact y_iretM h F hr hP hS hM_w hlk dX9_greatestLate_34
      · have h := if_f _ hc h
        refine lv_iload_n hx hb dX9_greatestLate_16 rfl (lv_at hl 1 rfl) ?_
        refine lv_aload_n hx hb dX9_greatestLate_17 rfl (lv_at hl 2 rfl) ?_
        refine x_getr F hP k_7 (hP.al 7 rfl) fl_X9_22 rfl r_7_4 dX9_greatestLate_18 ?_
        refine lv_iload_n hx hb dX9_greatestLate_21 rfl (lv_at hl 0 rfl) ?_
        refine y_iald h F hP k_52 (n2 (hP.al 52 rfl)) dX9_greatestLate_22 (fun v_22 h => ?_)
        refine x_goes (x_runS (As := [.int x1_8l, .int v_22]) (rest := []) F hP hS (c_J9_max_7cf53 l D cT lo NB w_1 ad x1_8l v_22) cw_J9_max_7cf53 lk_X9_42 st_J9_max_7cf53 ⟨rfl, rfl, Nat.le_of_ble_eq_true rfl, Nat.le_of_ble_eq_true rfl⟩ hl.1 rfl (Nat.le_of_ble_eq_true rfl) dX9_greatestLate_23 ⟨Nat.zero_le _, Nat.zero_le _⟩) hS (fun H locs hP hS _ => ?_)
        refine y_let h (fun v_26 h => ?_)
        refine lv_istore_n (lv' := [(1, .int v_26), (2, .int x2_8l), (0, .ref (ad 7))]) hx hb dX9_greatestLate_26 rfl hl (Nat.le_of_ble_eq_true rfl) rfl (fun ls hl => ?_)
        refine y_iinc (lv' := fun (v_27 : Int32) => [(2, .int v_27), (1, .int v_26), (0, .ref (ad 7))]) h F ic_1 dX9_greatestLate_27 hl (kq := 1) rfl (Nat.le_of_ble_eq_true rfl) (fun _ => rfl) (fun v_27 ls hl h => ?_)
        refine lv_goto (tgt := 8) hx hb dX9_greatestLate_30 (by decide) ?_
        exact ih_8 v_27 v_26 h _ _ _ hP hS (lv_sub hl [0, 1, 2] rfl)
  exact L_8 FU (0 : Int32) (0 : Int32) h _ _ _ hP hS (lv_sub hl [0, 1, 2] rfl)
def l_X9_howManyLate_8 (w_1 : Wd) : Nat → Int32 → Int32 → Option (Int32 × Wd)
  | 0, _, _ => none
  | n_8 + 1, x2_8l, x1_8l =>
    q_gt w_1 7 2 (fun v_10 =>
    if v_10 ≤ x2_8l then
    some (x1_8l, w_1)
    else
    q_ld w_1 52 12 x2_8l (fun v_21 =>
    q_jn (fun (x1_28 : Int32) =>
    q_lt (x2_8l + (1 : Int32)) (fun v_28 =>
    l_X9_howManyLate_8 w_1 n_8 v_28 x1_28)) (fun j_28 =>
    if v_21 ≤ 0 then
    j_28 x1_8l
    else
    q_lt (x1_8l + (1 : Int32)) (fun v_25 =>
    j_28 v_25))))
def f_X9_howManyLate (w : Wd) : Option (Int32 × Wd) :=
q_bo (f_X9_share w) (fun w_1 =>
l_X9_howManyLate_8 w_1 FU (0 : Int32) (0 : Int32))
set_option maxRecDepth 100000 in
set_option maxHeartbeats 4000000 in
theorem c_X9_howManyLate (l : Launch) (D : va_G) (cT : Nat → ClassId) (lo : Nat) (w : Wd) (ad : Nat → Nat)  (r : Int32) (w9 : Wd) (h : f_X9_howManyLate w = some (r, w9)) : Met l yX9_howManyLate (.code yX9_howManyLate cX9_howManyLate 3 (some .int) :: TW) { frames := 2, cells := 0, slots := 0, locals := 46 } (mPc D cT lo NB w ad [.ref (ad 7)]) (mQ D cT lo NB w w9 ad (some (.int r))) 0 0 (fun q => lo ≤ q) := by
  unfold f_X9_howManyLate at h
  refine x_met (lv := [(0, .ref (ad 7))]) (by decide +kernel) (Nat.le_of_ble_eq_true rfl) rfl ?_
  intro p e s m args below meth c ls F hr hlk hP hin hl
  have hx := F.1
  have hb := F.2.1
  have hS : va_S (fun q => lo ≤ q) s.heap s.heap [] := va_S.rf
  have hM_w : mono w w := mono.refl
  refine lv_aload_n hx hb dX9_howManyLate_0 rfl (lv_at hl 0 rfl) ?_
  obtain ⟨w_1, hc_1, h⟩ := bo_s h
  refine x_goes (x_runV (As := []) (rest := []) F hP hS (c_X9_share l D cT lo w ad  w_1 hc_1) cw_X9_share lk_X9_39 vi_X9_share k_7 (n2 (hP.al 7 rfl)) rfl ⟨rfl, rfl, Nat.le_of_ble_eq_true rfl, Nat.le_of_ble_eq_true rfl⟩ hl.1 rfl (Nat.le_of_ble_eq_true rfl) dX9_howManyLate_1 ⟨Nat.zero_le _, Nat.zero_le _⟩) hS (fun H locs hP hS hm => ?_)
  have hM_w := hm
  refine lv_iconst (v := 0) hx hb dX9_howManyLate_4 ic_0 ?_
  refine lv_istore_n (lv' := [(1, .int (0 : Int32)), (0, .ref (ad 7))]) hx hb dX9_howManyLate_5 rfl hl (Nat.le_of_ble_eq_true rfl) rfl (fun ls hl => ?_)
  refine lv_iconst (v := 0) hx hb dX9_howManyLate_6 ic_0 ?_
  refine lv_istore_n (lv' := [(2, .int (0 : Int32)), (1, .int (0 : Int32)), (0, .ref (ad 7))]) hx hb dX9_howManyLate_7 rfl hl (Nat.le_of_ble_eq_true rfl) rfl (fun ls hl => ?_)
  have L_8 : ∀ (n_8 : Nat) (x2_8l : Int32) (x1_8l : Int32), l_X9_howManyLate_8 w_1 n_8 x2_8l x1_8l = some (r, w9) → GG p l e { frames := 2, cells := 0, slots := 0, locals := 46 } s m args below meth c 0 0 (MQ below (mQ D cT lo NB w w9 ad (some (.int r))) args s 0 0 (fun q => lo ≤ q)) D cT lo NB 3 ad w_1 8 [(2, .int x2_8l), (1, .int x1_8l), (0, .ref (ad 7))] [] := by
    intro n_8
    induction n_8 with
    | zero =>
      intro x2_8l x1_8l h
      exact absurd h (by unfold l_X9_howManyLate_8; exact fun z => by cases z)
    | succ n_8 ih_8 =>
      intro x2_8l x1_8l h H locs ls hP hS hl
      unfold l_X9_howManyLate_8 at h
      refine lv_iload_n hx hb dX9_howManyLate_8 rfl (lv_at hl 0 rfl) ?_
      refine lv_aload_n hx hb dX9_howManyLate_9 rfl (lv_at hl 2 rfl) ?_
      refine y_geti h F hP k_7 (n2 (hP.al 7 rfl)) fl_X9_36 rfl dX9_howManyLate_10 (fun v_10 h => ?_)
      refine lv_icmp_ge (tgt := 34) hx hb dX9_howManyLate_13 (by decide) (fun hc => ?_) (fun hc => ?_)
      · have h := if_t _ hc h
        refine lv_iload_n hx hb dX9_howManyLate_34 rfl (lv_at hl 1 rfl) ?_
        exact y_iretM h F hr hP hS hM_w hlk dX9_howManyLate_35
      · have h := if_f _ hc h
        refine lv_aload_n hx hb dX9_howManyLate_16 rfl (lv_at hl 2 rfl) ?_
        refine x_getr F hP k_7 (hP.al 7 rfl) fl_X9_22 rfl r_7_4 dX9_howManyLate_17 ?_
        refine lv_iload_n hx hb dX9_howManyLate_20 rfl (lv_at hl 0 rfl) ?_
        refine y_iald h F hP k_52 (n2 (hP.al 52 rfl)) dX9_howManyLate_21 (fun v_21 h => ?_)
        refine jn_use (fun (j_28 : Int32 → Option (Int32 × Wd)) => ∀ (x1_28 : Int32), j_28 x1_28 = some (r, w9) → GG p l e { frames := 2, cells := 0, slots := 0, locals := 46 } s m args below meth c 0 0 (MQ below (mQ D cT lo NB w w9 ad (some (.int r))) args s 0 0 (fun q => lo ≤ q)) D cT lo NB 3 ad w_1 28 [(2, .int x2_8l), (1, .int x1_28), (0, .ref (ad 7))] []) h (fun x1_28 h H locs ls hP hS hl => ?_) (fun j_28 J_28 h => ?_)
        · refine y_iinc (lv' := fun (v_28 : Int32) => [(2, .int v_28), (1, .int x1_28), (0, .ref (ad 7))]) h F ic_1 dX9_howManyLate_28 hl (kq := 0) rfl (Nat.le_of_ble_eq_true rfl) (fun _ => rfl) (fun v_28 ls hl h => ?_)
          refine lv_goto (tgt := 8) hx hb dX9_howManyLate_31 (by decide) ?_
          exact ih_8 v_28 x1_28 h _ _ _ hP hS (lv_sub hl [0, 1, 2] rfl)
        · refine lv_if_le (tgt := 28) hx hb dX9_howManyLate_22 (by decide) (fun hc => ?_) (fun hc => ?_)
          · have h := if_t _ hc h
            exact J_28 x1_8l h _ _ _ hP hS (lv_sub hl [0, 1, 2] rfl)
          · have h := if_f _ hc h
            refine y_iinc (lv' := fun (v_25 : Int32) => [(1, .int v_25), (2, .int x2_8l), (0, .ref (ad 7))]) h F ic_1 dX9_howManyLate_25 hl (kq := 1) rfl (Nat.le_of_ble_eq_true rfl) (fun _ => rfl) (fun v_25 ls hl h => ?_)
            exact J_28 v_25 h _ _ _ hP hS (lv_sub hl [1, 0, 2] rfl)
  exact L_8 FU (0 : Int32) (0 : Int32) h _ _ _ hP hS (lv_sub hl [0, 1, 2] rfl)
