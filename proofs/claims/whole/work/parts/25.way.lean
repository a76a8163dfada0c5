theorem dX10_stepAt_0 : decode cX10_stepAt 0 = .ok (.iload_n 1, 1) := by decide +kernel
theorem dX10_stepAt_1 : decode cX10_stepAt 1 = .ok (.iconst 0, 1) := by decide +kernel
theorem dX10_stepAt_2 : decode cX10_stepAt 2 = .ok (.aload_n 0, 1) := by decide +kernel
theorem dX10_stepAt_3 : decode cX10_stepAt 3 = .ok (.getfield 32, 3) := by decide +kernel
theorem dX10_stepAt_6 : decode cX10_stepAt 6 = .ok (.iconst 1, 1) := by decide +kernel
theorem dX10_stepAt_7 : decode cX10_stepAt 7 = .ok (.isub, 1) := by decide +kernel
theorem dX10_stepAt_8 : decode cX10_stepAt 8 = .ok (.invokestatic 36, 3) := by decide +kernel
theorem dX10_stepAt_11 : decode cX10_stepAt 11 = .ok (.ifCond .eq 12, 3) := by decide +kernel
theorem dX10_stepAt_14 : decode cX10_stepAt 14 = .ok (.aload_n 0, 1) := by decide +kernel
theorem dX10_stepAt_15 : decode cX10_stepAt 15 = .ok (.getfield 25, 3) := by decide +kernel
theorem dX10_stepAt_18 : decode cX10_stepAt 18 = .ok (.iload_n 1, 1) := by decide +kernel
theorem dX10_stepAt_19 : decode cX10_stepAt 19 = .ok (.iaload, 1) := by decide +kernel
theorem dX10_stepAt_20 : decode cX10_stepAt 20 = .ok (.goto 5, 3) := by decide +kernel
theorem dX10_stepAt_23 : decode cX10_stepAt 23 = .ok (.bipush (-2), 2) := by decide +kernel
theorem dX10_stepAt_25 : decode cX10_stepAt 25 = .ok (.ireturn, 1) := by decide +kernel
theorem dX10_standingOf_0 : decode cX10_standingOf 0 = .ok (.iload_n 0, 1) := by decide +kernel
theorem dX10_standingOf_1 : decode cX10_standingOf 1 = .ok (.ldc 86, 2) := by decide +kernel
theorem dX10_standingOf_3 : decode cX10_standingOf 3 = .ok (.iadd, 1) := by decide +kernel
theorem dX10_standingOf_4 : decode cX10_standingOf 4 = .ok (.i2l, 1) := by decide +kernel
theorem dX10_standingOf_5 : decode cX10_standingOf 5 = .ok (.bipush 23, 2) := by decide +kernel
theorem dX10_standingOf_7 : decode cX10_standingOf 7 = .ok (.lshl, 1) := by decide +kernel
theorem dX10_standingOf_8 : decode cX10_standingOf 8 = .ok (.iload_n 1, 1) := by decide +kernel
theorem dX10_standingOf_9 : decode cX10_standingOf 9 = .ok (.ldc 86, 2) := by decide +kernel
theorem dX10_standingOf_11 : decode cX10_standingOf 11 = .ok (.iadd, 1) := by decide +kernel
theorem dX10_standingOf_12 : decode cX10_standingOf 12 = .ok (.i2l, 1) := by decide +kernel
theorem dX10_standingOf_13 : decode cX10_standingOf 13 = .ok (.bipush 6, 2) := by decide +kernel
theorem dX10_standingOf_15 : decode cX10_standingOf 15 = .ok (.lshl, 1) := by decide +kernel
theorem dX10_standingOf_16 : decode cX10_standingOf 16 = .ok (.lor, 1) := by decide +kernel
theorem dX10_standingOf_17 : decode cX10_standingOf 17 = .ok (.iload_n 2, 1) := by decide +kernel
theorem dX10_standingOf_18 : decode cX10_standingOf 18 = .ok (.i2l, 1) := by decide +kernel
theorem dX10_standingOf_19 : decode cX10_standingOf 19 = .ok (.lor, 1) := by decide +kernel
theorem dX10_standingOf_20 : decode cX10_standingOf 20 = .ok (.lreturn, 1) := by decide +kernel
theorem dX10_bucketOf_0 : decode cX10_bucketOf 0 = .ok (.lload_n 0, 1) := by decide +kernel
theorem dX10_bucketOf_1 : decode cX10_bucketOf 1 = .ok (.lload_n 0, 1) := by decide +kernel
theorem dX10_bucketOf_2 : decode cX10_bucketOf 2 = .ok (.bipush 19, 2) := by decide +kernel
theorem dX10_bucketOf_4 : decode cX10_bucketOf 4 = .ok (.lushr, 1) := by decide +kernel
theorem dX10_bucketOf_5 : decode cX10_bucketOf 5 = .ok (.lxor, 1) := by decide +kernel
theorem dX10_bucketOf_6 : decode cX10_bucketOf 6 = .ok (.l2i, 1) := by decide +kernel
theorem dX10_bucketOf_7 : decode cX10_bucketOf 7 = .ok (.ldc 118, 2) := by decide +kernel
theorem dX10_bucketOf_9 : decode cX10_bucketOf 9 = .ok (.imul, 1) := by decide +kernel
theorem dX10_bucketOf_10 : decode cX10_bucketOf 10 = .ok (.bipush 22, 2) := by decide +kernel
theorem dX10_bucketOf_12 : decode cX10_bucketOf 12 = .ok (.iushr, 1) := by decide +kernel
theorem dX10_bucketOf_13 : decode cX10_bucketOf 13 = .ok (.ireturn, 1) := by decide +kernel
theorem dX10_note_0 : decode cX10_note 0 = .ok (.lload_n 1, 1) := by decide +kernel
theorem dX10_note_1 : decode cX10_note 1 = .ok (.invokestatic 119, 3) := by decide +kernel
theorem dX10_note_4 : decode cX10_note 4 = .ok (.istore 4, 2) := by decide +kernel
theorem dX10_note_6 : decode cX10_note 6 = .ok (.aload_n 0, 1) := by decide +kernel
theorem dX10_note_7 : decode cX10_note 7 = .ok (.getfield 11, 3) := by decide +kernel
theorem dX10_note_10 : decode cX10_note 10 = .ok (.aload_n 0, 1) := by decide +kernel
theorem dX10_note_11 : decode cX10_note 11 = .ok (.getfield 51, 3) := by decide +kernel
theorem dX10_note_14 : decode cX10_note 14 = .ok (.lload_n 1, 1) := by decide +kernel
theorem dX10_note_15 : decode cX10_note 15 = .ok (.lastore, 1) := by decide +kernel
theorem dX10_note_16 : decode cX10_note 16 = .ok (.aload_n 0, 1) := by decide +kernel
theorem dX10_note_17 : decode cX10_note 17 = .ok (.getfield 15, 3) := by decide +kernel
theorem dX10_note_20 : decode cX10_note 20 = .ok (.aload_n 0, 1) := by decide +kernel
theorem dX10_note_21 : decode cX10_note 21 = .ok (.getfield 51, 3) := by decide +kernel
theorem dX10_note_24 : decode cX10_note 24 = .ok (.iload_n 3, 1) := by decide +kernel
theorem dX10_note_25 : decode cX10_note 25 = .ok (.iastore, 1) := by decide +kernel
theorem dX10_note_26 : decode cX10_note 26 = .ok (.aload_n 0, 1) := by decide +kernel
theorem dX10_note_27 : decode cX10_note 27 = .ok (.getfield 19, 3) := by decide +kernel
theorem dX10_note_30 : decode cX10_note 30 = .ok (.aload_n 0, 1) := by decide +kernel
theorem dX10_note_31 : decode cX10_note 31 = .ok (.getfield 51, 3) := by decide +kernel
theorem dX10_note_34 : decode cX10_note 34 = .ok (.aload_n 0, 1) := by decide +kernel
theorem dX10_note_35 : decode cX10_note 35 = .ok (.getfield 22, 3) := by decide +kernel
theorem dX10_note_38 : decode cX10_note 38 = .ok (.iload 4, 2) := by decide +kernel
theorem dX10_note_40 : decode cX10_note 40 = .ok (.iaload, 1) := by decide +kernel
theorem dX10_note_41 : decode cX10_note 41 = .ok (.iastore, 1) := by decide +kernel
theorem dX10_note_42 : decode cX10_note 42 = .ok (.aload_n 0, 1) := by decide +kernel
theorem dX10_note_43 : decode cX10_note 43 = .ok (.getfield 22, 3) := by decide +kernel
theorem dX10_note_46 : decode cX10_note 46 = .ok (.iload 4, 2) := by decide +kernel
theorem dX10_note_48 : decode cX10_note 48 = .ok (.aload_n 0, 1) := by decide +kernel
theorem dX10_note_49 : decode cX10_note 49 = .ok (.getfield 51, 3) := by decide +kernel
theorem dX10_note_52 : decode cX10_note 52 = .ok (.iastore, 1) := by decide +kernel
theorem dX10_note_53 : decode cX10_note 53 = .ok (.aload_n 0, 1) := by decide +kernel
theorem dX10_note_54 : decode cX10_note 54 = .ok (.dup, 1) := by decide +kernel
theorem dX10_note_55 : decode cX10_note 55 = .ok (.getfield 51, 3) := by decide +kernel
theorem dX10_note_58 : decode cX10_note 58 = .ok (.iconst 1, 1) := by decide +kernel
theorem dX10_note_59 : decode cX10_note 59 = .ok (.iadd, 1) := by decide +kernel
theorem dX10_note_60 : decode cX10_note 60 = .ok (.putfield 51, 3) := by decide +kernel
theorem dX10_note_63 : decode cX10_note 63 = .ok (.return_, 1) := by decide +kernel
theorem dX10_isGoal_0 : decode cX10_isGoal 0 = .ok (.iload_n 3, 1) := by decide +kernel
theorem dX10_isGoal_1 : decode cX10_isGoal 1 = .ok (.aload_n 0, 1) := by decide +kernel
theorem dX10_isGoal_2 : decode cX10_isGoal 2 = .ok (.getfield 48, 3) := by decide +kernel
theorem dX10_isGoal_5 : decode cX10_isGoal 5 = .ok (.if_icmp .eq 5, 3) := by decide +kernel
theorem dX10_isGoal_8 : decode cX10_isGoal 8 = .ok (.iconst 0, 1) := by decide +kernel
theorem dX10_isGoal_9 : decode cX10_isGoal 9 = .ok (.ireturn, 1) := by decide +kernel
theorem dX10_isGoal_10 : decode cX10_isGoal 10 = .ok (.iconst 0, 1) := by decide +kernel
theorem dX10_isGoal_11 : decode cX10_isGoal 11 = .ok (.istore 4, 2) := by decide +kernel
theorem dX10_isGoal_13 : decode cX10_isGoal 13 = .ok (.iload 4, 2) := by decide +kernel
theorem dX10_isGoal_15 : decode cX10_isGoal 15 = .ok (.iconst 4, 1) := by decide +kernel
theorem dX10_isGoal_16 : decode cX10_isGoal 16 = .ok (.if_icmp .ge 45, 3) := by decide +kernel
theorem dX10_isGoal_19 : decode cX10_isGoal 19 = .ok (.aload_n 0, 1) := by decide +kernel
theorem dX10_isGoal_20 : decode cX10_isGoal 20 = .ok (.getfield 44, 3) := by decide +kernel
theorem dX10_isGoal_23 : decode cX10_isGoal 23 = .ok (.iload_n 1, 1) := by decide +kernel
theorem dX10_isGoal_24 : decode cX10_isGoal 24 = .ok (.aload_n 0, 1) := by decide +kernel
theorem dX10_isGoal_25 : decode cX10_isGoal 25 = .ok (.getfield 40, 3) := by decide +kernel
theorem dX10_isGoal_28 : decode cX10_isGoal 28 = .ok (.iload 4, 2) := by decide +kernel
theorem dX10_isGoal_30 : decode cX10_isGoal 30 = .ok (.iload_n 3, 1) := by decide +kernel
theorem dX10_isGoal_31 : decode cX10_isGoal 31 = .ok (.invokevirtual 123, 3) := by decide +kernel
theorem dX10_isGoal_34 : decode cX10_isGoal 34 = .ok (.iadd, 1) := by decide +kernel
theorem dX10_isGoal_35 : decode cX10_isGoal 35 = .ok (.iload_n 2, 1) := by decide +kernel
theorem dX10_isGoal_36 : decode cX10_isGoal 36 = .ok (.aload_n 0, 1) := by decide +kernel
theorem dX10_isGoal_37 : decode cX10_isGoal 37 = .ok (.getfield 40, 3) := by decide +kernel
theorem dX10_isGoal_40 : decode cX10_isGoal 40 = .ok (.iload 4, 2) := by decide +kernel
theorem dX10_isGoal_42 : decode cX10_isGoal 42 = .ok (.iload_n 3, 1) := by decide +kernel
theorem dX10_isGoal_43 : decode cX10_isGoal 43 = .ok (.invokevirtual 126, 3) := by decide +kernel
theorem dX10_isGoal_46 : decode cX10_isGoal 46 = .ok (.iadd, 1) := by decide +kernel
theorem dX10_isGoal_47 : decode cX10_isGoal 47 = .ok (.invokevirtual 129, 3) := by decide +kernel
theorem dX10_isGoal_50 : decode cX10_isGoal 50 = .ok (.ifCond .ne 5, 3) := by decide +kernel
theorem dX10_isGoal_53 : decode cX10_isGoal 53 = .ok (.iconst 0, 1) := by decide +kernel
theorem dX10_isGoal_54 : decode cX10_isGoal 54 = .ok (.ireturn, 1) := by decide +kernel
theorem dX10_isGoal_55 : decode cX10_isGoal 55 = .ok (.iinc 4 1, 3) := by decide +kernel
theorem dX10_isGoal_58 : decode cX10_isGoal 58 = .ok (.goto (-45), 3) := by decide +kernel
theorem dX10_isGoal_61 : decode cX10_isGoal 61 = .ok (.iconst 1, 1) := by decide +kernel
theorem dX10_isGoal_62 : decode cX10_isGoal 62 = .ok (.ireturn, 1) := by decide +kernel
theorem dX10_isNoted_0 : decode cX10_isNoted 0 = .ok (.aload_n 0, 1) := by decide +kernel
theorem dX10_isNoted_1 : decode cX10_isNoted 1 = .ok (.getfield 22, 3) := by decide +kernel
theorem dX10_isNoted_4 : decode cX10_isNoted 4 = .ok (.lload_n 1, 1) := by decide +kernel
theorem dX10_isNoted_5 : decode cX10_isNoted 5 = .ok (.invokestatic 119, 3) := by decide +kernel
theorem dX10_isNoted_8 : decode cX10_isNoted 8 = .ok (.iaload, 1) := by decide +kernel
theorem dX10_isNoted_9 : decode cX10_isNoted 9 = .ok (.istore_n 3, 1) := by decide +kernel
theorem dX10_isNoted_10 : decode cX10_isNoted 10 = .ok (.iconst 0, 1) := by decide +kernel
theorem dX10_isNoted_11 : decode cX10_isNoted 11 = .ok (.istore 4, 2) := by decide +kernel
theorem dX10_isNoted_13 : decode cX10_isNoted 13 = .ok (.iload 4, 2) := by decide +kernel
theorem dX10_isNoted_15 : decode cX10_isNoted 15 = .ok (.sipush 1500, 3) := by decide +kernel
theorem dX10_isNoted_18 : decode cX10_isNoted 18 = .ok (.if_icmp .ge 33, 3) := by decide +kernel
theorem dX10_isNoted_21 : decode cX10_isNoted 21 = .ok (.iload_n 3, 1) := by decide +kernel
theorem dX10_isNoted_22 : decode cX10_isNoted 22 = .ok (.ifCond .lt 29, 3) := by decide +kernel
theorem dX10_isNoted_25 : decode cX10_isNoted 25 = .ok (.aload_n 0, 1) := by decide +kernel
theorem dX10_isNoted_26 : decode cX10_isNoted 26 = .ok (.getfield 11, 3) := by decide +kernel
theorem dX10_isNoted_29 : decode cX10_isNoted 29 = .ok (.iload_n 3, 1) := by decide +kernel
theorem dX10_isNoted_30 : decode cX10_isNoted 30 = .ok (.laload, 1) := by decide +kernel
theorem dX10_isNoted_31 : decode cX10_isNoted 31 = .ok (.lload_n 1, 1) := by decide +kernel
theorem dX10_isNoted_32 : decode cX10_isNoted 32 = .ok (.lcmp, 1) := by decide +kernel
theorem dX10_isNoted_33 : decode cX10_isNoted 33 = .ok (.ifCond .ne 5, 3) := by decide +kernel
theorem dX10_isNoted_36 : decode cX10_isNoted 36 = .ok (.iconst 1, 1) := by decide +kernel
theorem dX10_isNoted_37 : decode cX10_isNoted 37 = .ok (.ireturn, 1) := by decide +kernel
theorem dX10_isNoted_38 : decode cX10_isNoted 38 = .ok (.aload_n 0, 1) := by decide +kernel
theorem dX10_isNoted_39 : decode cX10_isNoted 39 = .ok (.getfield 19, 3) := by decide +kernel
theorem dX10_isNoted_42 : decode cX10_isNoted 42 = .ok (.iload_n 3, 1) := by decide +kernel
theorem dX10_isNoted_43 : decode cX10_isNoted 43 = .ok (.iaload, 1) := by decide +kernel
theorem dX10_isNoted_44 : decode cX10_isNoted 44 = .ok (.istore_n 3, 1) := by decide +kernel
theorem dX10_isNoted_45 : decode cX10_isNoted 45 = .ok (.iinc 4 1, 3) := by decide +kernel
theorem dX10_isNoted_48 : decode cX10_isNoted 48 = .ok (.goto (-35), 3) := by decide +kernel
theorem dX10_isNoted_51 : decode cX10_isNoted 51 = .ok (.iconst 0, 1) := by decide +kernel
theorem dX10_isNoted_52 : decode cX10_isNoted 52 = .ok (.ireturn, 1) := by decide +kernel
theorem dX10_keepSteps_0 : decode cX10_keepSteps 0 = .ok (.aload_n 0, 1) := by decide +kernel
theorem dX10_keepSteps_1 : decode cX10_keepSteps 1 = .ok (.getfield 51, 3) := by decide +kernel
theorem dX10_keepSteps_4 : decode cX10_keepSteps 4 = .ok (.iconst 1, 1) := by decide +kernel
theorem dX10_keepSteps_5 : decode cX10_keepSteps 5 = .ok (.isub, 1) := by decide +kernel
theorem dX10_keepSteps_6 : decode cX10_keepSteps 6 = .ok (.istore_n 2, 1) := by decide +kernel
theorem dX10_keepSteps_7 : decode cX10_keepSteps 7 = .ok (.iload_n 1, 1) := by decide +kernel
theorem dX10_keepSteps_8 : decode cX10_keepSteps 8 = .ok (.iconst 1, 1) := by decide +kernel
theorem dX10_keepSteps_9 : decode cX10_keepSteps 9 = .ok (.isub, 1) := by decide +kernel
theorem dX10_keepSteps_10 : decode cX10_keepSteps 10 = .ok (.istore_n 3, 1) := by decide +kernel
theorem dX10_keepSteps_11 : decode cX10_keepSteps 11 = .ok (.iload_n 3, 1) := by decide +kernel
theorem dX10_keepSteps_12 : decode cX10_keepSteps 12 = .ok (.ifCond .lt 33, 3) := by decide +kernel
theorem dX10_keepSteps_15 : decode cX10_keepSteps 15 = .ok (.aload_n 0, 1) := by decide +kernel
theorem dX10_keepSteps_16 : decode cX10_keepSteps 16 = .ok (.getfield 25, 3) := by decide +kernel
theorem dX10_keepSteps_19 : decode cX10_keepSteps 19 = .ok (.iload_n 3, 1) := by decide +kernel
theorem dX10_keepSteps_20 : decode cX10_keepSteps 20 = .ok (.aload_n 0, 1) := by decide +kernel
theorem dX10_keepSteps_21 : decode cX10_keepSteps 21 = .ok (.getfield 15, 3) := by decide +kernel
theorem dX10_keepSteps_24 : decode cX10_keepSteps 24 = .ok (.iload_n 2, 1) := by decide +kernel
theorem dX10_keepSteps_25 : decode cX10_keepSteps 25 = .ok (.iaload, 1) := by decide +kernel
theorem dX10_keepSteps_26 : decode cX10_keepSteps 26 = .ok (.bipush 15, 2) := by decide +kernel
theorem dX10_keepSteps_28 : decode cX10_keepSteps 28 = .ok (.iand, 1) := by decide +kernel
theorem dX10_keepSteps_29 : decode cX10_keepSteps 29 = .ok (.iastore, 1) := by decide +kernel
theorem dX10_keepSteps_30 : decode cX10_keepSteps 30 = .ok (.aload_n 0, 1) := by decide +kernel
theorem dX10_keepSteps_31 : decode cX10_keepSteps 31 = .ok (.getfield 15, 3) := by decide +kernel
theorem dX10_keepSteps_34 : decode cX10_keepSteps 34 = .ok (.iload_n 2, 1) := by decide +kernel
theorem dX10_keepSteps_35 : decode cX10_keepSteps 35 = .ok (.iaload, 1) := by decide +kernel
theorem dX10_keepSteps_36 : decode cX10_keepSteps 36 = .ok (.iconst 4, 1) := by decide +kernel
theorem dX10_keepSteps_37 : decode cX10_keepSteps 37 = .ok (.ishr, 1) := by decide +kernel
theorem dX10_keepSteps_38 : decode cX10_keepSteps 38 = .ok (.istore_n 2, 1) := by decide +kernel
theorem dX10_keepSteps_39 : decode cX10_keepSteps 39 = .ok (.iinc 3 (-1), 3) := by decide +kernel
theorem dX10_keepSteps_42 : decode cX10_keepSteps 42 = .ok (.goto (-31), 3) := by decide +kernel
theorem dX10_keepSteps_45 : decode cX10_keepSteps 45 = .ok (.aload_n 0, 1) := by decide +kernel
theorem dX10_keepSteps_46 : decode cX10_keepSteps 46 = .ok (.iload_n 1, 1) := by decide +kernel
theorem dX10_keepSteps_47 : decode cX10_keepSteps 47 = .ok (.putfield 32, 3) := by decide +kernel
theorem dX10_keepSteps_50 : decode cX10_keepSteps 50 = .ok (.return_, 1) := by decide +kernel
theorem dX10_goOn_0 : decode cX10_goOn 0 = .ok (.aload_n 0, 1) := by decide +kernel
theorem dX10_goOn_1 : decode cX10_goOn 1 = .ok (.getfield 11, 3) := by decide +kernel
theorem dX10_goOn_4 : decode cX10_goOn 4 = .ok (.iload_n 1, 1) := by decide +kernel
theorem dX10_goOn_5 : decode cX10_goOn 5 = .ok (.laload, 1) := by decide +kernel
theorem dX10_goOn_6 : decode cX10_goOn 6 = .ok (.lstore_n 3, 1) := by decide +kernel
theorem dX10_goOn_7 : decode cX10_goOn 7 = .ok (.lload_n 3, 1) := by decide +kernel
theorem dX10_goOn_8 : decode cX10_goOn 8 = .ok (.bipush 23, 2) := by decide +kernel
theorem dX10_goOn_10 : decode cX10_goOn 10 = .ok (.lshr, 1) := by decide +kernel
theorem dX10_goOn_11 : decode cX10_goOn 11 = .ok (.l2i, 1) := by decide +kernel
theorem dX10_goOn_12 : decode cX10_goOn 12 = .ok (.ldc 86, 2) := by decide +kernel
theorem dX10_goOn_14 : decode cX10_goOn 14 = .ok (.isub, 1) := by decide +kernel
theorem dX10_goOn_15 : decode cX10_goOn 15 = .ok (.istore 5, 2) := by decide +kernel
theorem dX10_goOn_17 : decode cX10_goOn 17 = .ok (.lload_n 3, 1) := by decide +kernel
theorem dX10_goOn_18 : decode cX10_goOn 18 = .ok (.bipush 6, 2) := by decide +kernel
theorem dX10_goOn_20 : decode cX10_goOn 20 = .ok (.lshr, 1) := by decide +kernel
theorem dX10_goOn_21 : decode cX10_goOn 21 = .ok (.ldc2_w 87, 3) := by decide +kernel
theorem dX10_goOn_24 : decode cX10_goOn 24 = .ok (.land, 1) := by decide +kernel
theorem dX10_goOn_25 : decode cX10_goOn 25 = .ok (.l2i, 1) := by decide +kernel
theorem dX10_goOn_26 : decode cX10_goOn 26 = .ok (.ldc 86, 2) := by decide +kernel
theorem dX10_goOn_28 : decode cX10_goOn 28 = .ok (.isub, 1) := by decide +kernel
theorem dX10_goOn_29 : decode cX10_goOn 29 = .ok (.istore 6, 2) := by decide +kernel
theorem dX10_goOn_31 : decode cX10_goOn 31 = .ok (.lload_n 3, 1) := by decide +kernel
theorem dX10_goOn_32 : decode cX10_goOn 32 = .ok (.ldc2_w 89, 3) := by decide +kernel
theorem dX10_goOn_35 : decode cX10_goOn 35 = .ok (.land, 1) := by decide +kernel
theorem dX10_goOn_36 : decode cX10_goOn 36 = .ok (.l2i, 1) := by decide +kernel
theorem dX10_goOn_37 : decode cX10_goOn 37 = .ok (.istore 7, 2) := by decide +kernel
theorem dX10_goOn_39 : decode cX10_goOn 39 = .ok (.iconst 0, 1) := by decide +kernel
theorem dX10_goOn_40 : decode cX10_goOn 40 = .ok (.istore 8, 2) := by decide +kernel
theorem dX10_goOn_42 : decode cX10_goOn 42 = .ok (.iload 8, 2) := by decide +kernel
theorem dX10_goOn_44 : decode cX10_goOn 44 = .ok (.bipush 10, 2) := by decide +kernel
theorem dX10_goOn_46 : decode cX10_goOn 46 = .ok (.if_icmp .ge 144, 3) := by decide +kernel
theorem dX10_goOn_49 : decode cX10_goOn 49 = .ok (.aload_n 0, 1) := by decide +kernel
theorem dX10_goOn_50 : decode cX10_goOn 50 = .ok (.getfield 28, 3) := by decide +kernel
theorem dX10_goOn_53 : decode cX10_goOn 53 = .ok (.aload_n 0, 1) := by decide +kernel
theorem dX10_goOn_54 : decode cX10_goOn 54 = .ok (.getfield 40, 3) := by decide +kernel
theorem dX10_goOn_57 : decode cX10_goOn 57 = .ok (.iload 5, 2) := by decide +kernel
theorem dX10_goOn_59 : decode cX10_goOn 59 = .ok (.iload 6, 2) := by decide +kernel
theorem dX10_goOn_61 : decode cX10_goOn 61 = .ok (.iload 7, 2) := by decide +kernel
theorem dX10_goOn_63 : decode cX10_goOn 63 = .ok (.iload 8, 2) := by decide +kernel
theorem dX10_goOn_65 : decode cX10_goOn 65 = .ok (.invokevirtual 91, 3) := by decide +kernel
theorem dX10_goOn_68 : decode cX10_goOn 68 = .ok (.aload_n 0, 1) := by decide +kernel
theorem dX10_goOn_69 : decode cX10_goOn 69 = .ok (.getfield 28, 3) := by decide +kernel
theorem dX10_goOn_72 : decode cX10_goOn 72 = .ok (.getfield 97, 3) := by decide +kernel
theorem dX10_goOn_75 : decode cX10_goOn 75 = .ok (.istore 9, 2) := by decide +kernel
theorem dX10_goOn_77 : decode cX10_goOn 77 = .ok (.aload_n 0, 1) := by decide +kernel
theorem dX10_goOn_78 : decode cX10_goOn 78 = .ok (.getfield 28, 3) := by decide +kernel
theorem dX10_goOn_81 : decode cX10_goOn 81 = .ok (.getfield 100, 3) := by decide +kernel
theorem dX10_goOn_84 : decode cX10_goOn 84 = .ok (.istore 10, 2) := by decide +kernel
theorem dX10_goOn_86 : decode cX10_goOn 86 = .ok (.aload_n 0, 1) := by decide +kernel
theorem dX10_goOn_87 : decode cX10_goOn 87 = .ok (.getfield 28, 3) := by decide +kernel
theorem dX10_goOn_90 : decode cX10_goOn 90 = .ok (.getfield 103, 3) := by decide +kernel
theorem dX10_goOn_93 : decode cX10_goOn 93 = .ok (.istore 11, 2) := by decide +kernel
theorem dX10_goOn_95 : decode cX10_goOn 95 = .ok (.iload 9, 2) := by decide +kernel
theorem dX10_goOn_97 : decode cX10_goOn 97 = .ok (.iload 10, 2) := by decide +kernel
theorem dX10_goOn_99 : decode cX10_goOn 99 = .ok (.iload 11, 2) := by decide +kernel
theorem dX10_goOn_101 : decode cX10_goOn 101 = .ok (.invokestatic 71, 3) := by decide +kernel
theorem dX10_goOn_104 : decode cX10_goOn 104 = .ok (.lstore 12, 2) := by decide +kernel
theorem dX10_goOn_106 : decode cX10_goOn 106 = .ok (.aload_n 0, 1) := by decide +kernel
theorem dX10_goOn_107 : decode cX10_goOn 107 = .ok (.lload 12, 2) := by decide +kernel
theorem dX10_goOn_109 : decode cX10_goOn 109 = .ok (.invokevirtual 106, 3) := by decide +kernel
theorem dX10_goOn_112 : decode cX10_goOn 112 = .ok (.ifCond .ne 72, 3) := by decide +kernel
theorem dX10_goOn_115 : decode cX10_goOn 115 = .ok (.aload_n 0, 1) := by decide +kernel
theorem dX10_goOn_116 : decode cX10_goOn 116 = .ok (.getfield 28, 3) := by decide +kernel
theorem dX10_goOn_119 : decode cX10_goOn 119 = .ok (.aload_n 0, 1) := by decide +kernel
theorem dX10_goOn_120 : decode cX10_goOn 120 = .ok (.getfield 40, 3) := by decide +kernel
theorem dX10_goOn_123 : decode cX10_goOn 123 = .ok (.iload 9, 2) := by decide +kernel
theorem dX10_goOn_125 : decode cX10_goOn 125 = .ok (.iload 10, 2) := by decide +kernel
theorem dX10_goOn_127 : decode cX10_goOn 127 = .ok (.iload 11, 2) := by decide +kernel
theorem dX10_goOn_129 : decode cX10_goOn 129 = .ok (.invokevirtual 110, 3) := by decide +kernel
theorem dX10_goOn_132 : decode cX10_goOn 132 = .ok (.ifCond .eq 6, 3) := by decide +kernel
theorem dX10_goOn_135 : decode cX10_goOn 135 = .ok (.goto 49, 3) := by decide +kernel
theorem dX10_goOn_138 : decode cX10_goOn 138 = .ok (.aload_n 0, 1) := by decide +kernel
theorem dX10_goOn_139 : decode cX10_goOn 139 = .ok (.getfield 51, 3) := by decide +kernel
theorem dX10_goOn_142 : decode cX10_goOn 142 = .ok (.sipush 1500, 3) := by decide +kernel
theorem dX10_goOn_145 : decode cX10_goOn 145 = .ok (.if_icmp .lt 6, 3) := by decide +kernel
theorem dX10_goOn_148 : decode cX10_goOn 148 = .ok (.bipush (-5), 2) := by decide +kernel
theorem dX10_goOn_150 : decode cX10_goOn 150 = .ok (.ireturn, 1) := by decide +kernel
theorem dX10_goOn_151 : decode cX10_goOn 151 = .ok (.aload_n 0, 1) := by decide +kernel
theorem dX10_goOn_152 : decode cX10_goOn 152 = .ok (.lload 12, 2) := by decide +kernel
theorem dX10_goOn_154 : decode cX10_goOn 154 = .ok (.iload_n 1, 1) := by decide +kernel
theorem dX10_goOn_155 : decode cX10_goOn 155 = .ok (.bipush 16, 2) := by decide +kernel
theorem dX10_goOn_157 : decode cX10_goOn 157 = .ok (.imul, 1) := by decide +kernel
theorem dX10_goOn_158 : decode cX10_goOn 158 = .ok (.iload 8, 2) := by decide +kernel
theorem dX10_goOn_160 : decode cX10_goOn 160 = .ok (.iadd, 1) := by decide +kernel
theorem dX10_goOn_161 : decode cX10_goOn 161 = .ok (.invokevirtual 75, 3) := by decide +kernel
theorem dX10_goOn_164 : decode cX10_goOn 164 = .ok (.aload_n 0, 1) := by decide +kernel
theorem dX10_goOn_165 : decode cX10_goOn 165 = .ok (.iload 9, 2) := by decide +kernel
theorem dX10_goOn_167 : decode cX10_goOn 167 = .ok (.iload 10, 2) := by decide +kernel
theorem dX10_goOn_169 : decode cX10_goOn 169 = .ok (.iload 11, 2) := by decide +kernel
theorem dX10_goOn_171 : decode cX10_goOn 171 = .ok (.invokevirtual 79, 3) := by decide +kernel
theorem dX10_goOn_174 : decode cX10_goOn 174 = .ok (.ifCond .eq 10, 3) := by decide +kernel
theorem dX10_goOn_177 : decode cX10_goOn 177 = .ok (.aload_n 0, 1) := by decide +kernel
theorem dX10_goOn_178 : decode cX10_goOn 178 = .ok (.iload_n 2, 1) := by decide +kernel
theorem dX10_goOn_179 : decode cX10_goOn 179 = .ok (.invokevirtual 114, 3) := by decide +kernel
theorem dX10_goOn_182 : decode cX10_goOn 182 = .ok (.iload_n 2, 1) := by decide +kernel
theorem dX10_goOn_183 : decode cX10_goOn 183 = .ok (.ireturn, 1) := by decide +kernel
theorem dX10_goOn_184 : decode cX10_goOn 184 = .ok (.iinc 8 1, 3) := by decide +kernel
theorem dX10_goOn_187 : decode cX10_goOn 187 = .ok (.goto (-145), 3) := by decide +kernel
theorem dX10_goOn_190 : decode cX10_goOn 190 = .ok (.iconst (-1), 1) := by decide +kernel
theorem dX10_goOn_191 : decode cX10_goOn 191 = .ok (.ireturn, 1) := by decide +kernel
theorem dX10_find_0 : decode cX10_find 0 = .ok (.aload_n 0, 1) := by decide +kernel
theorem dX10_find_1 : decode cX10_find 1 = .ok (.aload_n 1, 1) := by decide +kernel
theorem dX10_find_2 : decode cX10_find 2 = .ok (.putfield 40, 3) := by decide +kernel
theorem dX10_find_5 : decode cX10_find 5 = .ok (.aload_n 0, 1) := by decide +kernel
theorem dX10_find_6 : decode cX10_find 6 = .ok (.aload_n 2, 1) := by decide +kernel
theorem dX10_find_7 : decode cX10_find 7 = .ok (.putfield 44, 3) := by decide +kernel
theorem dX10_find_10 : decode cX10_find 10 = .ok (.aload_n 0, 1) := by decide +kernel
theorem dX10_find_11 : decode cX10_find 11 = .ok (.iload_n 3, 1) := by decide +kernel
theorem dX10_find_12 : decode cX10_find 12 = .ok (.putfield 48, 3) := by decide +kernel
theorem dX10_find_15 : decode cX10_find 15 = .ok (.aload_n 0, 1) := by decide +kernel
theorem dX10_find_16 : decode cX10_find 16 = .ok (.iconst 0, 1) := by decide +kernel
theorem dX10_find_17 : decode cX10_find 17 = .ok (.putfield 51, 3) := by decide +kernel
theorem dX10_find_20 : decode cX10_find 20 = .ok (.aload_n 0, 1) := by decide +kernel
theorem dX10_find_21 : decode cX10_find 21 = .ok (.getfield 22, 3) := by decide +kernel
theorem dX10_find_24 : decode cX10_find 24 = .ok (.iconst (-1), 1) := by decide +kernel
theorem dX10_find_25 : decode cX10_find 25 = .ok (.invokestatic 54, 3) := by decide +kernel
theorem dX10_find_28 : decode cX10_find 28 = .ok (.aload_n 0, 1) := by decide +kernel
theorem dX10_find_29 : decode cX10_find 29 = .ok (.aload_n 0, 1) := by decide +kernel
theorem dX10_find_30 : decode cX10_find 30 = .ok (.getfield 40, 3) := by decide +kernel
theorem dX10_find_33 : decode cX10_find 33 = .ok (.getfield 60, 3) := by decide +kernel
theorem dX10_find_36 : decode cX10_find 36 = .ok (.aload_n 0, 1) := by decide +kernel
theorem dX10_find_37 : decode cX10_find 37 = .ok (.getfield 40, 3) := by decide +kernel
theorem dX10_find_40 : decode cX10_find 40 = .ok (.getfield 65, 3) := by decide +kernel
theorem dX10_find_43 : decode cX10_find 43 = .ok (.aload_n 0, 1) := by decide +kernel
theorem dX10_find_44 : decode cX10_find 44 = .ok (.getfield 40, 3) := by decide +kernel
theorem dX10_find_47 : decode cX10_find 47 = .ok (.getfield 68, 3) := by decide +kernel
theorem dX10_find_50 : decode cX10_find 50 = .ok (.invokestatic 71, 3) := by decide +kernel
theorem dX10_find_53 : decode cX10_find 53 = .ok (.iconst 0, 1) := by decide +kernel
theorem dX10_find_54 : decode cX10_find 54 = .ok (.invokevirtual 75, 3) := by decide +kernel
theorem dX10_find_57 : decode cX10_find 57 = .ok (.aload_n 0, 1) := by decide +kernel
theorem dX10_find_58 : decode cX10_find 58 = .ok (.aload_n 0, 1) := by decide +kernel
theorem dX10_find_59 : decode cX10_find 59 = .ok (.getfield 40, 3) := by decide +kernel
theorem dX10_find_62 : decode cX10_find 62 = .ok (.getfield 60, 3) := by decide +kernel
theorem dX10_find_65 : decode cX10_find 65 = .ok (.aload_n 0, 1) := by decide +kernel
theorem dX10_find_66 : decode cX10_find 66 = .ok (.getfield 40, 3) := by decide +kernel
theorem dX10_find_69 : decode cX10_find 69 = .ok (.getfield 65, 3) := by decide +kernel
theorem dX10_find_72 : decode cX10_find 72 = .ok (.aload_n 0, 1) := by decide +kernel
theorem dX10_find_73 : decode cX10_find 73 = .ok (.getfield 40, 3) := by decide +kernel
theorem dX10_find_76 : decode cX10_find 76 = .ok (.getfield 68, 3) := by decide +kernel
theorem dX10_find_79 : decode cX10_find 79 = .ok (.invokevirtual 79, 3) := by decide +kernel
theorem dX10_find_82 : decode cX10_find 82 = .ok (.ifCond .eq 10, 3) := by decide +kernel
theorem dX10_find_85 : decode cX10_find 85 = .ok (.aload_n 0, 1) := by decide +kernel
theorem dX10_find_86 : decode cX10_find 86 = .ok (.iconst 0, 1) := by decide +kernel
theorem dX10_find_87 : decode cX10_find 87 = .ok (.putfield 32, 3) := by decide +kernel
theorem dX10_find_90 : decode cX10_find 90 = .ok (.iconst 0, 1) := by decide +kernel
theorem dX10_find_91 : decode cX10_find 91 = .ok (.ireturn, 1) := by decide +kernel
theorem dX10_find_92 : decode cX10_find 92 = .ok (.iconst 0, 1) := by decide +kernel
theorem dX10_find_93 : decode cX10_find 93 = .ok (.istore 4, 2) := by decide +kernel
theorem dX10_find_95 : decode cX10_find 95 = .ok (.iconst 1, 1) := by decide +kernel
theorem dX10_find_96 : decode cX10_find 96 = .ok (.istore 5, 2) := by decide +kernel
theorem dX10_find_98 : decode cX10_find 98 = .ok (.iload 5, 2) := by decide +kernel
theorem dX10_find_100 : decode cX10_find 100 = .ok (.bipush 12, 2) := by decide +kernel
theorem dX10_find_102 : decode cX10_find 102 = .ok (.if_icmp .gt 47, 3) := by decide +kernel
theorem dX10_find_105 : decode cX10_find 105 = .ok (.aload_n 0, 1) := by decide +kernel
theorem dX10_find_106 : decode cX10_find 106 = .ok (.getfield 51, 3) := by decide +kernel
theorem dX10_find_109 : decode cX10_find 109 = .ok (.istore 6, 2) := by decide +kernel
theorem dX10_find_111 : decode cX10_find 111 = .ok (.iload 4, 2) := by decide +kernel
theorem dX10_find_113 : decode cX10_find 113 = .ok (.iload 6, 2) := by decide +kernel
theorem dX10_find_115 : decode cX10_find 115 = .ok (.if_icmp .ge 28, 3) := by decide +kernel
theorem dX10_find_118 : decode cX10_find 118 = .ok (.aload_n 0, 1) := by decide +kernel
theorem dX10_find_119 : decode cX10_find 119 = .ok (.iload 4, 2) := by decide +kernel
theorem dX10_find_121 : decode cX10_find 121 = .ok (.iload 5, 2) := by decide +kernel
theorem dX10_find_123 : decode cX10_find 123 = .ok (.invokevirtual 82, 3) := by decide +kernel
theorem dX10_find_126 : decode cX10_find 126 = .ok (.istore 7, 2) := by decide +kernel
theorem dX10_find_128 : decode cX10_find 128 = .ok (.iload 7, 2) := by decide +kernel
theorem dX10_find_130 : decode cX10_find 130 = .ok (.iconst (-1), 1) := by decide +kernel
theorem dX10_find_131 : decode cX10_find 131 = .ok (.if_icmp .eq 6, 3) := by decide +kernel
theorem dX10_find_134 : decode cX10_find 134 = .ok (.iload 7, 2) := by decide +kernel
theorem dX10_find_136 : decode cX10_find 136 = .ok (.ireturn, 1) := by decide +kernel
theorem dX10_find_137 : decode cX10_find 137 = .ok (.iinc 4 1, 3) := by decide +kernel
theorem dX10_find_140 : decode cX10_find 140 = .ok (.goto (-29), 3) := by decide +kernel
theorem dX10_find_143 : decode cX10_find 143 = .ok (.iinc 5 1, 3) := by decide +kernel
theorem dX10_find_146 : decode cX10_find 146 = .ok (.goto (-48), 3) := by decide +kernel
theorem dX10_find_149 : decode cX10_find 149 = .ok (.bipush (-3), 2) := by decide +kernel
theorem dX10_find_151 : decode cX10_find 151 = .ok (.ireturn, 1) := by decide +kernel
def f_X10_stepAt (w : Wd) (a1 : Int32) : Option Int32 :=
q_gt w 4 7 (fun v_3 =>
if (f_X11_within a1 (0 : Int32) (v_3 - (1 : Int32))) = 0 then
some (-2 : Int32)
else
q_ld w 28 12 a1 (fun v_19 =>
some v_19))
set_option maxRecDepth 100000 in
set_option maxHeartbeats 4000000 in
theorem c_X10_stepAt (l : Launch) (D : va_G) (cT : Nat → ClassId) (lo : Nat) (w : Wd) (ad : Nat → Nat) (a1 : Int32) (r : Int32) (h : f_X10_stepAt w a1 = some r) : Met l yX10_stepAt (.code yX10_stepAt cX10_stepAt 2 (some .int) :: TW) { frames := 1, cells := 0, slots := 0, locals := 22 } (mPc D cT lo NB w ad [.ref (ad 4), .int a1]) (mQ D cT lo NB w w ad (some (.int r))) 0 0 (fun q => lo ≤ q) := by
  unfold f_X10_stepAt at h
  refine x_met (lv := [(0, .ref (ad 4)), (1, .int a1)]) (by decide +kernel) (Nat.le_of_ble_eq_true rfl) rfl ?_
  intro p e s m args below meth c ls F hr hlk hP hin hl
  have hx := F.1
  have hb := F.2.1
  have hS : va_S (fun q => lo ≤ q) s.heap s.heap [] := va_S.rf
  refine lv_iload_n hx hb dX10_stepAt_0 rfl (lv_at hl 1 rfl) ?_
  refine lv_iconst (v := 0) hx hb dX10_stepAt_1 ic_0 ?_
  refine lv_aload_n hx hb dX10_stepAt_2 rfl (lv_at hl 0 rfl) ?_
  refine y_geti h F hP k_4 (n2 (hP.al 4 rfl)) fl_X10_32 rfl dX10_stepAt_3 (fun v_3 h => ?_)
  refine lv_iconst (v := 1) hx hb dX10_stepAt_6 ic_1 ?_
  refine lv_isub hx hb dX10_stepAt_7 ?_
  refine x_goesZ (x_runSN (As := [.int a1, .int (0 : Int32), .int (v_3 - (1 : Int32))]) (rest := []) F hP hS (c_X11_within l D cT lo NB w ad a1 (0 : Int32) (v_3 - (1 : Int32))) cw_X11_within nl_X10_36 st_X11_within ⟨rfl, rfl, Nat.le_of_ble_eq_true rfl, Nat.le_of_ble_eq_true rfl⟩ hl.1 rfl (Nat.le_of_ble_eq_true rfl) dX10_stepAt_8 ⟨Nat.zero_le _, Nat.zero_le _⟩) hS (fun H locs hz_8 hP hS _ => ?_)
  refine lv_if_eq (tgt := 23) hx hb dX10_stepAt_11 (by decide) (fun hc => ?_) (fun hc => ?_)
  · have h := if_t _ hc h
    refine lv_bipush (v := -2) hx hb dX10_stepAt_23 ib_m2 ?_
    exact y_iretO h F hr hP hS hlk dX10_stepAt_25
  · have h := if_f _ hc h
    refine lv_aload_n hx hb dX10_stepAt_14 rfl (lv_at hl 0 rfl) ?_
    refine x_getr F hP k_4 (hP.al 4 rfl) fl_X10_25 rfl r_4_6 dX10_stepAt_15 ?_
    refine lv_iload_n hx hb dX10_stepAt_18 rfl (lv_at hl 1 rfl) ?_
    refine y_iald h F hP k_28 (n2 (hP.al 28 rfl)) dX10_stepAt_19 (fun v_19 h => ?_)
    refine lv_goto (tgt := 25) hx hb dX10_stepAt_20 (by decide) ?_
    exact y_iretO h F hr hP hS hlk dX10_stepAt_25
def f_X10_standingOf (a1 : Int32) (a2 : Int32) (a3 : Int32) : Int64 :=
((((a1 + (40000 : Int32)).toInt64) <<< ((23 : Int32).toInt64 &&& 63)) ||| (((a2 + (40000 : Int32)).toInt64) <<< ((6 : Int32).toInt64 &&& 63))) ||| a3.toInt64
set_option maxRecDepth 100000 in
set_option maxHeartbeats 4000000 in
theorem c_X10_standingOf (l : Launch) (D : va_G) (cT : Nat → ClassId) (lo nb : Nat) (w : Wd) (ad : Nat → Nat) (a1 : Int32) (a2 : Int32) (a3 : Int32) : Met l yX10_standingOf (.code yX10_standingOf cX10_standingOf 3 (some .long) :: TW) { frames := 0, cells := 0, slots := 0, locals := 0 } (mPc D cT lo nb w ad [.int a1, .int a2, .int a3]) (mQ D cT lo nb w w ad (some (.long (f_X10_standingOf a1 a2 a3)))) 0 0 (fun q => lo ≤ q) := by
  obtain ⟨r, h⟩ : ∃ r, f_X10_standingOf a1 a2 a3 = r := ⟨_, rfl⟩
  rw [h]
  unfold f_X10_standingOf at h
  refine x_met (lv := [(0, .int a1), (1, .int a2), (2, .int a3)]) (by decide +kernel) (Nat.le_of_ble_eq_true rfl) rfl ?_
  intro p e s m args below meth c ls F hr hlk hP hin hl
  have hx := F.1
  have hb := F.2.1
  have hS : va_S (fun q => lo ≤ q) s.heap s.heap [] := va_S.rf
  refine lv_iload_n hx hb dX10_standingOf_0 rfl (lv_at hl 0 rfl) ?_
  refine lv_ldc F.1 F.2.1 F.2.2.1 (F.2.2.2.1 _ ct_X10_86) dX10_standingOf_1 ?_
  refine lv_iadd hx hb dX10_standingOf_3 ?_
  refine lv_i2l hx hb dX10_standingOf_4 rfl ?_
  refine lv_bipush (v := 23) hx hb dX10_standingOf_5 ib_23 ?_
  refine lv_lshl hx hb dX10_standingOf_7 rfl ?_
  refine lv_iload_n hx hb dX10_standingOf_8 rfl (lv_at hl 1 rfl) ?_
  refine lv_ldc F.1 F.2.1 F.2.2.1 (F.2.2.2.1 _ ct_X10_86) dX10_standingOf_9 ?_
  refine lv_iadd hx hb dX10_standingOf_11 ?_
  refine lv_i2l hx hb dX10_standingOf_12 rfl ?_
  refine lv_bipush (v := 6) hx hb dX10_standingOf_13 ib_6 ?_
  refine lv_lshl hx hb dX10_standingOf_15 rfl ?_
  refine lv_lor hx hb dX10_standingOf_16 ?_
  refine lv_iload_n hx hb dX10_standingOf_17 rfl (lv_at hl 2 rfl) ?_
  refine lv_i2l hx hb dX10_standingOf_18 rfl ?_
  refine lv_lor hx hb dX10_standingOf_19 ?_
  exact y_lretP h F hr hP hS hlk dX10_standingOf_20
def f_X10_bucketOf (a1 : Int64) : Int32 :=
((((a1 ^^^ ((a1.toUInt64 >>> ((19 : Int32).toInt64.toUInt64 &&& Int64.toUInt64 63)).toInt64)).toInt32) * (-1640531535 : Int32)).toUInt32 >>> ((22 : Int32).toUInt32 &&& Int32.toUInt32 31)).toInt32
set_option maxRecDepth 100000 in
set_option maxHeartbeats 4000000 in
theorem c_X10_bucketOf (l : Launch) (D : va_G) (cT : Nat → ClassId) (lo nb : Nat) (w : Wd) (ad : Nat → Nat) (a1 : Int64) : Met l yX10_bucketOf (.code yX10_bucketOf cX10_bucketOf 2 (some .int) :: TW) { frames := 0, cells := 0, slots := 0, locals := 0 } (mPc D cT lo nb w ad [.long a1]) (mQ D cT lo nb w w ad (some (.int (f_X10_bucketOf a1)))) 0 0 (fun q => lo ≤ q) := by
  obtain ⟨r, h⟩ : ∃ r, f_X10_bucketOf a1 = r := ⟨_, rfl⟩
  rw [h]
  unfold f_X10_bucketOf at h
  refine x_met (lv := [(0, .long a1)]) (by decide +kernel) (Nat.le_of_ble_eq_true rfl) rfl ?_
  intro p e s m args below meth c ls F hr hlk hP hin hl
  have hx := F.1
  have hb := F.2.1
  have hS : va_S (fun q => lo ≤ q) s.heap s.heap [] := va_S.rf
  refine lv_lload_n hx hb dX10_bucketOf_0 rfl (lv_at hl 0 rfl) ?_
  refine lv_lload_n hx hb dX10_bucketOf_1 rfl (lv_at hl 0 rfl) ?_
  refine lv_bipush (v := 19) hx hb dX10_bucketOf_2 ib_19 ?_
  refine lv_lushr hx hb dX10_bucketOf_4 rfl ?_
  refine lv_lxor hx hb dX10_bucketOf_5 ?_
  refine lv_l2i hx hb dX10_bucketOf_6 rfl ?_
  refine lv_ldc F.1 F.2.1 F.2.2.1 (F.2.2.2.1 _ ct_X10_118) dX10_bucketOf_7 ?_
  refine lv_imul hx hb dX10_bucketOf_9 ?_
  refine lv_bipush (v := 22) hx hb dX10_bucketOf_10 ib_22 ?_
  refine lv_iushr hx hb dX10_bucketOf_12 rfl ?_
  exact y_iretP h F hr hP hS hlk dX10_bucketOf_13
def f_X10_note (w : Wd) (a1 : Int64) (a2 : Int32) : Option Wd :=
q_lt (f_X10_bucketOf a1) (fun v_4 =>
q_gt w 4 5 (fun v_11 =>
q_sl w 24 1500 v_11 a1 (fun w_15 =>
q_gt w_15 4 5 (fun v_21 =>
q_st w_15 25 1500 v_21 a2 (fun w_25 =>
q_gt w_25 4 5 (fun v_31 =>
q_ld w_25 27 1024 v_4 (fun v_40 =>
q_st w_25 26 1500 v_31 v_40 (fun w_41 =>
q_gt w_41 4 5 (fun v_49 =>
q_st w_41 27 1024 v_4 v_49 (fun w_52 =>
q_gt w_52 4 5 (fun v_55 =>
q_pt w_52 4 5 (v_55 + (1 : Int32)) (fun w_60 =>
some w_60))))))))))))
set_option maxRecDepth 100000 in
set_option maxHeartbeats 4000000 in
theorem c_X10_note (l : Launch) (D : va_G) (cT : Nat → ClassId) (lo : Nat) (w : Wd) (ad : Nat → Nat) (a1 : Int64) (a2 : Int32) (w9 : Wd) (h : f_X10_note w a1 a2 = some w9) : Met l yX10_note (.code yX10_note cX10_note 5 none :: TW) { frames := 1, cells := 0, slots := 0, locals := 21 } (mPc D cT lo NB w ad [.ref (ad 4), .long a1, .int a2]) (mQ D cT lo NB w w9 ad none) 0 0 (fun q => lo ≤ q) := by
  unfold f_X10_note at h
  refine x_met (lv := [(0, .ref (ad 4)), (1, .long a1), (3, .int a2)]) (by decide +kernel) (Nat.le_of_ble_eq_true rfl) rfl ?_
  intro p e s m args below meth c ls F hr hlk hP hin hl
  have hx := F.1
  have hb := F.2.1
  have hS : va_S (fun q => lo ≤ q) s.heap s.heap [] := va_S.rf
  have hM_w : mono w w := mono.refl
  refine lv_lload_n hx hb dX10_note_0 rfl (lv_at hl 1 rfl) ?_
  refine x_goes (x_runS (As := [.long a1]) (rest := []) F hP hS (c_X10_bucketOf l D cT lo NB w ad a1) cw_X10_bucketOf lk_X10_119 st_X10_bucketOf ⟨rfl, rfl, Nat.le_of_ble_eq_true rfl, Nat.le_of_ble_eq_true rfl⟩ hl.1 rfl (Nat.le_of_ble_eq_true rfl) dX10_note_1 ⟨Nat.zero_le _, Nat.zero_le _⟩) hS (fun H locs hP hS _ => ?_)
  refine y_let h (fun v_4 h => ?_)
  refine lv_istore (lv' := [(4, .int v_4), (0, .ref (ad 4)), (1, .long a1), (3, .int a2)]) hx hb dX10_note_4 hl (Nat.le_of_ble_eq_true rfl) rfl (fun ls hl => ?_)
  refine lv_aload_n hx hb dX10_note_6 rfl (lv_at hl 1 rfl) ?_
  refine x_getr F hP k_4 (hP.al 4 rfl) fl_X10_11 rfl r_4_1 dX10_note_7 ?_
  refine lv_aload_n hx hb dX10_note_10 rfl (lv_at hl 1 rfl) ?_
  refine y_geti h F hP k_4 (n2 (hP.al 4 rfl)) fl_X10_51 rfl dX10_note_11 (fun v_11 h => ?_)
  refine lv_lload_n hx hb dX10_note_14 rfl (lv_at hl 2 rfl) ?_
  refine y_last h F hP hS k_24 (n2 (hP.al 24 rfl)) dX10_note_15 (fun w_15 H locs hm h hP hS => ?_)
  have hM_w := hm
  refine lv_aload_n hx hb dX10_note_16 rfl (lv_at hl 1 rfl) ?_
  refine x_getr F hP k_4 (hP.al 4 rfl) fl_X10_15 rfl r_4_2 dX10_note_17 ?_
  refine lv_aload_n hx hb dX10_note_20 rfl (lv_at hl 1 rfl) ?_
  refine y_geti h F hP k_4 (n2 (hP.al 4 rfl)) fl_X10_51 rfl dX10_note_21 (fun v_21 h => ?_)
  refine lv_iload_n hx hb dX10_note_24 rfl (lv_at hl 3 rfl) ?_
  refine y_iast h F hP hS k_25 (n2 (hP.al 25 rfl)) dX10_note_25 (fun w_25 H locs hm h hP hS => ?_)
  have hM_w := hM_w.trans hm
  refine lv_aload_n hx hb dX10_note_26 rfl (lv_at hl 1 rfl) ?_
  refine x_getr F hP k_4 (hP.al 4 rfl) fl_X10_19 rfl r_4_3 dX10_note_27 ?_
  refine lv_aload_n hx hb dX10_note_30 rfl (lv_at hl 1 rfl) ?_
  refine y_geti h F hP k_4 (n2 (hP.al 4 rfl)) fl_X10_51 rfl dX10_note_31 (fun v_31 h => ?_)
  refine lv_aload_n hx hb dX10_note_34 rfl (lv_at hl 1 rfl) ?_
  refine x_getr F hP k_4 (hP.al 4 rfl) fl_X10_22 rfl r_4_4 dX10_note_35 ?_
  refine lv_iload hx hb dX10_note_38 (lv_at hl 0 rfl) ?_
  refine y_iald h F hP k_27 (n2 (hP.al 27 rfl)) dX10_note_40 (fun v_40 h => ?_)
  refine y_iast h F hP hS k_26 (n2 (hP.al 26 rfl)) dX10_note_41 (fun w_41 H locs hm h hP hS => ?_)
  have hM_w := hM_w.trans hm
  refine lv_aload_n hx hb dX10_note_42 rfl (lv_at hl 1 rfl) ?_
  refine x_getr F hP k_4 (hP.al 4 rfl) fl_X10_22 rfl r_4_4 dX10_note_43 ?_
  refine lv_iload hx hb dX10_note_46 (lv_at hl 0 rfl) ?_
  refine lv_aload_n hx hb dX10_note_48 rfl (lv_at hl 1 rfl) ?_
  refine y_geti h F hP k_4 (n2 (hP.al 4 rfl)) fl_X10_51 rfl dX10_note_49 (fun v_49 h => ?_)
  refine y_iast h F hP hS k_27 (n2 (hP.al 27 rfl)) dX10_note_52 (fun w_52 H locs hm h hP hS => ?_)
  have hM_w := hM_w.trans hm
  refine lv_aload_n hx hb dX10_note_53 rfl (lv_at hl 1 rfl) ?_
  refine lv_dup hx hb dX10_note_54 rfl ?_
  refine y_geti h F hP k_4 (n2 (hP.al 4 rfl)) fl_X10_51 rfl dX10_note_55 (fun v_55 h => ?_)
  refine lv_iconst (v := 1) hx hb dX10_note_58 ic_1 ?_
  refine lv_iadd hx hb dX10_note_59 ?_
  refine y_puti h F hP hS k_4 (n2 (hP.al 4 rfl)) fl_X10_51 rfl dX10_note_60 (fun w_60 H locs hm h hP hS => ?_)
  have hM_w := hM_w.trans hm
  exact y_vret h F hr hP hS hM_w hlk dX10_note_63
def l_X10_isGoal_13 (a1 : Int32) (a2 : Int32) (a3 : Int32) (w : Wd) : Nat → Int32 → Option Int32
  | 0, _ => none
  | n_13 + 1, x4_13l =>
    if (4 : Int32) ≤ x4_13l then
    some (1 : Int32)
    else
    q_gd w 4 9 (fun q_20 =>
    q_gd w 4 8 (fun q_25 =>
    q_gd w 4 8 (fun q_37 =>
    if (f_X0_holds w q_20 (a1 + (f_X1_wheelX w q_25 x4_13l a3)) (a2 + (f_X1_wheelY w q_37 x4_13l a3))) = 0 then
    some (0 : Int32)
    else
    q_lt (x4_13l + (1 : Int32)) (fun v_55 =>
    l_X10_isGoal_13 a1 a2 a3 w n_13 v_55))))
def f_X10_isGoal (w : Wd) (a1 : Int32) (a2 : Int32) (a3 : Int32) : Option Int32 :=
q_gt w 4 10 (fun v_2 =>
if a3 = v_2 then
l_X10_isGoal_13 a1 a2 a3 w FU (0 : Int32)
else
some (0 : Int32))
set_option maxRecDepth 100000 in
set_option maxHeartbeats 4000000 in
theorem c_X10_isGoal (l : Launch) (D : va_G) (cT : Nat → ClassId) (lo : Nat) (w : Wd) (ad : Nat → Nat) (a1 : Int32) (a2 : Int32) (a3 : Int32) (r : Int32) (h : f_X10_isGoal w a1 a2 a3 = some r) : Met l yX10_isGoal (.code yX10_isGoal cX10_isGoal 5 (some .boolean) :: TW) { frames := 3, cells := 0, slots := 0, locals := 64 } (mPc D cT lo NB w ad [.ref (ad 4), .int a1, .int a2, .int a3]) (mQz D cT lo NB w w ad r) 0 0 (fun q => lo ≤ q) := by
  unfold f_X10_isGoal at h
  refine x_met (lv := [(0, .ref (ad 4)), (1, .int a1), (2, .int a2), (3, .int a3)]) (by decide +kernel) (Nat.le_of_ble_eq_true rfl) rfl ?_
  intro p e s m args below meth c ls F hr hlk hP hin hl
  have hx := F.1
  have hb := F.2.1
  have hS : va_S (fun q => lo ≤ q) s.heap s.heap [] := va_S.rf
  refine lv_iload_n hx hb dX10_isGoal_0 rfl (lv_at hl 3 rfl) ?_
  refine lv_aload_n hx hb dX10_isGoal_1 rfl (lv_at hl 0 rfl) ?_
  refine y_geti h F hP k_4 (n2 (hP.al 4 rfl)) fl_X10_48 rfl dX10_isGoal_2 (fun v_2 h => ?_)
  refine lv_icmp_eq (tgt := 10) hx hb dX10_isGoal_5 (by decide) (fun hc => ?_) (fun hc => ?_)
  · have h := if_t _ hc h
    refine lv_iconst (v := 0) hx hb dX10_isGoal_10 ic_0 ?_
    refine lv_istore (lv' := [(4, .int (0 : Int32)), (0, .ref (ad 4)), (1, .int a1), (2, .int a2), (3, .int a3)]) hx hb dX10_isGoal_11 hl (Nat.le_of_ble_eq_true rfl) rfl (fun ls hl => ?_)
    have L_13 : ∀ (n_13 : Nat) (x4_13l : Int32), l_X10_isGoal_13 a1 a2 a3 w n_13 x4_13l = some r → GG p l e { frames := 3, cells := 0, slots := 0, locals := 64 } s m args below meth c 0 0 (MQ below (mQz D cT lo NB w w ad r) args s 0 0 (fun q => lo ≤ q)) D cT lo NB 5 ad w 13 [(4, .int x4_13l), (0, .ref (ad 4)), (1, .int a1), (2, .int a2), (3, .int a3)] [] := by
      intro n_13
      induction n_13 with
      | zero =>
        intro x4_13l h
        exact absurd h (by unfold l_X10_isGoal_13; exact fun z => by cases z)
      | succ n_13 ih_13 =>
        intro x4_13l h H locs ls hP hS hl
        unfold l_X10_isGoal_13 at h
        refine lv_iload hx hb dX10_isGoal_13 (lv_at hl 0 rfl) ?_
        refine lv_iconst (v := 4) hx hb dX10_isGoal_15 ic_4 ?_
        refine lv_icmp_ge (tgt := 61) hx hb dX10_isGoal_16 (by decide) (fun hc => ?_) (fun hc => ?_)
        · have h := if_t _ hc h
          refine lv_iconst (v := 1) hx hb dX10_isGoal_61 ic_1 ?_
          exact y_zretO h F hr hP hS hlk rfl dX10_isGoal_62
        · have h := if_f _ hc h
          refine lv_aload_n hx hb dX10_isGoal_19 rfl (lv_at hl 1 rfl) ?_
          refine y_getd h F hP k_4 (n2 (hP.al 4 rfl)) fl_X10_44 rfl dX10_isGoal_20 (fun q_20 hk_q_20 ha_q_20 h => ?_)
          refine lv_iload_n hx hb dX10_isGoal_23 rfl (lv_at hl 2 rfl) ?_
          refine lv_aload_n hx hb dX10_isGoal_24 rfl (lv_at hl 1 rfl) ?_
          refine y_getd h F hP k_4 (n2 (hP.al 4 rfl)) fl_X10_40 rfl dX10_isGoal_25 (fun q_25 hk_q_25 ha_q_25 h => ?_)
          refine lv_iload hx hb dX10_isGoal_28 (lv_at hl 0 rfl) ?_
          refine lv_iload_n hx hb dX10_isGoal_30 rfl (lv_at hl 4 rfl) ?_
          refine x_goes (x_runV (As := [.int x4_13l, .int a3]) (rest := [.int a1, .ref (ad q_20)]) F hP hS (c_X1_wheelX l D cT lo NB w ad q_25 hk_q_25 ha_q_25 x4_13l a3) cw_X1_wheelX lk_X10_123 vi_X1_wheelX hk_q_25 (n2 ha_q_25) rfl ⟨rfl, rfl, Nat.le_of_ble_eq_true rfl, Nat.le_of_ble_eq_true rfl⟩ hl.1 rfl (Nat.le_of_ble_eq_true rfl) dX10_isGoal_31 ⟨Nat.zero_le _, Nat.zero_le _⟩) hS (fun H locs hP hS _ => ?_)
          refine lv_iadd hx hb dX10_isGoal_34 ?_
          refine lv_iload_n hx hb dX10_isGoal_35 rfl (lv_at hl 3 rfl) ?_
          refine lv_aload_n hx hb dX10_isGoal_36 rfl (lv_at hl 1 rfl) ?_
          refine y_getd h F hP k_4 (n2 (hP.al 4 rfl)) fl_X10_40 rfl dX10_isGoal_37 (fun q_37 hk_q_37 ha_q_37 h => ?_)
          refine lv_iload hx hb dX10_isGoal_40 (lv_at hl 0 rfl) ?_
          refine lv_iload_n hx hb dX10_isGoal_42 rfl (lv_at hl 4 rfl) ?_
          refine x_goes (x_runV (As := [.int x4_13l, .int a3]) (rest := [.int a2, .int (a1 + (f_X1_wheelX w q_25 x4_13l a3)), .ref (ad q_20)]) F hP hS (c_X1_wheelY l D cT lo NB w ad q_37 hk_q_37 ha_q_37 x4_13l a3) cw_X1_wheelY lk_X10_126 vi_X1_wheelY hk_q_37 (n2 ha_q_37) rfl ⟨rfl, rfl, Nat.le_of_ble_eq_true rfl, Nat.le_of_ble_eq_true rfl⟩ hl.1 rfl (Nat.le_of_ble_eq_true rfl) dX10_isGoal_43 ⟨Nat.zero_le _, Nat.zero_le _⟩) hS (fun H locs hP hS _ => ?_)
          refine lv_iadd hx hb dX10_isGoal_46 ?_
          refine x_goesZ (x_runV (As := [.int (a1 + (f_X1_wheelX w q_25 x4_13l a3)), .int (a2 + (f_X1_wheelY w q_37 x4_13l a3))]) (rest := []) F hP hS (c_X0_holds l D cT lo NB w ad q_20 hk_q_20 ha_q_20 (a1 + (f_X1_wheelX w q_25 x4_13l a3)) (a2 + (f_X1_wheelY w q_37 x4_13l a3))) cw_X0_holds lk_X10_129 vi_X0_holds hk_q_20 (n2 ha_q_20) rfl ⟨rfl, rfl, Nat.le_of_ble_eq_true rfl, Nat.le_of_ble_eq_true rfl⟩ hl.1 rfl (Nat.le_of_ble_eq_true rfl) dX10_isGoal_47 ⟨Nat.zero_le _, Nat.zero_le _⟩) hS (fun H locs hz_47 hP hS _ => ?_)
          refine lv_if_ne (tgt := 55) hx hb dX10_isGoal_50 (by decide) (fun hc => ?_) (fun hc => ?_)
          · have h := if_f _ hc h
            refine y_iinc (lv' := fun (v_55 : Int32) => [(4, .int v_55), (0, .ref (ad 4)), (1, .int a1), (2, .int a2), (3, .int a3)]) h F ic_1 dX10_isGoal_55 hl (kq := 0) rfl (Nat.le_of_ble_eq_true rfl) (fun _ => rfl) (fun v_55 ls hl h => ?_)
            refine lv_goto (tgt := 13) hx hb dX10_isGoal_58 (by decide) ?_
            exact ih_13 v_55 h _ _ _ hP hS (lv_sub hl [0, 1, 2, 3, 4] rfl)
          · have h := if_t _ hc h
            refine lv_iconst (v := 0) hx hb dX10_isGoal_53 ic_0 ?_
            exact y_zretO h F hr hP hS hlk rfl dX10_isGoal_54
    exact L_13 FU (0 : Int32) h _ _ _ hP hS (lv_sub hl [0, 1, 2, 3, 4] rfl)
  · have h := if_f _ hc h
    refine lv_iconst (v := 0) hx hb dX10_isGoal_8 ic_0 ?_
    exact y_zretO h F hr hP hS hlk rfl dX10_isGoal_9
def l_X10_isNoted_13 (a1 : Int64) (w : Wd) : Nat → Int32 → Int32 → Option Int32
  | 0, _, _ => none
  | n_13 + 1, x4_13l, x3_13l =>
    if (1500 : Int32) ≤ x4_13l then
    some (0 : Int32)
    else
    if x3_13l < 0 then
    some (0 : Int32)
    else
    q_ldl w 24 1500 x3_13l (fun v_30 =>
    if (lg_cmp v_30 a1) = 0 then
    some (1 : Int32)
    else
    q_ld w 26 1500 x3_13l (fun v_43 =>
    q_lt (x4_13l + (1 : Int32)) (fun v_45 =>
    l_X10_isNoted_13 a1 w n_13 v_45 v_43)))
def f_X10_isNoted (w : Wd) (a1 : Int64) : Option Int32 :=
q_ld w 27 1024 (f_X10_bucketOf a1) (fun v_8 =>
l_X10_isNoted_13 a1 w FU (0 : Int32) v_8)
set_option maxRecDepth 100000 in
set_option maxHeartbeats 4000000 in
theorem c_X10_isNoted (l : Launch) (D : va_G) (cT : Nat → ClassId) (lo : Nat) (w : Wd) (ad : Nat → Nat) (a1 : Int64) (r : Int32) (h : f_X10_isNoted w a1 = some r) : Met l yX10_isNoted (.code yX10_isNoted cX10_isNoted 5 (some .boolean) :: TW) { frames := 1, cells := 0, slots := 0, locals := 21 } (mPc D cT lo NB w ad [.ref (ad 4), .long a1]) (mQz D cT lo NB w w ad r) 0 0 (fun q => lo ≤ q) := by
  unfold f_X10_isNoted at h
  refine x_met (lv := [(0, .ref (ad 4)), (1, .long a1)]) (by decide +kernel) (Nat.le_of_ble_eq_true rfl) rfl ?_
  intro p e s m args below meth c ls F hr hlk hP hin hl
  have hx := F.1
  have hb := F.2.1
  have hS : va_S (fun q => lo ≤ q) s.heap s.heap [] := va_S.rf
  refine lv_aload_n hx hb dX10_isNoted_0 rfl (lv_at hl 0 rfl) ?_
  refine x_getr F hP k_4 (hP.al 4 rfl) fl_X10_22 rfl r_4_4 dX10_isNoted_1 ?_
  refine lv_lload_n hx hb dX10_isNoted_4 rfl (lv_at hl 1 rfl) ?_
  refine x_goes (x_runS (As := [.long a1]) (rest := [.ref (ad 27)]) F hP hS (c_X10_bucketOf l D cT lo NB w ad a1) cw_X10_bucketOf lk_X10_119 st_X10_bucketOf ⟨rfl, rfl, Nat.le_of_ble_eq_true rfl, Nat.le_of_ble_eq_true rfl⟩ hl.1 rfl (Nat.le_of_ble_eq_true rfl) dX10_isNoted_5 ⟨Nat.zero_le _, Nat.zero_le _⟩) hS (fun H locs hP hS _ => ?_)
  refine y_iald h F hP k_27 (n2 (hP.al 27 rfl)) dX10_isNoted_8 (fun v_8 h => ?_)
  refine lv_istore_n (lv' := [(3, .int v_8), (0, .ref (ad 4)), (1, .long a1)]) hx hb dX10_isNoted_9 rfl hl (Nat.le_of_ble_eq_true rfl) rfl (fun ls hl => ?_)
  refine lv_iconst (v := 0) hx hb dX10_isNoted_10 ic_0 ?_
  refine lv_istore (lv' := [(4, .int (0 : Int32)), (3, .int v_8), (0, .ref (ad 4)), (1, .long a1)]) hx hb dX10_isNoted_11 hl (Nat.le_of_ble_eq_true rfl) rfl (fun ls hl => ?_)
  have L_13 : ∀ (n_13 : Nat) (x4_13l : Int32) (x3_13l : Int32), l_X10_isNoted_13 a1 w n_13 x4_13l x3_13l = some r → GG p l e { frames := 1, cells := 0, slots := 0, locals := 21 } s m args below meth c 0 0 (MQ below (mQz D cT lo NB w w ad r) args s 0 0 (fun q => lo ≤ q)) D cT lo NB 5 ad w 13 [(4, .int x4_13l), (3, .int x3_13l), (0, .ref (ad 4)), (1, .long a1)] [] := by
    intro n_13
    induction n_13 with
    | zero =>
      intro x4_13l x3_13l h
      exact absurd h (by unfold l_X10_isNoted_13; exact fun z => by cases z)
    | succ n_13 ih_13 =>
      intro x4_13l x3_13l h H locs ls hP hS hl
      unfold l_X10_isNoted_13 at h
      refine lv_iload hx hb dX10_isNoted_13 (lv_at hl 0 rfl) ?_
      refine lv_sipush (v := 1500) hx hb dX10_isNoted_15 is_1500 ?_
      refine lv_icmp_ge (tgt := 51) hx hb dX10_isNoted_18 (by decide) (fun hc => ?_) (fun hc => ?_)
      · have h := if_t _ hc h
        refine lv_iconst (v := 0) hx hb dX10_isNoted_51 ic_0 ?_
        exact y_zretO h F hr hP hS hlk rfl dX10_isNoted_52
      · have h := if_f _ hc h
        refine lv_iload_n hx hb dX10_isNoted_21 rfl (lv_at hl 1 rfl) ?_
        refine lv_if_lt (tgt := 51) hx hb dX10_isNoted_22 (by decide) (fun hc => ?_) (fun hc => ?_)
        · have h := if_t _ hc h
          refine lv_iconst (v := 0) hx hb dX10_isNoted_51 ic_0 ?_
          exact y_zretO h F hr hP hS hlk rfl dX10_isNoted_52
        · have h := if_f _ hc h
          refine lv_aload_n hx hb dX10_isNoted_25 rfl (lv_at hl 2 rfl) ?_
          refine x_getr F hP k_4 (hP.al 4 rfl) fl_X10_11 rfl r_4_1 dX10_isNoted_26 ?_
          refine lv_iload_n hx hb dX10_isNoted_29 rfl (lv_at hl 1 rfl) ?_
          refine y_lald h F hP k_24 (n2 (hP.al 24 rfl)) dX10_isNoted_30 (fun v_30 h => ?_)
          refine lv_lload_n hx hb dX10_isNoted_31 rfl (lv_at hl 3 rfl) ?_
          refine W.lcmp hx hb dX10_isNoted_32 ?_
          refine lv_if_ne (tgt := 38) hx hb dX10_isNoted_33 (by decide) (fun hc => ?_) (fun hc => ?_)
          · have h := if_f _ hc h
            refine lv_aload_n hx hb dX10_isNoted_38 rfl (lv_at hl 2 rfl) ?_
            refine x_getr F hP k_4 (hP.al 4 rfl) fl_X10_19 rfl r_4_3 dX10_isNoted_39 ?_
            refine lv_iload_n hx hb dX10_isNoted_42 rfl (lv_at hl 1 rfl) ?_
            refine y_iald h F hP k_26 (n2 (hP.al 26 rfl)) dX10_isNoted_43 (fun v_43 h => ?_)
            refine lv_istore_n (lv' := [(3, .int v_43), (4, .int x4_13l), (0, .ref (ad 4)), (1, .long a1)]) hx hb dX10_isNoted_44 rfl hl (Nat.le_of_ble_eq_true rfl) rfl (fun ls hl => ?_)
            refine y_iinc (lv' := fun (v_45 : Int32) => [(4, .int v_45), (3, .int v_43), (0, .ref (ad 4)), (1, .long a1)]) h F ic_1 dX10_isNoted_45 hl (kq := 1) rfl (Nat.le_of_ble_eq_true rfl) (fun _ => rfl) (fun v_45 ls hl h => ?_)
            refine lv_goto (tgt := 13) hx hb dX10_isNoted_48 (by decide) ?_
            exact ih_13 v_45 v_43 h _ _ _ hP hS (lv_sub hl [0, 1, 2, 3] rfl)
          · have h := if_t _ hc h
            refine lv_iconst (v := 1) hx hb dX10_isNoted_36 ic_1 ?_
            exact y_zretO h F hr hP hS hlk rfl dX10_isNoted_37
  exact L_13 FU (0 : Int32) v_8 h _ _ _ hP hS (lv_sub hl [0, 1, 2, 3] rfl)
def l_X10_keepSteps_11 (j_45 : Wd → Option Wd) : Nat → Wd → Int32 → Int32 → Option Wd
  | 0, _, _, _ => none
  | n_11 + 1, w_11l, x3_11l, x2_11l =>
    if x3_11l < 0 then
    j_45 w_11l
    else
    q_ld w_11l 25 1500 x2_11l (fun v_25 =>
    q_st w_11l 28 12 x3_11l (v_25 &&& (15 : Int32)) (fun w_29 =>
    q_ld w_29 25 1500 x2_11l (fun v_35 =>
    q_lt (v_35 >>> ((4 : Int32) &&& 31)) (fun v_38 =>
    q_lt (x3_11l + (-1 : Int32)) (fun v_39 =>
    l_X10_keepSteps_11 j_45 n_11 w_29 v_39 v_38)))))
def f_X10_keepSteps (w : Wd) (a1 : Int32) : Option Wd :=
q_gt w 4 5 (fun v_1 =>
q_lt (v_1 - (1 : Int32)) (fun v_6 =>
q_lt (a1 - (1 : Int32)) (fun v_10 =>
q_jn (fun (w_45j : Wd) =>
q_pt w_45j 4 7 a1 (fun w_47 =>
some w_47)) (fun j_45 =>
l_X10_keepSteps_11 j_45 FU w v_10 v_6))))
set_option maxRecDepth 100000 in
set_option maxHeartbeats 4000000 in
theorem c_X10_keepSteps (l : Launch) (D : va_G) (cT : Nat → ClassId) (lo : Nat) (w : Wd) (ad : Nat → Nat) (a1 : Int32) (w9 : Wd) (h : f_X10_keepSteps w a1 = some w9) : Met l yX10_keepSteps (.code yX10_keepSteps cX10_keepSteps 4 none :: TW) { frames := 0, cells := 0, slots := 0, locals := 0 } (mPc D cT lo NB w ad [.ref (ad 4), .int a1]) (mQ D cT lo NB w w9 ad none) 0 0 (fun q => lo ≤ q) := by
  unfold f_X10_keepSteps at h
  refine x_met (lv := [(0, .ref (ad 4)), (1, .int a1)]) (by decide +kernel) (Nat.le_of_ble_eq_true rfl) rfl ?_
  intro p e s m args below meth c ls F hr hlk hP hin hl
  have hx := F.1
  have hb := F.2.1
  have hS : va_S (fun q => lo ≤ q) s.heap s.heap [] := va_S.rf
  have hM_w : mono w w := mono.refl
  refine lv_aload_n hx hb dX10_keepSteps_0 rfl (lv_at hl 0 rfl) ?_
  refine y_geti h F hP k_4 (n2 (hP.al 4 rfl)) fl_X10_51 rfl dX10_keepSteps_1 (fun v_1 h => ?_)
  refine lv_iconst (v := 1) hx hb dX10_keepSteps_4 ic_1 ?_
  refine lv_isub hx hb dX10_keepSteps_5 ?_
  refine y_let h (fun v_6 h => ?_)
  refine lv_istore_n (lv' := [(2, .int v_6), (0, .ref (ad 4)), (1, .int a1)]) hx hb dX10_keepSteps_6 rfl hl (Nat.le_of_ble_eq_true rfl) rfl (fun ls hl => ?_)
  refine lv_iload_n hx hb dX10_keepSteps_7 rfl (lv_at hl 2 rfl) ?_
  refine lv_iconst (v := 1) hx hb dX10_keepSteps_8 ic_1 ?_
  refine lv_isub hx hb dX10_keepSteps_9 ?_
  refine y_let h (fun v_10 h => ?_)
  refine lv_istore_n (lv' := [(3, .int v_10), (2, .int v_6), (0, .ref (ad 4)), (1, .int a1)]) hx hb dX10_keepSteps_10 rfl hl (Nat.le_of_ble_eq_true rfl) rfl (fun ls hl => ?_)
  refine jn_use (fun (j_45 : Wd → Option Wd) => ∀ (w_45j : Wd), mono w w_45j → j_45 w_45j = some w9 → GG p l e { frames := 0, cells := 0, slots := 0, locals := 0 } s m args below meth c 0 0 (MQ below (mQ D cT lo NB w w9 ad none) args s 0 0 (fun q => lo ≤ q)) D cT lo NB 4 ad w_45j 45 [(0, .ref (ad 4)), (1, .int a1)] []) h (fun w_45j hm h H locs ls hP hS hl => ?_) (fun j_45 J_45 h => ?_)
  · have hM_w := hm
    refine lv_aload_n hx hb dX10_keepSteps_45 rfl (lv_at hl 0 rfl) ?_
    refine lv_iload_n hx hb dX10_keepSteps_46 rfl (lv_at hl 1 rfl) ?_
    refine y_puti h F hP hS k_4 (n2 (hP.al 4 rfl)) fl_X10_32 rfl dX10_keepSteps_47 (fun w_47 H locs hm h hP hS => ?_)
    have hM_w := hM_w.trans hm
    exact y_vret h F hr hP hS hM_w hlk dX10_keepSteps_50
  · have L_11 : ∀ (n_11 : Nat) (w_11l : Wd) (x3_11l : Int32) (x2_11l : Int32), mono w w_11l → l_X10_keepSteps_11 j_45 n_11 w_11l x3_11l x2_11l = some w9 → GG p l e { frames := 0, cells := 0, slots := 0, locals := 0 } s m args below meth c 0 0 (MQ below (mQ D cT lo NB w w9 ad none) args s 0 0 (fun q => lo ≤ q)) D cT lo NB 4 ad w_11l 11 [(3, .int x3_11l), (2, .int x2_11l), (0, .ref (ad 4)), (1, .int a1)] [] := by
      intro n_11
      induction n_11 with
      | zero =>
        intro w_11l x3_11l x2_11l _ h
        exact absurd h (by unfold l_X10_keepSteps_11; exact fun z => by cases z)
      | succ n_11 ih_11 =>
        intro w_11l x3_11l x2_11l hm h H locs ls hP hS hl
        unfold l_X10_keepSteps_11 at h
        have hM_w := hm
        refine lv_iload_n hx hb dX10_keepSteps_11 rfl (lv_at hl 0 rfl) ?_
        refine lv_if_lt (tgt := 45) hx hb dX10_keepSteps_12 (by decide) (fun hc => ?_) (fun hc => ?_)
        · have h := if_t _ hc h
          exact J_45 w_11l hM_w h _ _ _ hP hS (lv_sub hl [2, 3] rfl)
        · have h := if_f _ hc h
          refine lv_aload_n hx hb dX10_keepSteps_15 rfl (lv_at hl 2 rfl) ?_
          refine x_getr F hP k_4 (hP.al 4 rfl) fl_X10_25 rfl r_4_6 dX10_keepSteps_16 ?_
          refine lv_iload_n hx hb dX10_keepSteps_19 rfl (lv_at hl 0 rfl) ?_
          refine lv_aload_n hx hb dX10_keepSteps_20 rfl (lv_at hl 2 rfl) ?_
          refine x_getr F hP k_4 (hP.al 4 rfl) fl_X10_15 rfl r_4_2 dX10_keepSteps_21 ?_
          refine lv_iload_n hx hb dX10_keepSteps_24 rfl (lv_at hl 1 rfl) ?_
          refine y_iald h F hP k_25 (n2 (hP.al 25 rfl)) dX10_keepSteps_25 (fun v_25 h => ?_)
          refine lv_bipush (v := 15) hx hb dX10_keepSteps_26 ib_15 ?_
          refine lv_iand hx hb dX10_keepSteps_28 ?_
          refine y_iast h F hP hS k_28 (n2 (hP.al 28 rfl)) dX10_keepSteps_29 (fun w_29 H locs hm h hP hS => ?_)
          have hM_w := hM_w.trans hm
          refine lv_aload_n hx hb dX10_keepSteps_30 rfl (lv_at hl 2 rfl) ?_
          refine x_getr F hP k_4 (hP.al 4 rfl) fl_X10_15 rfl r_4_2 dX10_keepSteps_31 ?_
          refine lv_iload_n hx hb dX10_keepSteps_34 rfl (lv_at hl 1 rfl) ?_
          refine y_iald h F hP k_25 (n2 (hP.al 25 rfl)) dX10_keepSteps_35 (fun v_35 h => ?_)
          refine lv_iconst (v := 4) hx hb dX10_keepSteps_36 ic_4 ?_
          refine lv_ishr hx hb dX10_keepSteps_37 ?_
          refine y_let h (fun v_38 h => ?_)
          refine lv_istore_n (lv' := [(2, .int v_38), (3, .int x3_11l), (0, .ref (ad 4)), (1, .int a1)]) hx hb dX10_keepSteps_38 rfl hl (Nat.le_of_ble_eq_true rfl) rfl (fun ls hl => ?_)
          refine y_iinc (lv' := fun (v_39 : Int32) => [(3, .int v_39), (2, .int v_38), (0, .ref (ad 4)), (1, .int a1)]) h F ic_m1 dX10_keepSteps_39 hl (kq := 1) rfl (Nat.le_of_ble_eq_true rfl) (fun _ => rfl) (fun v_39 ls hl h => ?_)
          refine lv_goto (tgt := 11) hx hb dX10_keepSteps_42 (by decide) ?_
          exact ih_11 w_29 v_39 v_38 hM_w h _ _ _ hP hS (lv_sub hl [0, 1, 2, 3] rfl)
    exact L_11 FU w v_10 v_6 mono.refl h _ _ _ hP hS (lv_sub hl [0, 1, 2, 3] rfl)
def l_X10_goOn_42 (a1 : Int32) (v_15 : Int32) (v_29 : Int32) (v_37 : Int32) (j_177 : Wd → Option (Int32 × Wd)) : Nat → Wd → Int32 → Option (Int32 × Wd)
  | 0, _, _ => none
  | n_42 + 1, w_42l, x8_42l =>
    if (10 : Int32) ≤ x8_42l then
    some ((-1 : Int32), w_42l)
    else
    q_gd w_42l 4 8 (fun q_54 =>
    q_bo (f_X3_aim w_42l q_54 v_15 v_29 v_37 x8_42l) (fun w_65 =>
    q_gt w_65 3 8 (fun v_72 =>
    q_gt w_65 3 9 (fun v_81 =>
    q_gt w_65 3 10 (fun v_90 =>
    q_lt (f_X10_standingOf v_72 v_81 v_90) (fun v_104 =>
    q_bo (f_X10_isNoted w_65 v_104) (fun v_109 =>
    q_jn (fun (w_184j : Wd) =>
    q_lt (x8_42l + (1 : Int32)) (fun v_184 =>
    l_X10_goOn_42 a1 v_15 v_29 v_37 j_177 n_42 w_184j v_184)) (fun j_184 =>
    if v_109 = 0 then
    q_gd w_65 4 8 (fun q_120 =>
    q_bi (f_X3_firstMet w_65 q_120 v_72 v_81 v_90) (fun v_129 w_129 =>
    if v_129 = 0 then
    q_gt w_129 4 5 (fun v_139 =>
    if v_139 < (1500 : Int32) then
    q_bo (f_X10_note w_129 v_104 ((a1 * (16 : Int32)) + x8_42l)) (fun w_161 =>
    q_bo (f_X10_isGoal w_161 v_72 v_81 v_90) (fun v_171 =>
    if v_171 = 0 then
    j_184 w_161
    else
    j_177 w_161))
    else
    some ((-5 : Int32), w_129))
    else
    j_184 w_129))
    else
    j_184 w_65))))))))
def f_X10_goOn (w : Wd) (a1 : Int32) (a2 : Int32) : Option (Int32 × Wd) :=
q_ldl w 24 1500 a1 (fun v_5 =>
q_lt (((v_5 >>> ((23 : Int32).toInt64 &&& 63)).toInt32) - (40000 : Int32)) (fun v_15 =>
q_lt ((((v_5 >>> ((6 : Int32).toInt64 &&& 63)) &&& (131071 : Int64)).toInt32) - (40000 : Int32)) (fun v_29 =>
q_lt ((v_5 &&& (63 : Int64)).toInt32) (fun v_37 =>
q_jn (fun (w_177j : Wd) =>
q_bo (f_X10_keepSteps w_177j a2) (fun w_179 =>
some (a2, w_179))) (fun j_177 =>
l_X10_goOn_42 a1 v_15 v_29 v_37 j_177 FU w (0 : Int32))))))
set_option maxRecDepth 100000 in
set_option maxHeartbeats 4000000 in
theorem c_X10_goOn (l : Launch) (D : va_G) (cT : Nat → ClassId) (lo : Nat) (w : Wd) (ad : Nat → Nat) (a1 : Int32) (a2 : Int32) (r : Int32) (w9 : Wd) (h : f_X10_goOn w a1 a2 = some (r, w9)) : Met l yX10_goOn (.code yX10_goOn cX10_goOn 14 (some .int) :: TW) { frames := 5, cells := 0, slots := 0, locals := 124 } (mPc D cT lo NB w ad [.ref (ad 4), .int a1, .int a2]) (mQ D cT lo NB w w9 ad (some (.int r))) 0 0 (fun q => lo ≤ q) := by
  unfold f_X10_goOn at h
  refine x_met (lv := [(0, .ref (ad 4)), (1, .int a1), (2, .int a2)]) (by decide +kernel) (Nat.le_of_ble_eq_true rfl) rfl ?_
  intro p e s m args below meth c ls F hr hlk hP hin hl
  have hx := F.1
  have hb := F.2.1
  have hS : va_S (fun q => lo ≤ q) s.heap s.heap [] := va_S.rf
  have hM_w : mono w w := mono.refl
  refine lv_aload_n hx hb dX10_goOn_0 rfl (lv_at hl 0 rfl) ?_
  refine x_getr F hP k_4 (hP.al 4 rfl) fl_X10_11 rfl r_4_1 dX10_goOn_1 ?_
  refine lv_iload_n hx hb dX10_goOn_4 rfl (lv_at hl 1 rfl) ?_
  refine y_lald h F hP k_24 (n2 (hP.al 24 rfl)) dX10_goOn_5 (fun v_5 h => ?_)
  refine lv_lstore_n (lv' := [(3, .long v_5), (0, .ref (ad 4)), (1, .int a1), (2, .int a2)]) hx hb dX10_goOn_6 rfl hl (Nat.le_of_ble_eq_true rfl) rfl (fun ls hl => ?_)
  refine lv_lload_n hx hb dX10_goOn_7 rfl (lv_at hl 0 rfl) ?_
  refine lv_bipush (v := 23) hx hb dX10_goOn_8 ib_23 ?_
  refine lv_lshr hx hb dX10_goOn_10 rfl ?_
  refine lv_l2i hx hb dX10_goOn_11 rfl ?_
  refine lv_ldc F.1 F.2.1 F.2.2.1 (F.2.2.2.1 _ ct_X10_86) dX10_goOn_12 ?_
  refine lv_isub hx hb dX10_goOn_14 ?_
  refine y_let h (fun v_15 h => ?_)
  refine lv_istore (lv' := [(5, .int v_15), (3, .long v_5), (0, .ref (ad 4)), (1, .int a1), (2, .int a2)]) hx hb dX10_goOn_15 hl (Nat.le_of_ble_eq_true rfl) rfl (fun ls hl => ?_)
  refine lv_lload_n hx hb dX10_goOn_17 rfl (lv_at hl 1 rfl) ?_
  refine lv_bipush (v := 6) hx hb dX10_goOn_18 ib_6 ?_
  refine lv_lshr hx hb dX10_goOn_20 rfl ?_
  refine lv_ldc2 F.1 F.2.1 F.2.2.1 (F.2.2.2.1 _ ct_X10_87) dX10_goOn_21 ?_
  refine lv_land hx hb dX10_goOn_24 ?_
  refine lv_l2i hx hb dX10_goOn_25 rfl ?_
  refine lv_ldc F.1 F.2.1 F.2.2.1 (F.2.2.2.1 _ ct_X10_86) dX10_goOn_26 ?_
  refine lv_isub hx hb dX10_goOn_28 ?_
  refine y_let h (fun v_29 h => ?_)
  refine lv_istore (lv' := [(6, .int v_29), (5, .int v_15), (3, .long v_5), (0, .ref (ad 4)), (1, .int a1), (2, .int a2)]) hx hb dX10_goOn_29 hl (Nat.le_of_ble_eq_true rfl) rfl (fun ls hl => ?_)
  refine lv_lload_n hx hb dX10_goOn_31 rfl (lv_at hl 2 rfl) ?_
  refine lv_ldc2 F.1 F.2.1 F.2.2.1 (F.2.2.2.1 _ ct_X10_89) dX10_goOn_32 ?_
  refine lv_land hx hb dX10_goOn_35 ?_
  refine lv_l2i hx hb dX10_goOn_36 rfl ?_
  refine y_let h (fun v_37 h => ?_)
  refine lv_istore (lv' := [(7, .int v_37), (6, .int v_29), (5, .int v_15), (3, .long v_5), (0, .ref (ad 4)), (1, .int a1), (2, .int a2)]) hx hb dX10_goOn_37 hl (Nat.le_of_ble_eq_true rfl) rfl (fun ls hl => ?_)
  refine lv_iconst (v := 0) hx hb dX10_goOn_39 ic_0 ?_
  refine lv_istore (lv' := [(8, .int (0 : Int32)), (7, .int v_37), (6, .int v_29), (5, .int v_15), (3, .long v_5), (0, .ref (ad 4)), (1, .int a1), (2, .int a2)]) hx hb dX10_goOn_40 hl (Nat.le_of_ble_eq_true rfl) rfl (fun ls hl => ?_)
  refine jn_use (fun (j_177 : Wd → Option (Int32 × Wd)) => ∀ (w_177j : Wd), mono w w_177j → j_177 w_177j = some (r, w9) → GG p l e { frames := 5, cells := 0, slots := 0, locals := 124 } s m args below meth c 0 0 (MQ below (mQ D cT lo NB w w9 ad (some (.int r))) args s 0 0 (fun q => lo ≤ q)) D cT lo NB 14 ad w_177j 177 [(0, .ref (ad 4)), (2, .int a2)] []) h (fun w_177j hm h H locs ls hP hS hl => ?_) (fun j_177 J_177 h => ?_)
  · have hM_w := hm
    refine lv_aload_n hx hb dX10_goOn_177 rfl (lv_at hl 0 rfl) ?_
    refine lv_iload_n hx hb dX10_goOn_178 rfl (lv_at hl 1 rfl) ?_
    obtain ⟨w_179, hc_179, h⟩ := bo_s h
    refine x_goes (x_runV (As := [.int a2]) (rest := []) F hP hS (c_X10_keepSteps l D cT lo w_177j ad a2 w_179 hc_179) cw_X10_keepSteps lk_X10_114 vi_X10_keepSteps k_4 (n2 (hP.al 4 rfl)) rfl ⟨rfl, rfl, Nat.le_of_ble_eq_true rfl, Nat.le_of_ble_eq_true rfl⟩ hl.1 rfl (Nat.le_of_ble_eq_true rfl) dX10_goOn_179 ⟨Nat.zero_le _, Nat.zero_le _⟩) hS (fun H locs hP hS hm => ?_)
    have hM_w := hM_w.trans hm
    refine lv_iload_n hx hb dX10_goOn_182 rfl (lv_at hl 1 rfl) ?_
    exact y_iretM h F hr hP hS hM_w hlk dX10_goOn_183
  · have L_42 : ∀ (n_42 : Nat) (w_42l : Wd) (x8_42l : Int32), mono w w_42l → l_X10_goOn_42 a1 v_15 v_29 v_37 j_177 n_42 w_42l x8_42l = some (r, w9) → GG p l e { frames := 5, cells := 0, slots := 0, locals := 124 } s m args below meth c 0 0 (MQ below (mQ D cT lo NB w w9 ad (some (.int r))) args s 0 0 (fun q => lo ≤ q)) D cT lo NB 14 ad w_42l 42 [(8, .int x8_42l), (7, .int v_37), (6, .int v_29), (5, .int v_15), (0, .ref (ad 4)), (1, .int a1), (2, .int a2)] [] := by
      intro n_42
      induction n_42 with
      | zero =>
        intro w_42l x8_42l _ h
        exact absurd h (by unfold l_X10_goOn_42; exact fun z => by cases z)
      | succ n_42 ih_42 =>
        intro w_42l x8_42l hm h H locs ls hP hS hl
        unfold l_X10_goOn_42 at h
        have hM_w := hm
        refine lv_iload hx hb dX10_goOn_42 (lv_at hl 0 rfl) ?_
        refine lv_bipush (v := 10) hx hb dX10_goOn_44 ib_10 ?_
        refine lv_icmp_ge (tgt := 190) hx hb dX10_goOn_46 (by decide) (fun hc => ?_) (fun hc => ?_)
        · have h := if_t _ hc h
          refine lv_iconst (v := -1) hx hb dX10_goOn_190 ic_m1 ?_
          exact y_iretM h F hr hP hS hM_w hlk dX10_goOn_191
        · have h := if_f _ hc h
          refine lv_aload_n hx hb dX10_goOn_49 rfl (lv_at hl 4 rfl) ?_
          refine x_getr F hP k_4 (hP.al 4 rfl) fl_X10_28 rfl r_4_0 dX10_goOn_50 ?_
          refine lv_aload_n hx hb dX10_goOn_53 rfl (lv_at hl 4 rfl) ?_
          refine y_getd h F hP k_4 (n2 (hP.al 4 rfl)) fl_X10_40 rfl dX10_goOn_54 (fun q_54 hk_q_54 ha_q_54 h => ?_)
          refine lv_iload hx hb dX10_goOn_57 (lv_at hl 3 rfl) ?_
          refine lv_iload hx hb dX10_goOn_59 (lv_at hl 2 rfl) ?_
          refine lv_iload hx hb dX10_goOn_61 (lv_at hl 1 rfl) ?_
          refine lv_iload hx hb dX10_goOn_63 (lv_at hl 0 rfl) ?_
          obtain ⟨w_65, hc_65, h⟩ := bo_s h
          refine x_goes (x_runV (As := [.ref (ad q_54), .int v_15, .int v_29, .int v_37, .int x8_42l]) (rest := []) F hP hS (c_X3_aim l D cT lo w_42l ad q_54 hk_q_54 ha_q_54 v_15 v_29 v_37 x8_42l w_65 hc_65) cw_X3_aim lk_X10_91 vi_X3_aim k_3 (n2 (hP.al 3 rfl)) rfl ⟨rfl, rfl, Nat.le_of_ble_eq_true rfl, Nat.le_of_ble_eq_true rfl⟩ hl.1 rfl (Nat.le_of_ble_eq_true rfl) dX10_goOn_65 ⟨Nat.zero_le _, Nat.zero_le _⟩) hS (fun H locs hP hS hm => ?_)
          have hM_w := hM_w.trans hm
          have ha_q_54 := hm.2 _ ha_q_54
          refine lv_aload_n hx hb dX10_goOn_68 rfl (lv_at hl 4 rfl) ?_
          refine x_getr F hP k_4 (hP.al 4 rfl) fl_X10_28 rfl r_4_0 dX10_goOn_69 ?_
          refine y_geti h F hP k_3 (n2 (hP.al 3 rfl)) fl_X10_97 rfl dX10_goOn_72 (fun v_72 h => ?_)
          refine lv_istore (lv' := [(9, .int v_72), (8, .int x8_42l), (7, .int v_37), (6, .int v_29), (5, .int v_15), (0, .ref (ad 4)), (1, .int a1), (2, .int a2)]) hx hb dX10_goOn_75 hl (Nat.le_of_ble_eq_true rfl) rfl (fun ls hl => ?_)
          refine lv_aload_n hx hb dX10_goOn_77 rfl (lv_at hl 5 rfl) ?_
          refine x_getr F hP k_4 (hP.al 4 rfl) fl_X10_28 rfl r_4_0 dX10_goOn_78 ?_
          refine y_geti h F hP k_3 (n2 (hP.al 3 rfl)) fl_X10_100 rfl dX10_goOn_81 (fun v_81 h => ?_)
          refine lv_istore (lv' := [(10, .int v_81), (9, .int v_72), (8, .int x8_42l), (7, .int v_37), (6, .int v_29), (5, .int v_15), (0, .ref (ad 4)), (1, .int a1), (2, .int a2)]) hx hb dX10_goOn_84 hl (Nat.le_of_ble_eq_true rfl) rfl (fun ls hl => ?_)
          refine lv_aload_n hx hb dX10_goOn_86 rfl (lv_at hl 6 rfl) ?_
          refine x_getr F hP k_4 (hP.al 4 rfl) fl_X10_28 rfl r_4_0 dX10_goOn_87 ?_
          refine y_geti h F hP k_3 (n2 (hP.al 3 rfl)) fl_X10_103 rfl dX10_goOn_90 (fun v_90 h => ?_)
          refine lv_istore (lv' := [(11, .int v_90), (10, .int v_81), (9, .int v_72), (8, .int x8_42l), (7, .int v_37), (6, .int v_29), (5, .int v_15), (0, .ref (ad 4)), (1, .int a1), (2, .int a2)]) hx hb dX10_goOn_93 hl (Nat.le_of_ble_eq_true rfl) rfl (fun ls hl => ?_)
          refine lv_iload hx hb dX10_goOn_95 (lv_at hl 2 rfl) ?_
          refine lv_iload hx hb dX10_goOn_97 (lv_at hl 1 rfl) ?_
          refine lv_iload hx hb dX10_goOn_99 (lv_at hl 0 rfl) ?_
          refine x_goes (x_runS (As := [.int v_72, .int v_81, .int v_90]) (rest := []) F hP hS (c_X10_standingOf l D cT lo NB w_65 ad v_72 v_81 v_90) cw_X10_standingOf lk_X10_71 st_X10_standingOf ⟨rfl, rfl, Nat.le_of_ble_eq_true rfl, Nat.le_of_ble_eq_true rfl⟩ hl.1 rfl (Nat.le_of_ble_eq_true rfl) dX10_goOn_101 ⟨Nat.zero_le _, Nat.zero_le _⟩) hS (fun H locs hP hS _ => ?_)
          refine y_letl h (fun v_104 h => ?_)
          refine lv_lstore (lv' := [(12, .long v_104), (11, .int v_90), (10, .int v_81), (9, .int v_72), (8, .int x8_42l), (7, .int v_37), (6, .int v_29), (5, .int v_15), (0, .ref (ad 4)), (1, .int a1), (2, .int a2)]) hx hb dX10_goOn_104 hl (Nat.le_of_ble_eq_true rfl) rfl (fun ls hl => ?_)
          refine lv_aload_n hx hb dX10_goOn_106 rfl (lv_at hl 8 rfl) ?_
          refine lv_lload hx hb dX10_goOn_107 (lv_at hl 0 rfl) ?_
          obtain ⟨v_109, hc_109, h⟩ := bo_s h
          refine x_goesZ (x_runV (As := [.long v_104]) (rest := []) F hP hS (c_X10_isNoted l D cT lo w_65 ad v_104 v_109 hc_109) cw_X10_isNoted lk_X10_106 vi_X10_isNoted k_4 (n2 (hP.al 4 rfl)) rfl ⟨rfl, rfl, Nat.le_of_ble_eq_true rfl, Nat.le_of_ble_eq_true rfl⟩ hl.1 rfl (Nat.le_of_ble_eq_true rfl) dX10_goOn_109 ⟨Nat.zero_le _, Nat.zero_le _⟩) hS (fun H locs hz_109 hP hS _ => ?_)
          refine jn_use (fun (j_184 : Wd → Option (Int32 × Wd)) => ∀ (w_184j : Wd), mono w_65 w_184j → j_184 w_184j = some (r, w9) → GG p l e { frames := 5, cells := 0, slots := 0, locals := 124 } s m args below meth c 0 0 (MQ below (mQ D cT lo NB w w9 ad (some (.int r))) args s 0 0 (fun q => lo ≤ q)) D cT lo NB 14 ad w_184j 184 [(8, .int x8_42l), (7, .int v_37), (6, .int v_29), (5, .int v_15), (0, .ref (ad 4)), (1, .int a1), (2, .int a2)] []) h (fun w_184j hm h H locs ls hP hS hl => ?_) (fun j_184 J_184 h => ?_)
          · have hM_w := hM_w.trans hm
            have hM_w_65 := hm
            have ha_q_54 := hm.2 _ ha_q_54
            refine y_iinc (lv' := fun (v_184 : Int32) => [(8, .int v_184), (7, .int v_37), (6, .int v_29), (5, .int v_15), (0, .ref (ad 4)), (1, .int a1), (2, .int a2)]) h F ic_1 dX10_goOn_184 hl (kq := 0) rfl (Nat.le_of_ble_eq_true rfl) (fun _ => rfl) (fun v_184 ls hl h => ?_)
            refine lv_goto (tgt := 42) hx hb dX10_goOn_187 (by decide) ?_
            exact ih_42 w_184j v_184 hM_w h _ _ _ hP hS (lv_sub hl [0, 1, 2, 3, 4, 5, 6] rfl)
          · refine lv_if_ne (tgt := 184) hx hb dX10_goOn_112 (by decide) (fun hc => ?_) (fun hc => ?_)
            · have h := if_f _ hc h
              exact J_184 w_65 mono.refl h _ _ _ hP hS (lv_sub hl [4, 5, 6, 7, 8, 9, 10] rfl)
            · have h := if_t _ hc h
              refine lv_aload_n hx hb dX10_goOn_115 rfl (lv_at hl 8 rfl) ?_
              refine x_getr F hP k_4 (hP.al 4 rfl) fl_X10_28 rfl r_4_0 dX10_goOn_116 ?_
              refine lv_aload_n hx hb dX10_goOn_119 rfl (lv_at hl 8 rfl) ?_
              refine y_getd h F hP k_4 (n2 (hP.al 4 rfl)) fl_X10_40 rfl dX10_goOn_120 (fun q_120 hk_q_120 ha_q_120 h => ?_)
              refine lv_iload hx hb dX10_goOn_123 (lv_at hl 3 rfl) ?_
              refine lv_iload hx hb dX10_goOn_125 (lv_at hl 2 rfl) ?_
              refine lv_iload hx hb dX10_goOn_127 (lv_at hl 1 rfl) ?_
              obtain ⟨v_129, w_129, hc_129, h⟩ := bi_s h
              refine x_goes (x_runV (As := [.ref (ad q_120), .int v_72, .int v_81, .int v_90]) (rest := []) F hP hS (c_X3_firstMet l D cT lo w_65 ad q_120 hk_q_120 ha_q_120 v_72 v_81 v_90 v_129 w_129 hc_129) cw_X3_firstMet lk_X10_110 vi_X3_firstMet k_3 (n2 (hP.al 3 rfl)) rfl ⟨rfl, rfl, Nat.le_of_ble_eq_true rfl, Nat.le_of_ble_eq_true rfl⟩ hl.1 rfl (Nat.le_of_ble_eq_true rfl) dX10_goOn_129 ⟨Nat.zero_le _, Nat.zero_le _⟩) hS (fun H locs hP hS hm => ?_)
              have hM_w := hM_w.trans hm
              have hM_w_65 := hm
              have ha_q_54 := hm.2 _ ha_q_54
              have ha_q_120 := hm.2 _ ha_q_120
              refine lv_if_eq (tgt := 138) hx hb dX10_goOn_132 (by decide) (fun hc => ?_) (fun hc => ?_)
              · have h := if_t _ hc h
                refine lv_aload_n hx hb dX10_goOn_138 rfl (lv_at hl 8 rfl) ?_
                refine y_geti h F hP k_4 (n2 (hP.al 4 rfl)) fl_X10_51 rfl dX10_goOn_139 (fun v_139 h => ?_)
                refine lv_sipush (v := 1500) hx hb dX10_goOn_142 is_1500 ?_
                refine lv_icmp_lt (tgt := 151) hx hb dX10_goOn_145 (by decide) (fun hc => ?_) (fun hc => ?_)
                · have h := if_t _ hc h
                  refine lv_aload_n hx hb dX10_goOn_151 rfl (lv_at hl 8 rfl) ?_
                  refine lv_lload hx hb dX10_goOn_152 (lv_at hl 0 rfl) ?_
                  refine lv_iload_n hx hb dX10_goOn_154 rfl (lv_at hl 9 rfl) ?_
                  refine lv_bipush (v := 16) hx hb dX10_goOn_155 ib_16 ?_
                  refine lv_imul hx hb dX10_goOn_157 ?_
                  refine lv_iload hx hb dX10_goOn_158 (lv_at hl 4 rfl) ?_
                  refine lv_iadd hx hb dX10_goOn_160 ?_
                  obtain ⟨w_161, hc_161, h⟩ := bo_s h
                  refine x_goes (x_runV (As := [.long v_104, .int ((a1 * (16 : Int32)) + x8_42l)]) (rest := []) F hP hS (c_X10_note l D cT lo w_129 ad v_104 ((a1 * (16 : Int32)) + x8_42l) w_161 hc_161) cw_X10_note lk_X10_75 vi_X10_note k_4 (n2 (hP.al 4 rfl)) rfl ⟨rfl, rfl, Nat.le_of_ble_eq_true rfl, Nat.le_of_ble_eq_true rfl⟩ hl.1 rfl (Nat.le_of_ble_eq_true rfl) dX10_goOn_161 ⟨Nat.zero_le _, Nat.zero_le _⟩) hS (fun H locs hP hS hm => ?_)
                  have hM_w := hM_w.trans hm
                  have hM_w_65 := hM_w_65.trans hm
                  have ha_q_54 := hm.2 _ ha_q_54
                  have ha_q_120 := hm.2 _ ha_q_120
                  refine lv_aload_n hx hb dX10_goOn_164 rfl (lv_at hl 8 rfl) ?_
                  refine lv_iload hx hb dX10_goOn_165 (lv_at hl 3 rfl) ?_
                  refine lv_iload hx hb dX10_goOn_167 (lv_at hl 2 rfl) ?_
                  refine lv_iload hx hb dX10_goOn_169 (lv_at hl 1 rfl) ?_
                  obtain ⟨v_171, hc_171, h⟩ := bo_s h
                  refine x_goesZ (x_runV (As := [.int v_72, .int v_81, .int v_90]) (rest := []) F hP hS (c_X10_isGoal l D cT lo w_161 ad v_72 v_81 v_90 v_171 hc_171) cw_X10_isGoal lk_X10_79 vi_X10_isGoal k_4 (n2 (hP.al 4 rfl)) rfl ⟨rfl, rfl, Nat.le_of_ble_eq_true rfl, Nat.le_of_ble_eq_true rfl⟩ hl.1 rfl (Nat.le_of_ble_eq_true rfl) dX10_goOn_171 ⟨Nat.zero_le _, Nat.zero_le _⟩) hS (fun H locs hz_171 hP hS _ => ?_)
                  refine lv_if_eq (tgt := 184) hx hb dX10_goOn_174 (by decide) (fun hc => ?_) (fun hc => ?_)
                  · have h := if_t _ hc h
                    exact J_184 w_161 hM_w_65 h _ _ _ hP hS (lv_sub hl [4, 5, 6, 7, 8, 9, 10] rfl)
                  · have h := if_f _ hc h
                    exact J_177 w_161 hM_w h _ _ _ hP hS (lv_sub hl [8, 10] rfl)
                · have h := if_f _ hc h
                  refine lv_bipush (v := -5) hx hb dX10_goOn_148 ib_m5 ?_
                  exact y_iretM h F hr hP hS hM_w hlk dX10_goOn_150
              · have h := if_f _ hc h
                refine lv_goto (tgt := 184) hx hb dX10_goOn_135 (by decide) ?_
                exact J_184 w_129 hM_w_65 h _ _ _ hP hS (lv_sub hl [4, 5, 6, 7, 8, 9, 10] rfl)
    exact L_42 FU w (0 : Int32) mono.refl h _ _ _ hP hS (lv_sub hl [0, 1, 2, 3, 5, 6, 7] rfl)
def l_X10_find_111 (x5_98l : Int32) (v_106 : Int32) (j_143 : Wd → Int32 → Option (Int32 × Wd)) : Nat → Wd → Int32 → Option (Int32 × Wd)
  | 0, _, _ => none
  | n_111 + 1, w_111l, x4_111l =>
    if v_106 ≤ x4_111l then
    j_143 w_111l x4_111l
    else
    q_bi (f_X10_goOn w_111l x4_111l x5_98l) (fun v_123 w_123 =>
    if v_123 = (-1 : Int32) then
    q_lt (x4_111l + (1 : Int32)) (fun v_137 =>
    l_X10_find_111 x5_98l v_106 j_143 n_111 w_123 v_137)
    else
    some (v_123, w_123))
def l_X10_find_98  : Nat → Wd → Int32 → Int32 → Option (Int32 × Wd)
  | 0, _, _, _ => none
  | n_98 + 1, w_98l, x5_98l, x4_98l =>
    if (12 : Int32) < x5_98l then
    some ((-3 : Int32), w_98l)
    else
    q_gt w_98l 4 5 (fun v_106 =>
    q_jn (fun (w_143j : Wd) (x4_143 : Int32) =>
    q_lt (x5_98l + (1 : Int32)) (fun v_143 =>
    l_X10_find_98 n_98 w_143j v_143 x4_143)) (fun j_143 =>
    l_X10_find_111 x5_98l v_106 j_143 FU w_98l x4_98l))
def f_X10_find (w : Wd) (a1 : Nat) (a2 : Nat) (a3 : Int32) : Option (Int32 × Wd) :=
if 0 < a1 ∧ a1 < 100000 then
q_pt w 4 8 (nI a1) (fun w_2 =>
if 0 < a2 ∧ a2 < 100000 then
q_pt w_2 4 9 (nI a2) (fun w_7 =>
q_pt w_7 4 10 a3 (fun w_12 =>
q_pt w_12 4 5 (0 : Int32) (fun w_17 =>
q_bo (f_J7_fill_53178 w_17 27 1024 (-1 : Int32)) (fun w_25 =>
q_gd w_25 4 8 (fun q_30 =>
q_gt w_25 q_30 9 (fun v_33 =>
q_gd w_25 4 8 (fun q_37 =>
q_gt w_25 q_37 10 (fun v_40 =>
q_gd w_25 4 8 (fun q_44 =>
q_gt w_25 q_44 11 (fun v_47 =>
q_bo (f_X10_note w_25 (f_X10_standingOf v_33 v_40 v_47) (0 : Int32)) (fun w_54 =>
q_gd w_54 4 8 (fun q_59 =>
q_gt w_54 q_59 9 (fun v_62 =>
q_gd w_54 4 8 (fun q_66 =>
q_gt w_54 q_66 10 (fun v_69 =>
q_gd w_54 4 8 (fun q_73 =>
q_gt w_54 q_73 11 (fun v_76 =>
q_bo (f_X10_isGoal w_54 v_62 v_69 v_76) (fun v_79 =>
if v_79 = 0 then
l_X10_find_98 FU w_54 (1 : Int32) (0 : Int32)
else
q_pt w_54 4 7 (0 : Int32) (fun w_87 =>
some ((0 : Int32), w_87))))))))))))))))))))
else none)
else none
set_option maxRecDepth 100000 in
set_option maxHeartbeats 4000000 in
theorem c_X10_find (l : Launch) (D : va_G) (cT : Nat → ClassId) (lo : Nat) (w : Wd) (ad : Nat → Nat) (a1 : Nat) (hk1 : kt a1 = (11, 0)) (ha1 : wA w a1 = 2) (a2 : Nat) (hk2 : kt a2 = (10, 0)) (ha2 : wA w a2 = 2) (a3 : Int32) (r : Int32) (w9 : Wd) (h : f_X10_find w a1 a2 a3 = some (r, w9)) : Met l yX10_find (.code yX10_find cX10_find 8 (some .int) :: TW) { frames := 6, cells := 0, slots := 0, locals := 157 } (mPc D cT lo NB w ad [.ref (ad 4), .ref (ad a1), .ref (ad a2), .int a3]) (mQ D cT lo NB w w9 ad (some (.int r))) 0 0 (fun q => lo ≤ q) := by
  unfold f_X10_find at h
  refine x_met (lv := [(0, .ref (ad 4)), (1, .ref (ad a1)), (2, .ref (ad a2)), (3, .int a3)]) (by decide +kernel) (Nat.le_of_ble_eq_true rfl) rfl ?_
  intro p e s m args below meth c ls F hr hlk hP hin hl
  have hx := F.1
  have hb := F.2.1
  have hS : va_S (fun q => lo ≤ q) s.heap s.heap [] := va_S.rf
  have hM_w : mono w w := mono.refl
  refine lv_aload_n hx hb dX10_find_0 rfl (lv_at hl 0 rfl) ?_
  refine lv_aload_n hx hb dX10_find_1 rfl (lv_at hl 1 rfl) ?_
  obtain ⟨hs, h⟩ := if_s _ h
  refine y_putd h F hP hS k_4 (n2 (hP.al 4 rfl)) fl_X10_40 rfl hs.1 hs.2 ha1 hk1 dX10_find_2 (fun w_2 H locs hm h hP hS => ?_)
  have hM_w := hm
  have ha1 := hm.2 _ ha1
  have ha2 := hm.2 _ ha2
  refine lv_aload_n hx hb dX10_find_5 rfl (lv_at hl 0 rfl) ?_
  refine lv_aload_n hx hb dX10_find_6 rfl (lv_at hl 2 rfl) ?_
  obtain ⟨hs, h⟩ := if_s _ h
  refine y_putd h F hP hS k_4 (n2 (hP.al 4 rfl)) fl_X10_44 rfl hs.1 hs.2 ha2 hk2 dX10_find_7 (fun w_7 H locs hm h hP hS => ?_)
  have hM_w := hM_w.trans hm
  have ha1 := hm.2 _ ha1
  have ha2 := hm.2 _ ha2
  refine lv_aload_n hx hb dX10_find_10 rfl (lv_at hl 0 rfl) ?_
  refine lv_iload_n hx hb dX10_find_11 rfl (lv_at hl 3 rfl) ?_
  refine y_puti h F hP hS k_4 (n2 (hP.al 4 rfl)) fl_X10_48 rfl dX10_find_12 (fun w_12 H locs hm h hP hS => ?_)
  have hM_w := hM_w.trans hm
  have ha1 := hm.2 _ ha1
  have ha2 := hm.2 _ ha2
  refine lv_aload_n hx hb dX10_find_15 rfl (lv_at hl 0 rfl) ?_
  refine lv_iconst (v := 0) hx hb dX10_find_16 ic_0 ?_
  refine y_puti h F hP hS k_4 (n2 (hP.al 4 rfl)) fl_X10_51 rfl dX10_find_17 (fun w_17 H locs hm h hP hS => ?_)
  have hM_w := hM_w.trans hm
  have ha1 := hm.2 _ ha1
  have ha2 := hm.2 _ ha2
  refine lv_aload_n hx hb dX10_find_20 rfl (lv_at hl 0 rfl) ?_
  refine x_getr F hP k_4 (hP.al 4 rfl) fl_X10_22 rfl r_4_4 dX10_find_21 ?_
  refine lv_iconst (v := -1) hx hb dX10_find_24 ic_m1 ?_
  obtain ⟨w_25, hc_25, h⟩ := bo_s h
  refine x_goes (x_runS (As := [.ref (ad 27), .int (-1 : Int32)]) (rest := []) F hP hS (c_J7_fill_53178 l D cT lo NB w_17 ad 27 1024 k_27 (hP.al 27 rfl) (-1 : Int32) w_25 hc_25) cw_J7_fill_53178 lk_X10_54 st_J7_fill_53178 ⟨rfl, rfl, Nat.le_of_ble_eq_true rfl, Nat.le_of_ble_eq_true rfl⟩ hl.1 rfl (Nat.le_of_ble_eq_true rfl) dX10_find_25 ⟨Nat.zero_le _, Nat.zero_le _⟩) hS (fun H locs hP hS hm => ?_)
  have hM_w := hM_w.trans hm
  have ha1 := hm.2 _ ha1
  have ha2 := hm.2 _ ha2
  refine lv_aload_n hx hb dX10_find_28 rfl (lv_at hl 0 rfl) ?_
  refine lv_aload_n hx hb dX10_find_29 rfl (lv_at hl 0 rfl) ?_
  refine y_getd h F hP k_4 (n2 (hP.al 4 rfl)) fl_X10_40 rfl dX10_find_30 (fun q_30 hk_q_30 ha_q_30 h => ?_)
  refine y_geti h F hP hk_q_30 (n2 ha_q_30) fl_X10_60 rfl dX10_find_33 (fun v_33 h => ?_)
  refine lv_aload_n hx hb dX10_find_36 rfl (lv_at hl 0 rfl) ?_
  refine y_getd h F hP k_4 (n2 (hP.al 4 rfl)) fl_X10_40 rfl dX10_find_37 (fun q_37 hk_q_37 ha_q_37 h => ?_)
  refine y_geti h F hP hk_q_37 (n2 ha_q_37) fl_X10_65 rfl dX10_find_40 (fun v_40 h => ?_)
  refine lv_aload_n hx hb dX10_find_43 rfl (lv_at hl 0 rfl) ?_
  refine y_getd h F hP k_4 (n2 (hP.al 4 rfl)) fl_X10_40 rfl dX10_find_44 (fun q_44 hk_q_44 ha_q_44 h => ?_)
  refine y_geti h F hP hk_q_44 (n2 ha_q_44) fl_X10_68 rfl dX10_find_47 (fun v_47 h => ?_)
  refine x_goes (x_runS (As := [.int v_33, .int v_40, .int v_47]) (rest := [.ref (ad 4)]) F hP hS (c_X10_standingOf l D cT lo NB w_25 ad v_33 v_40 v_47) cw_X10_standingOf lk_X10_71 st_X10_standingOf ⟨rfl, rfl, Nat.le_of_ble_eq_true rfl, Nat.le_of_ble_eq_true rfl⟩ hl.1 rfl (Nat.le_of_ble_eq_true rfl) dX10_find_50 ⟨Nat.zero_le _, Nat.zero_le _⟩) hS (fun H locs hP hS _ => ?_)
  refine lv_iconst (v := 0) hx hb dX10_find_53 ic_0 ?_
  obtain ⟨w_54, hc_54, h⟩ := bo_s h
  refine x_goes (x_runV (As := [.long (f_X10_standingOf v_33 v_40 v_47), .int (0 : Int32)]) (rest := []) F hP hS (c_X10_note l D cT lo w_25 ad (f_X10_standingOf v_33 v_40 v_47) (0 : Int32) w_54 hc_54) cw_X10_note lk_X10_75 vi_X10_note k_4 (n2 (hP.al 4 rfl)) rfl ⟨rfl, rfl, Nat.le_of_ble_eq_true rfl, Nat.le_of_ble_eq_true rfl⟩ hl.1 rfl (Nat.le_of_ble_eq_true rfl) dX10_find_54 ⟨Nat.zero_le _, Nat.zero_le _⟩) hS (fun H locs hP hS hm => ?_)
  have hM_w := hM_w.trans hm
  have ha1 := hm.2 _ ha1
  have ha2 := hm.2 _ ha2
  have ha_q_30 := hm.2 _ ha_q_30
  have ha_q_37 := hm.2 _ ha_q_37
  have ha_q_44 := hm.2 _ ha_q_44
  refine lv_aload_n hx hb dX10_find_57 rfl (lv_at hl 0 rfl) ?_
  refine lv_aload_n hx hb dX10_find_58 rfl (lv_at hl 0 rfl) ?_
  refine y_getd h F hP k_4 (n2 (hP.al 4 rfl)) fl_X10_40 rfl dX10_find_59 (fun q_59 hk_q_59 ha_q_59 h => ?_)
  refine y_geti h F hP hk_q_59 (n2 ha_q_59) fl_X10_60 rfl dX10_find_62 (fun v_62 h => ?_)
  refine lv_aload_n hx hb dX10_find_65 rfl (lv_at hl 0 rfl) ?_
  refine y_getd h F hP k_4 (n2 (hP.al 4 rfl)) fl_X10_40 rfl dX10_find_66 (fun q_66 hk_q_66 ha_q_66 h => ?_)
  refine y_geti h F hP hk_q_66 (n2 ha_q_66) fl_X10_65 rfl dX10_find_69 (fun v_69 h => ?_)
  refine lv_aload_n hx hb dX10_find_72 rfl (lv_at hl 0 rfl) ?_
  refine y_getd h F hP k_4 (n2 (hP.al 4 rfl)) fl_X10_40 rfl dX10_find_73 (fun q_73 hk_q_73 ha_q_73 h => ?_)
  refine y_geti h F hP hk_q_73 (n2 ha_q_73) fl_X10_68 rfl dX10_find_76 (fun v_76 h => ?_)
  obtain ⟨v_79, hc_79, h⟩ := bo_s h
  refine x_goesZ (x_runV (As := [.int v_62, .int v_69, .int v_76]) (rest := []) F hP hS (c_X10_isGoal l D cT lo w_54 ad v_62 v_69 v_76 v_79 hc_79) cw_X10_isGoal lk_X10_79 vi_X10_isGoal k_4 (n2 (hP.al 4 rfl)) rfl ⟨rfl, rfl, Nat.le_of_ble_eq_true rfl, Nat.le_of_ble_eq_true rfl⟩ hl.1 rfl (Nat.le_of_ble_eq_true rfl) dX10_find_79 ⟨Nat.zero_le _, Nat.zero_le _⟩) hS (fun H locs hz_79 hP hS _ => ?_)
  refine lv_if_eq (tgt := 92) hx hb dX10_find_82 (by decide) (fun hc => ?_) (fun hc => ?_)
  · have h := if_t _ hc h
    refine lv_iconst (v := 0) hx hb dX10_find_92 ic_0 ?_
    refine lv_istore (lv' := [(4, .int (0 : Int32)), (0, .ref (ad 4)), (1, .ref (ad a1)), (2, .ref (ad a2)), (3, .int a3)]) hx hb dX10_find_93 hl (Nat.le_of_ble_eq_true rfl) rfl (fun ls hl => ?_)
    refine lv_iconst (v := 1) hx hb dX10_find_95 ic_1 ?_
    refine lv_istore (lv' := [(5, .int (1 : Int32)), (4, .int (0 : Int32)), (0, .ref (ad 4)), (1, .ref (ad a1)), (2, .ref (ad a2)), (3, .int a3)]) hx hb dX10_find_96 hl (Nat.le_of_ble_eq_true rfl) rfl (fun ls hl => ?_)
    have L_98 : ∀ (n_98 : Nat) (w_98l : Wd) (x5_98l : Int32) (x4_98l : Int32), mono w_54 w_98l → l_X10_find_98 n_98 w_98l x5_98l x4_98l = some (r, w9) → GG p l e { frames := 6, cells := 0, slots := 0, locals := 157 } s m args below meth c 0 0 (MQ below (mQ D cT lo NB w w9 ad (some (.int r))) args s 0 0 (fun q => lo ≤ q)) D cT lo NB 8 ad w_98l 98 [(5, .int x5_98l), (4, .int x4_98l), (0, .ref (ad 4))] [] := by
      intro n_98
      induction n_98 with
      | zero =>
        intro w_98l x5_98l x4_98l _ h
        exact absurd h (by unfold l_X10_find_98; exact fun z => by cases z)
      | succ n_98 ih_98 =>
        intro w_98l x5_98l x4_98l hm h H locs ls hP hS hl
        unfold l_X10_find_98 at h
        have hM_w := hM_w.trans hm
        have hM_w_54 := hm
        have ha1 := hm.2 _ ha1
        have ha2 := hm.2 _ ha2
        have ha_q_30 := hm.2 _ ha_q_30
        have ha_q_37 := hm.2 _ ha_q_37
        have ha_q_44 := hm.2 _ ha_q_44
        have ha_q_59 := hm.2 _ ha_q_59
        have ha_q_66 := hm.2 _ ha_q_66
        have ha_q_73 := hm.2 _ ha_q_73
        refine lv_iload hx hb dX10_find_98 (lv_at hl 0 rfl) ?_
        refine lv_bipush (v := 12) hx hb dX10_find_100 ib_12 ?_
        refine lv_icmp_gt (tgt := 149) hx hb dX10_find_102 (by decide) (fun hc => ?_) (fun hc => ?_)
        · have h := if_t _ hc h
          refine lv_bipush (v := -3) hx hb dX10_find_149 ib_m3 ?_
          exact y_iretM h F hr hP hS hM_w hlk dX10_find_151
        · have h := if_f _ hc h
          refine lv_aload_n hx hb dX10_find_105 rfl (lv_at hl 2 rfl) ?_
          refine y_geti h F hP k_4 (n2 (hP.al 4 rfl)) fl_X10_51 rfl dX10_find_106 (fun v_106 h => ?_)
          refine lv_istore (lv' := [(6, .int v_106), (5, .int x5_98l), (4, .int x4_98l), (0, .ref (ad 4))]) hx hb dX10_find_109 hl (Nat.le_of_ble_eq_true rfl) rfl (fun ls hl => ?_)
          refine jn_use (fun (j_143 : Wd → Int32 → Option (Int32 × Wd)) => ∀ (w_143j : Wd) (x4_143 : Int32), mono w_98l w_143j → j_143 w_143j x4_143 = some (r, w9) → GG p l e { frames := 6, cells := 0, slots := 0, locals := 157 } s m args below meth c 0 0 (MQ below (mQ D cT lo NB w w9 ad (some (.int r))) args s 0 0 (fun q => lo ≤ q)) D cT lo NB 8 ad w_143j 143 [(5, .int x5_98l), (4, .int x4_143), (0, .ref (ad 4))] []) h (fun w_143j x4_143 hm h H locs ls hP hS hl => ?_) (fun j_143 J_143 h => ?_)
          · have hM_w := hM_w.trans hm
            have hM_w_54 := hM_w_54.trans hm
            have hM_w_98l := hm
            have ha1 := hm.2 _ ha1
            have ha2 := hm.2 _ ha2
            have ha_q_30 := hm.2 _ ha_q_30
            have ha_q_37 := hm.2 _ ha_q_37
            have ha_q_44 := hm.2 _ ha_q_44
            have ha_q_59 := hm.2 _ ha_q_59
            have ha_q_66 := hm.2 _ ha_q_66
            have ha_q_73 := hm.2 _ ha_q_73
            refine y_iinc (lv' := fun (v_143 : Int32) => [(5, .int v_143), (4, .int x4_143), (0, .ref (ad 4))]) h F ic_1 dX10_find_143 hl (kq := 0) rfl (Nat.le_of_ble_eq_true rfl) (fun _ => rfl) (fun v_143 ls hl h => ?_)
            refine lv_goto (tgt := 98) hx hb dX10_find_146 (by decide) ?_
            exact ih_98 w_143j v_143 x4_143 hM_w_54 h _ _ _ hP hS (lv_sub hl [0, 1, 2] rfl)
          · have L_111 : ∀ (n_111 : Nat) (w_111l : Wd) (x4_111l : Int32), mono w_98l w_111l → l_X10_find_111 x5_98l v_106 j_143 n_111 w_111l x4_111l = some (r, w9) → GG p l e { frames := 6, cells := 0, slots := 0, locals := 157 } s m args below meth c 0 0 (MQ below (mQ D cT lo NB w w9 ad (some (.int r))) args s 0 0 (fun q => lo ≤ q)) D cT lo NB 8 ad w_111l 111 [(6, .int v_106), (5, .int x5_98l), (4, .int x4_111l), (0, .ref (ad 4))] [] := by
              intro n_111
              induction n_111 with
              | zero =>
                intro w_111l x4_111l _ h
                exact absurd h (by unfold l_X10_find_111; exact fun z => by cases z)
              | succ n_111 ih_111 =>
                intro w_111l x4_111l hm h H locs ls hP hS hl
                unfold l_X10_find_111 at h
                have hM_w := hM_w.trans hm
                have hM_w_54 := hM_w_54.trans hm
                have hM_w_98l := hm
                have ha1 := hm.2 _ ha1
                have ha2 := hm.2 _ ha2
                have ha_q_30 := hm.2 _ ha_q_30
                have ha_q_37 := hm.2 _ ha_q_37
                have ha_q_44 := hm.2 _ ha_q_44
                have ha_q_59 := hm.2 _ ha_q_59
                have ha_q_66 := hm.2 _ ha_q_66
                have ha_q_73 := hm.2 _ ha_q_73
                refine lv_iload hx hb dX10_find_111 (lv_at hl 2 rfl) ?_
                refine lv_iload hx hb dX10_find_113 (lv_at hl 0 rfl) ?_
                refine lv_icmp_ge (tgt := 143) hx hb dX10_find_115 (by decide) (fun hc => ?_) (fun hc => ?_)
                · have h := if_t _ hc h
                  exact J_143 w_111l x4_111l hM_w_98l h _ _ _ hP hS (lv_sub hl [1, 2, 3] rfl)
                · have h := if_f _ hc h
                  refine lv_aload_n hx hb dX10_find_118 rfl (lv_at hl 3 rfl) ?_
                  refine lv_iload hx hb dX10_find_119 (lv_at hl 2 rfl) ?_
                  refine lv_iload hx hb dX10_find_121 (lv_at hl 1 rfl) ?_
                  obtain ⟨v_123, w_123, hc_123, h⟩ := bi_s h
                  refine x_goes (x_runV (As := [.int x4_111l, .int x5_98l]) (rest := []) F hP hS (c_X10_goOn l D cT lo w_111l ad x4_111l x5_98l v_123 w_123 hc_123) cw_X10_goOn lk_X10_82 vi_X10_goOn k_4 (n2 (hP.al 4 rfl)) rfl ⟨rfl, rfl, Nat.le_of_ble_eq_true rfl, Nat.le_of_ble_eq_true rfl⟩ hl.1 rfl (Nat.le_of_ble_eq_true rfl) dX10_find_123 ⟨Nat.zero_le _, Nat.zero_le _⟩) hS (fun H locs hP hS hm => ?_)
                  have hM_w := hM_w.trans hm
                  have hM_w_54 := hM_w_54.trans hm
                  have hM_w_98l := hM_w_98l.trans hm
                  have ha1 := hm.2 _ ha1
                  have ha2 := hm.2 _ ha2
                  have ha_q_30 := hm.2 _ ha_q_30
                  have ha_q_37 := hm.2 _ ha_q_37
                  have ha_q_44 := hm.2 _ ha_q_44
                  have ha_q_59 := hm.2 _ ha_q_59
                  have ha_q_66 := hm.2 _ ha_q_66
                  have ha_q_73 := hm.2 _ ha_q_73
                  refine lv_istore (lv' := [(7, .int v_123), (6, .int v_106), (5, .int x5_98l), (4, .int x4_111l), (0, .ref (ad 4))]) hx hb dX10_find_126 hl (Nat.le_of_ble_eq_true rfl) rfl (fun ls hl => ?_)
                  refine lv_iload hx hb dX10_find_128 (lv_at hl 0 rfl) ?_
                  refine lv_iconst (v := -1) hx hb dX10_find_130 ic_m1 ?_
                  refine lv_icmp_eq (tgt := 137) hx hb dX10_find_131 (by decide) (fun hc => ?_) (fun hc => ?_)
                  · have h := if_t _ hc h
                    refine y_iinc (lv' := fun (v_137 : Int32) => [(4, .int v_137), (7, .int v_123), (6, .int v_106), (5, .int x5_98l), (0, .ref (ad 4))]) h F ic_1 dX10_find_137 hl (kq := 3) rfl (Nat.le_of_ble_eq_true rfl) (fun _ => rfl) (fun v_137 ls hl h => ?_)
                    refine lv_goto (tgt := 111) hx hb dX10_find_140 (by decide) ?_
                    exact ih_111 w_123 v_137 hM_w_98l h _ _ _ hP hS (lv_sub hl [2, 3, 0, 4] rfl)
                  · have h := if_f _ hc h
                    refine lv_iload hx hb dX10_find_134 (lv_at hl 0 rfl) ?_
                    exact y_iretM h F hr hP hS hM_w hlk dX10_find_136
            exact L_111 FU w_98l x4_98l mono.refl h _ _ _ hP hS (lv_sub hl [0, 1, 2, 3] rfl)
    exact L_98 FU w_54 (1 : Int32) (0 : Int32) mono.refl h _ _ _ hP hS (lv_sub hl [0, 1, 2] rfl)
  · have h := if_f _ hc h
    refine lv_aload_n hx hb dX10_find_85 rfl (lv_at hl 0 rfl) ?_
    refine lv_iconst (v := 0) hx hb dX10_find_86 ic_0 ?_
    refine y_puti h F hP hS k_4 (n2 (hP.al 4 rfl)) fl_X10_32 rfl dX10_find_87 (fun w_87 H locs hm h hP hS => ?_)
    have hM_w := hM_w.trans hm
    have ha1 := hm.2 _ ha1
    have ha2 := hm.2 _ ha2
    have ha_q_30 := hm.2 _ ha_q_30
    have ha_q_37 := hm.2 _ ha_q_37
    have ha_q_44 := hm.2 _ ha_q_44
    have ha_q_59 := hm.2 _ ha_q_59
    have ha_q_66 := hm.2 _ ha_q_66
    have ha_q_73 := hm.2 _ ha_q_73
    refine lv_iconst (v := 0) hx hb dX10_find_90 ic_0 ?_
    exact y_iretM h F hr hP hS hM_w hlk dX10_find_91
