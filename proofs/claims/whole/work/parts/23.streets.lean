theorem dX8_houseMet_0 : decode cX8_houseMet 0 = .ok (.iconst 0, 1) := by decide +kernel
theorem dX8_houseMet_1 : decode cX8_houseMet 1 = .ok (.istore_n 2, 1) := by decide +kernel
theorem dX8_houseMet_2 : decode cX8_houseMet 2 = .ok (.iload_n 2, 1) := by decide +kernel
theorem dX8_houseMet_3 : decode cX8_houseMet 3 = .ok (.aload_n 0, 1) := by decide +kernel
theorem dX8_houseMet_4 : decode cX8_houseMet 4 = .ok (.getfield 60, 3) := by decide +kernel
theorem dX8_houseMet_7 : decode cX8_houseMet 7 = .ok (.if_icmp .ge 60, 3) := by decide +kernel
theorem dX8_houseMet_10 : decode cX8_houseMet 10 = .ok (.iconst 0, 1) := by decide +kernel
theorem dX8_houseMet_11 : decode cX8_houseMet 11 = .ok (.istore_n 3, 1) := by decide +kernel
theorem dX8_houseMet_12 : decode cX8_houseMet 12 = .ok (.iload_n 3, 1) := by decide +kernel
theorem dX8_houseMet_13 : decode cX8_houseMet 13 = .ok (.aload_n 1, 1) := by decide +kernel
theorem dX8_houseMet_14 : decode cX8_houseMet 14 = .ok (.getfield 84, 3) := by decide +kernel
theorem dX8_houseMet_17 : decode cX8_houseMet 17 = .ok (.if_icmp .ge 44, 3) := by decide +kernel
theorem dX8_houseMet_20 : decode cX8_houseMet 20 = .ok (.aload_n 0, 1) := by decide +kernel
theorem dX8_houseMet_21 : decode cX8_houseMet 21 = .ok (.getfield 17, 3) := by decide +kernel
theorem dX8_houseMet_24 : decode cX8_houseMet 24 = .ok (.iload_n 2, 1) := by decide +kernel
theorem dX8_houseMet_25 : decode cX8_houseMet 25 = .ok (.iaload, 1) := by decide +kernel
theorem dX8_houseMet_26 : decode cX8_houseMet 26 = .ok (.aload_n 1, 1) := by decide +kernel
theorem dX8_houseMet_27 : decode cX8_houseMet 27 = .ok (.iload_n 3, 1) := by decide +kernel
theorem dX8_houseMet_28 : decode cX8_houseMet 28 = .ok (.invokevirtual 89, 3) := by decide +kernel
theorem dX8_houseMet_31 : decode cX8_houseMet 31 = .ok (.if_icmp .le 24, 3) := by decide +kernel
theorem dX8_houseMet_34 : decode cX8_houseMet 34 = .ok (.aload_n 1, 1) := by decide +kernel
theorem dX8_houseMet_35 : decode cX8_houseMet 35 = .ok (.getfield 93, 3) := by decide +kernel
theorem dX8_houseMet_38 : decode cX8_houseMet 38 = .ok (.iload_n 3, 1) := by decide +kernel
theorem dX8_houseMet_39 : decode cX8_houseMet 39 = .ok (.aaload, 1) := by decide +kernel
theorem dX8_houseMet_40 : decode cX8_houseMet 40 = .ok (.aload_n 0, 1) := by decide +kernel
theorem dX8_houseMet_41 : decode cX8_houseMet 41 = .ok (.getfield 13, 3) := by decide +kernel
theorem dX8_houseMet_44 : decode cX8_houseMet 44 = .ok (.iload_n 2, 1) := by decide +kernel
theorem dX8_houseMet_45 : decode cX8_houseMet 45 = .ok (.aaload, 1) := by decide +kernel
theorem dX8_houseMet_46 : decode cX8_houseMet 46 = .ok (.iconst 0, 1) := by decide +kernel
theorem dX8_houseMet_47 : decode cX8_houseMet 47 = .ok (.invokevirtual 97, 3) := by decide +kernel
theorem dX8_houseMet_50 : decode cX8_houseMet 50 = .ok (.ifCond .eq 5, 3) := by decide +kernel
theorem dX8_houseMet_53 : decode cX8_houseMet 53 = .ok (.iload_n 2, 1) := by decide +kernel
theorem dX8_houseMet_54 : decode cX8_houseMet 54 = .ok (.ireturn, 1) := by decide +kernel
theorem dX8_houseMet_55 : decode cX8_houseMet 55 = .ok (.iinc 3 1, 3) := by decide +kernel
theorem dX8_houseMet_58 : decode cX8_houseMet 58 = .ok (.goto (-46), 3) := by decide +kernel
theorem dX8_houseMet_61 : decode cX8_houseMet 61 = .ok (.iinc 2 1, 3) := by decide +kernel
theorem dX8_houseMet_64 : decode cX8_houseMet 64 = .ok (.goto (-62), 3) := by decide +kernel
theorem dX8_houseMet_67 : decode cX8_houseMet 67 = .ok (.iconst (-1), 1) := by decide +kernel
theorem dX8_houseMet_68 : decode cX8_houseMet 68 = .ok (.ireturn, 1) := by decide +kernel
theorem dX8_eavesMet_0 : decode cX8_eavesMet 0 = .ok (.iconst 0, 1) := by decide +kernel
theorem dX8_eavesMet_1 : decode cX8_eavesMet 1 = .ok (.istore_n 2, 1) := by decide +kernel
theorem dX8_eavesMet_2 : decode cX8_eavesMet 2 = .ok (.iload_n 2, 1) := by decide +kernel
theorem dX8_eavesMet_3 : decode cX8_eavesMet 3 = .ok (.aload_n 0, 1) := by decide +kernel
theorem dX8_eavesMet_4 : decode cX8_eavesMet 4 = .ok (.getfield 60, 3) := by decide +kernel
theorem dX8_eavesMet_7 : decode cX8_eavesMet 7 = .ok (.if_icmp .ge 81, 3) := by decide +kernel
theorem dX8_eavesMet_10 : decode cX8_eavesMet 10 = .ok (.iconst 0, 1) := by decide +kernel
theorem dX8_eavesMet_11 : decode cX8_eavesMet 11 = .ok (.istore_n 3, 1) := by decide +kernel
theorem dX8_eavesMet_12 : decode cX8_eavesMet 12 = .ok (.iload_n 3, 1) := by decide +kernel
theorem dX8_eavesMet_13 : decode cX8_eavesMet 13 = .ok (.aload_n 1, 1) := by decide +kernel
theorem dX8_eavesMet_14 : decode cX8_eavesMet 14 = .ok (.getfield 84, 3) := by decide +kernel
theorem dX8_eavesMet_17 : decode cX8_eavesMet 17 = .ok (.if_icmp .ge 65, 3) := by decide +kernel
theorem dX8_eavesMet_20 : decode cX8_eavesMet 20 = .ok (.aload_n 0, 1) := by decide +kernel
theorem dX8_eavesMet_21 : decode cX8_eavesMet 21 = .ok (.getfield 21, 3) := by decide +kernel
theorem dX8_eavesMet_24 : decode cX8_eavesMet 24 = .ok (.iload_n 2, 1) := by decide +kernel
theorem dX8_eavesMet_25 : decode cX8_eavesMet 25 = .ok (.iaload, 1) := by decide +kernel
theorem dX8_eavesMet_26 : decode cX8_eavesMet 26 = .ok (.aload_n 1, 1) := by decide +kernel
theorem dX8_eavesMet_27 : decode cX8_eavesMet 27 = .ok (.iload_n 3, 1) := by decide +kernel
theorem dX8_eavesMet_28 : decode cX8_eavesMet 28 = .ok (.invokevirtual 103, 3) := by decide +kernel
theorem dX8_eavesMet_31 : decode cX8_eavesMet 31 = .ok (.if_icmp .ge 45, 3) := by decide +kernel
theorem dX8_eavesMet_34 : decode cX8_eavesMet 34 = .ok (.aload_n 1, 1) := by decide +kernel
theorem dX8_eavesMet_35 : decode cX8_eavesMet 35 = .ok (.iload_n 3, 1) := by decide +kernel
theorem dX8_eavesMet_36 : decode cX8_eavesMet 36 = .ok (.invokevirtual 89, 3) := by decide +kernel
theorem dX8_eavesMet_39 : decode cX8_eavesMet 39 = .ok (.aload_n 0, 1) := by decide +kernel
theorem dX8_eavesMet_40 : decode cX8_eavesMet 40 = .ok (.getfield 17, 3) := by decide +kernel
theorem dX8_eavesMet_43 : decode cX8_eavesMet 43 = .ok (.iload_n 2, 1) := by decide +kernel
theorem dX8_eavesMet_44 : decode cX8_eavesMet 44 = .ok (.iaload, 1) := by decide +kernel
theorem dX8_eavesMet_45 : decode cX8_eavesMet 45 = .ok (.iconst 5, 1) := by decide +kernel
theorem dX8_eavesMet_46 : decode cX8_eavesMet 46 = .ok (.iadd, 1) := by decide +kernel
theorem dX8_eavesMet_47 : decode cX8_eavesMet 47 = .ok (.if_icmp .ge 29, 3) := by decide +kernel
theorem dX8_eavesMet_50 : decode cX8_eavesMet 50 = .ok (.aload_n 1, 1) := by decide +kernel
theorem dX8_eavesMet_51 : decode cX8_eavesMet 51 = .ok (.getfield 93, 3) := by decide +kernel
theorem dX8_eavesMet_54 : decode cX8_eavesMet 54 = .ok (.iload_n 3, 1) := by decide +kernel
theorem dX8_eavesMet_55 : decode cX8_eavesMet 55 = .ok (.aaload, 1) := by decide +kernel
theorem dX8_eavesMet_56 : decode cX8_eavesMet 56 = .ok (.aload_n 0, 1) := by decide +kernel
theorem dX8_eavesMet_57 : decode cX8_eavesMet 57 = .ok (.getfield 13, 3) := by decide +kernel
theorem dX8_eavesMet_60 : decode cX8_eavesMet 60 = .ok (.iload_n 2, 1) := by decide +kernel
theorem dX8_eavesMet_61 : decode cX8_eavesMet 61 = .ok (.aaload, 1) := by decide +kernel
theorem dX8_eavesMet_62 : decode cX8_eavesMet 62 = .ok (.aload_n 0, 1) := by decide +kernel
theorem dX8_eavesMet_63 : decode cX8_eavesMet 63 = .ok (.getfield 24, 3) := by decide +kernel
theorem dX8_eavesMet_66 : decode cX8_eavesMet 66 = .ok (.iload_n 2, 1) := by decide +kernel
theorem dX8_eavesMet_67 : decode cX8_eavesMet 67 = .ok (.iaload, 1) := by decide +kernel
theorem dX8_eavesMet_68 : decode cX8_eavesMet 68 = .ok (.invokevirtual 97, 3) := by decide +kernel
theorem dX8_eavesMet_71 : decode cX8_eavesMet 71 = .ok (.ifCond .eq 5, 3) := by decide +kernel
theorem dX8_eavesMet_74 : decode cX8_eavesMet 74 = .ok (.iload_n 2, 1) := by decide +kernel
theorem dX8_eavesMet_75 : decode cX8_eavesMet 75 = .ok (.ireturn, 1) := by decide +kernel
theorem dX8_eavesMet_76 : decode cX8_eavesMet 76 = .ok (.iinc 3 1, 3) := by decide +kernel
theorem dX8_eavesMet_79 : decode cX8_eavesMet 79 = .ok (.goto (-67), 3) := by decide +kernel
theorem dX8_eavesMet_82 : decode cX8_eavesMet 82 = .ok (.iinc 2 1, 3) := by decide +kernel
theorem dX8_eavesMet_85 : decode cX8_eavesMet 85 = .ok (.goto (-83), 3) := by decide +kernel
theorem dX8_eavesMet_88 : decode cX8_eavesMet 88 = .ok (.iconst (-1), 1) := by decide +kernel
theorem dX8_eavesMet_89 : decode cX8_eavesMet 89 = .ok (.ireturn, 1) := by decide +kernel
theorem dX8_wireMet_0 : decode cX8_wireMet 0 = .ok (.iconst 0, 1) := by decide +kernel
theorem dX8_wireMet_1 : decode cX8_wireMet 1 = .ok (.istore_n 2, 1) := by decide +kernel
theorem dX8_wireMet_2 : decode cX8_wireMet 2 = .ok (.iload_n 2, 1) := by decide +kernel
theorem dX8_wireMet_3 : decode cX8_wireMet 3 = .ok (.aload_n 0, 1) := by decide +kernel
theorem dX8_wireMet_4 : decode cX8_wireMet 4 = .ok (.getfield 70, 3) := by decide +kernel
theorem dX8_wireMet_7 : decode cX8_wireMet 7 = .ok (.if_icmp .ge 83, 3) := by decide +kernel
theorem dX8_wireMet_10 : decode cX8_wireMet 10 = .ok (.iconst 0, 1) := by decide +kernel
theorem dX8_wireMet_11 : decode cX8_wireMet 11 = .ok (.istore_n 3, 1) := by decide +kernel
theorem dX8_wireMet_12 : decode cX8_wireMet 12 = .ok (.iload_n 3, 1) := by decide +kernel
theorem dX8_wireMet_13 : decode cX8_wireMet 13 = .ok (.aload_n 1, 1) := by decide +kernel
theorem dX8_wireMet_14 : decode cX8_wireMet 14 = .ok (.getfield 84, 3) := by decide +kernel
theorem dX8_wireMet_17 : decode cX8_wireMet 17 = .ok (.if_icmp .ge 67, 3) := by decide +kernel
theorem dX8_wireMet_20 : decode cX8_wireMet 20 = .ok (.aload_n 0, 1) := by decide +kernel
theorem dX8_wireMet_21 : decode cX8_wireMet 21 = .ok (.getfield 36, 3) := by decide +kernel
theorem dX8_wireMet_24 : decode cX8_wireMet 24 = .ok (.iload_n 2, 1) := by decide +kernel
theorem dX8_wireMet_25 : decode cX8_wireMet 25 = .ok (.baload, 1) := by decide +kernel
theorem dX8_wireMet_26 : decode cX8_wireMet 26 = .ok (.ifCond .ne 58, 3) := by decide +kernel
theorem dX8_wireMet_29 : decode cX8_wireMet 29 = .ok (.aload_n 0, 1) := by decide +kernel
theorem dX8_wireMet_30 : decode cX8_wireMet 30 = .ok (.getfield 33, 3) := by decide +kernel
theorem dX8_wireMet_33 : decode cX8_wireMet 33 = .ok (.iload_n 2, 1) := by decide +kernel
theorem dX8_wireMet_34 : decode cX8_wireMet 34 = .ok (.iaload, 1) := by decide +kernel
theorem dX8_wireMet_35 : decode cX8_wireMet 35 = .ok (.aload_n 1, 1) := by decide +kernel
theorem dX8_wireMet_36 : decode cX8_wireMet 36 = .ok (.iload_n 3, 1) := by decide +kernel
theorem dX8_wireMet_37 : decode cX8_wireMet 37 = .ok (.invokevirtual 89, 3) := by decide +kernel
theorem dX8_wireMet_40 : decode cX8_wireMet 40 = .ok (.if_icmp .le 38, 3) := by decide +kernel
theorem dX8_wireMet_43 : decode cX8_wireMet 43 = .ok (.aload_n 0, 1) := by decide +kernel
theorem dX8_wireMet_44 : decode cX8_wireMet 44 = .ok (.getfield 33, 3) := by decide +kernel
theorem dX8_wireMet_47 : decode cX8_wireMet 47 = .ok (.iload_n 2, 1) := by decide +kernel
theorem dX8_wireMet_48 : decode cX8_wireMet 48 = .ok (.iaload, 1) := by decide +kernel
theorem dX8_wireMet_49 : decode cX8_wireMet 49 = .ok (.aload_n 1, 1) := by decide +kernel
theorem dX8_wireMet_50 : decode cX8_wireMet 50 = .ok (.iload_n 3, 1) := by decide +kernel
theorem dX8_wireMet_51 : decode cX8_wireMet 51 = .ok (.invokevirtual 103, 3) := by decide +kernel
theorem dX8_wireMet_54 : decode cX8_wireMet 54 = .ok (.if_icmp .gt 24, 3) := by decide +kernel
theorem dX8_wireMet_57 : decode cX8_wireMet 57 = .ok (.aload_n 1, 1) := by decide +kernel
theorem dX8_wireMet_58 : decode cX8_wireMet 58 = .ok (.getfield 93, 3) := by decide +kernel
theorem dX8_wireMet_61 : decode cX8_wireMet 61 = .ok (.iload_n 3, 1) := by decide +kernel
theorem dX8_wireMet_62 : decode cX8_wireMet 62 = .ok (.aaload, 1) := by decide +kernel
theorem dX8_wireMet_63 : decode cX8_wireMet 63 = .ok (.aload_n 0, 1) := by decide +kernel
theorem dX8_wireMet_64 : decode cX8_wireMet 64 = .ok (.getfield 30, 3) := by decide +kernel
theorem dX8_wireMet_67 : decode cX8_wireMet 67 = .ok (.iload_n 2, 1) := by decide +kernel
theorem dX8_wireMet_68 : decode cX8_wireMet 68 = .ok (.aaload, 1) := by decide +kernel
theorem dX8_wireMet_69 : decode cX8_wireMet 69 = .ok (.iconst 0, 1) := by decide +kernel
theorem dX8_wireMet_70 : decode cX8_wireMet 70 = .ok (.invokevirtual 97, 3) := by decide +kernel
theorem dX8_wireMet_73 : decode cX8_wireMet 73 = .ok (.ifCond .eq 5, 3) := by decide +kernel
theorem dX8_wireMet_76 : decode cX8_wireMet 76 = .ok (.iload_n 2, 1) := by decide +kernel
theorem dX8_wireMet_77 : decode cX8_wireMet 77 = .ok (.ireturn, 1) := by decide +kernel
theorem dX8_wireMet_78 : decode cX8_wireMet 78 = .ok (.iinc 3 1, 3) := by decide +kernel
theorem dX8_wireMet_81 : decode cX8_wireMet 81 = .ok (.goto (-69), 3) := by decide +kernel
theorem dX8_wireMet_84 : decode cX8_wireMet 84 = .ok (.iinc 2 1, 3) := by decide +kernel
theorem dX8_wireMet_87 : decode cX8_wireMet 87 = .ok (.goto (-85), 3) := by decide +kernel
theorem dX8_wireMet_90 : decode cX8_wireMet 90 = .ok (.iconst (-1), 1) := by decide +kernel
theorem dX8_wireMet_91 : decode cX8_wireMet 91 = .ok (.ireturn, 1) := by decide +kernel
theorem dX8_kerbMet_0 : decode cX8_kerbMet 0 = .ok (.iconst 0, 1) := by decide +kernel
theorem dX8_kerbMet_1 : decode cX8_kerbMet 1 = .ok (.istore 5, 2) := by decide +kernel
theorem dX8_kerbMet_3 : decode cX8_kerbMet 3 = .ok (.iload 5, 2) := by decide +kernel
theorem dX8_kerbMet_5 : decode cX8_kerbMet 5 = .ok (.aload_n 0, 1) := by decide +kernel
theorem dX8_kerbMet_6 : decode cX8_kerbMet 6 = .ok (.getfield 67, 3) := by decide +kernel
theorem dX8_kerbMet_9 : decode cX8_kerbMet 9 = .ok (.if_icmp .ge 60, 3) := by decide +kernel
theorem dX8_kerbMet_12 : decode cX8_kerbMet 12 = .ok (.iconst 0, 1) := by decide +kernel
theorem dX8_kerbMet_13 : decode cX8_kerbMet 13 = .ok (.istore 6, 2) := by decide +kernel
theorem dX8_kerbMet_15 : decode cX8_kerbMet 15 = .ok (.iload 6, 2) := by decide +kernel
theorem dX8_kerbMet_17 : decode cX8_kerbMet 17 = .ok (.iconst 4, 1) := by decide +kernel
theorem dX8_kerbMet_18 : decode cX8_kerbMet 18 = .ok (.if_icmp .ge 45, 3) := by decide +kernel
theorem dX8_kerbMet_21 : decode cX8_kerbMet 21 = .ok (.aload_n 0, 1) := by decide +kernel
theorem dX8_kerbMet_22 : decode cX8_kerbMet 22 = .ok (.getfield 27, 3) := by decide +kernel
theorem dX8_kerbMet_25 : decode cX8_kerbMet 25 = .ok (.iload 5, 2) := by decide +kernel
theorem dX8_kerbMet_27 : decode cX8_kerbMet 27 = .ok (.aaload, 1) := by decide +kernel
theorem dX8_kerbMet_28 : decode cX8_kerbMet 28 = .ok (.iload_n 2, 1) := by decide +kernel
theorem dX8_kerbMet_29 : decode cX8_kerbMet 29 = .ok (.aload_n 1, 1) := by decide +kernel
theorem dX8_kerbMet_30 : decode cX8_kerbMet 30 = .ok (.iload 6, 2) := by decide +kernel
theorem dX8_kerbMet_32 : decode cX8_kerbMet 32 = .ok (.iload 4, 2) := by decide +kernel
theorem dX8_kerbMet_34 : decode cX8_kerbMet 34 = .ok (.invokevirtual 106, 3) := by decide +kernel
theorem dX8_kerbMet_37 : decode cX8_kerbMet 37 = .ok (.iadd, 1) := by decide +kernel
theorem dX8_kerbMet_38 : decode cX8_kerbMet 38 = .ok (.iload_n 3, 1) := by decide +kernel
theorem dX8_kerbMet_39 : decode cX8_kerbMet 39 = .ok (.aload_n 1, 1) := by decide +kernel
theorem dX8_kerbMet_40 : decode cX8_kerbMet 40 = .ok (.iload 6, 2) := by decide +kernel
theorem dX8_kerbMet_42 : decode cX8_kerbMet 42 = .ok (.iload 4, 2) := by decide +kernel
theorem dX8_kerbMet_44 : decode cX8_kerbMet 44 = .ok (.invokevirtual 110, 3) := by decide +kernel
theorem dX8_kerbMet_47 : decode cX8_kerbMet 47 = .ok (.iadd, 1) := by decide +kernel
theorem dX8_kerbMet_48 : decode cX8_kerbMet 48 = .ok (.invokevirtual 113, 3) := by decide +kernel
theorem dX8_kerbMet_51 : decode cX8_kerbMet 51 = .ok (.ifCond .eq 6, 3) := by decide +kernel
theorem dX8_kerbMet_54 : decode cX8_kerbMet 54 = .ok (.iload 5, 2) := by decide +kernel
theorem dX8_kerbMet_56 : decode cX8_kerbMet 56 = .ok (.ireturn, 1) := by decide +kernel
theorem dX8_kerbMet_57 : decode cX8_kerbMet 57 = .ok (.iinc 6 1, 3) := by decide +kernel
theorem dX8_kerbMet_60 : decode cX8_kerbMet 60 = .ok (.goto (-45), 3) := by decide +kernel
theorem dX8_kerbMet_63 : decode cX8_kerbMet 63 = .ok (.iinc 5 1, 3) := by decide +kernel
theorem dX8_kerbMet_66 : decode cX8_kerbMet 66 = .ok (.goto (-63), 3) := by decide +kernel
theorem dX8_kerbMet_69 : decode cX8_kerbMet 69 = .ok (.iconst (-1), 1) := by decide +kernel
theorem dX8_kerbMet_70 : decode cX8_kerbMet 70 = .ok (.ireturn, 1) := by decide +kernel
theorem dX8_houseOnLine_0 : decode cX8_houseOnLine 0 = .ok (.iconst 0, 1) := by decide +kernel
theorem dX8_houseOnLine_1 : decode cX8_houseOnLine 1 = .ok (.istore_n 2, 1) := by decide +kernel
theorem dX8_houseOnLine_2 : decode cX8_houseOnLine 2 = .ok (.iload_n 2, 1) := by decide +kernel
theorem dX8_houseOnLine_3 : decode cX8_houseOnLine 3 = .ok (.aload_n 0, 1) := by decide +kernel
theorem dX8_houseOnLine_4 : decode cX8_houseOnLine 4 = .ok (.getfield 60, 3) := by decide +kernel
theorem dX8_houseOnLine_7 : decode cX8_houseOnLine 7 = .ok (.if_icmp .ge 25, 3) := by decide +kernel
theorem dX8_houseOnLine_10 : decode cX8_houseOnLine 10 = .ok (.aload_n 1, 1) := by decide +kernel
theorem dX8_houseOnLine_11 : decode cX8_houseOnLine 11 = .ok (.aload_n 0, 1) := by decide +kernel
theorem dX8_houseOnLine_12 : decode cX8_houseOnLine 12 = .ok (.getfield 13, 3) := by decide +kernel
theorem dX8_houseOnLine_15 : decode cX8_houseOnLine 15 = .ok (.iload_n 2, 1) := by decide +kernel
theorem dX8_houseOnLine_16 : decode cX8_houseOnLine 16 = .ok (.aaload, 1) := by decide +kernel
theorem dX8_houseOnLine_17 : decode cX8_houseOnLine 17 = .ok (.iconst 0, 1) := by decide +kernel
theorem dX8_houseOnLine_18 : decode cX8_houseOnLine 18 = .ok (.invokevirtual 97, 3) := by decide +kernel
theorem dX8_houseOnLine_21 : decode cX8_houseOnLine 21 = .ok (.ifCond .eq 5, 3) := by decide +kernel
theorem dX8_houseOnLine_24 : decode cX8_houseOnLine 24 = .ok (.iload_n 2, 1) := by decide +kernel
theorem dX8_houseOnLine_25 : decode cX8_houseOnLine 25 = .ok (.ireturn, 1) := by decide +kernel
theorem dX8_houseOnLine_26 : decode cX8_houseOnLine 26 = .ok (.iinc 2 1, 3) := by decide +kernel
theorem dX8_houseOnLine_29 : decode cX8_houseOnLine 29 = .ok (.goto (-27), 3) := by decide +kernel
theorem dX8_houseOnLine_32 : decode cX8_houseOnLine 32 = .ok (.iconst (-1), 1) := by decide +kernel
theorem dX8_houseOnLine_33 : decode cX8_houseOnLine 33 = .ok (.ireturn, 1) := by decide +kernel
theorem dX8_slopeAt_0 : decode cX8_slopeAt 0 = .ok (.iconst 0, 1) := by decide +kernel
theorem dX8_slopeAt_1 : decode cX8_slopeAt 1 = .ok (.istore_n 3, 1) := by decide +kernel
theorem dX8_slopeAt_2 : decode cX8_slopeAt 2 = .ok (.iload_n 3, 1) := by decide +kernel
theorem dX8_slopeAt_3 : decode cX8_slopeAt 3 = .ok (.aload_n 0, 1) := by decide +kernel
theorem dX8_slopeAt_4 : decode cX8_slopeAt 4 = .ok (.getfield 73, 3) := by decide +kernel
theorem dX8_slopeAt_7 : decode cX8_slopeAt 7 = .ok (.if_icmp .ge 25, 3) := by decide +kernel
theorem dX8_slopeAt_10 : decode cX8_slopeAt 10 = .ok (.aload_n 0, 1) := by decide +kernel
theorem dX8_slopeAt_11 : decode cX8_slopeAt 11 = .ok (.getfield 40, 3) := by decide +kernel
theorem dX8_slopeAt_14 : decode cX8_slopeAt 14 = .ok (.iload_n 3, 1) := by decide +kernel
theorem dX8_slopeAt_15 : decode cX8_slopeAt 15 = .ok (.aaload, 1) := by decide +kernel
theorem dX8_slopeAt_16 : decode cX8_slopeAt 16 = .ok (.iload_n 1, 1) := by decide +kernel
theorem dX8_slopeAt_17 : decode cX8_slopeAt 17 = .ok (.iload_n 2, 1) := by decide +kernel
theorem dX8_slopeAt_18 : decode cX8_slopeAt 18 = .ok (.invokevirtual 76, 3) := by decide +kernel
theorem dX8_slopeAt_21 : decode cX8_slopeAt 21 = .ok (.ifCond .eq 5, 3) := by decide +kernel
theorem dX8_slopeAt_24 : decode cX8_slopeAt 24 = .ok (.iload_n 3, 1) := by decide +kernel
theorem dX8_slopeAt_25 : decode cX8_slopeAt 25 = .ok (.ireturn, 1) := by decide +kernel
theorem dX8_slopeAt_26 : decode cX8_slopeAt 26 = .ok (.iinc 3 1, 3) := by decide +kernel
theorem dX8_slopeAt_29 : decode cX8_slopeAt 29 = .ok (.goto (-27), 3) := by decide +kernel
theorem dX8_slopeAt_32 : decode cX8_slopeAt 32 = .ok (.iconst (-1), 1) := by decide +kernel
theorem dX8_slopeAt_33 : decode cX8_slopeAt 33 = .ok (.ireturn, 1) := by decide +kernel
theorem dX8_isSlope_0 : decode cX8_isSlope 0 = .ok (.iload_n 1, 1) := by decide +kernel
theorem dX8_isSlope_1 : decode cX8_isSlope 1 = .ok (.iconst 0, 1) := by decide +kernel
theorem dX8_isSlope_2 : decode cX8_isSlope 2 = .ok (.aload_n 0, 1) := by decide +kernel
theorem dX8_isSlope_3 : decode cX8_isSlope 3 = .ok (.getfield 73, 3) := by decide +kernel
theorem dX8_isSlope_6 : decode cX8_isSlope 6 = .ok (.iconst 1, 1) := by decide +kernel
theorem dX8_isSlope_7 : decode cX8_isSlope 7 = .ok (.isub, 1) := by decide +kernel
theorem dX8_isSlope_8 : decode cX8_isSlope 8 = .ok (.invokestatic 56, 3) := by decide +kernel
theorem dX8_isSlope_11 : decode cX8_isSlope 11 = .ok (.ireturn, 1) := by decide +kernel
theorem dX8_isWet_0 : decode cX8_isWet 0 = .ok (.aload_n 0, 1) := by decide +kernel
theorem dX8_isWet_1 : decode cX8_isWet 1 = .ok (.iload_n 1, 1) := by decide +kernel
theorem dX8_isWet_2 : decode cX8_isWet 2 = .ok (.invokevirtual 80, 3) := by decide +kernel
theorem dX8_isWet_5 : decode cX8_isWet 5 = .ok (.ifCond .eq 16, 3) := by decide +kernel
theorem dX8_isWet_8 : decode cX8_isWet 8 = .ok (.aload_n 0, 1) := by decide +kernel
theorem dX8_isWet_9 : decode cX8_isWet 9 = .ok (.getfield 49, 3) := by decide +kernel
theorem dX8_isWet_12 : decode cX8_isWet 12 = .ok (.iload_n 1, 1) := by decide +kernel
theorem dX8_isWet_13 : decode cX8_isWet 13 = .ok (.baload, 1) := by decide +kernel
theorem dX8_isWet_14 : decode cX8_isWet 14 = .ok (.ifCond .eq 7, 3) := by decide +kernel
theorem dX8_isWet_17 : decode cX8_isWet 17 = .ok (.iconst 1, 1) := by decide +kernel
theorem dX8_isWet_18 : decode cX8_isWet 18 = .ok (.goto 4, 3) := by decide +kernel
theorem dX8_isWet_21 : decode cX8_isWet 21 = .ok (.iconst 0, 1) := by decide +kernel
theorem dX8_isWet_22 : decode cX8_isWet 22 = .ok (.ireturn, 1) := by decide +kernel
theorem dX8_riseXOf_0 : decode cX8_riseXOf 0 = .ok (.aload_n 0, 1) := by decide +kernel
theorem dX8_riseXOf_1 : decode cX8_riseXOf 1 = .ok (.iload_n 1, 1) := by decide +kernel
theorem dX8_riseXOf_2 : decode cX8_riseXOf 2 = .ok (.invokevirtual 80, 3) := by decide +kernel
theorem dX8_riseXOf_5 : decode cX8_riseXOf 5 = .ok (.ifCond .eq 12, 3) := by decide +kernel
theorem dX8_riseXOf_8 : decode cX8_riseXOf 8 = .ok (.aload_n 0, 1) := by decide +kernel
theorem dX8_riseXOf_9 : decode cX8_riseXOf 9 = .ok (.getfield 43, 3) := by decide +kernel
theorem dX8_riseXOf_12 : decode cX8_riseXOf 12 = .ok (.iload_n 1, 1) := by decide +kernel
theorem dX8_riseXOf_13 : decode cX8_riseXOf 13 = .ok (.iaload, 1) := by decide +kernel
theorem dX8_riseXOf_14 : decode cX8_riseXOf 14 = .ok (.goto 4, 3) := by decide +kernel
theorem dX8_riseXOf_17 : decode cX8_riseXOf 17 = .ok (.iconst 0, 1) := by decide +kernel
theorem dX8_riseXOf_18 : decode cX8_riseXOf 18 = .ok (.ireturn, 1) := by decide +kernel
theorem dX8_riseYOf_0 : decode cX8_riseYOf 0 = .ok (.aload_n 0, 1) := by decide +kernel
theorem dX8_riseYOf_1 : decode cX8_riseYOf 1 = .ok (.iload_n 1, 1) := by decide +kernel
theorem dX8_riseYOf_2 : decode cX8_riseYOf 2 = .ok (.invokevirtual 80, 3) := by decide +kernel
theorem dX8_riseYOf_5 : decode cX8_riseYOf 5 = .ok (.ifCond .eq 12, 3) := by decide +kernel
theorem dX8_riseYOf_8 : decode cX8_riseYOf 8 = .ok (.aload_n 0, 1) := by decide +kernel
theorem dX8_riseYOf_9 : decode cX8_riseYOf 9 = .ok (.getfield 46, 3) := by decide +kernel
theorem dX8_riseYOf_12 : decode cX8_riseYOf 12 = .ok (.iload_n 1, 1) := by decide +kernel
theorem dX8_riseYOf_13 : decode cX8_riseYOf 13 = .ok (.iaload, 1) := by decide +kernel
theorem dX8_riseYOf_14 : decode cX8_riseYOf 14 = .ok (.goto 4, 3) := by decide +kernel
theorem dX8_riseYOf_17 : decode cX8_riseYOf 17 = .ok (.iconst 0, 1) := by decide +kernel
theorem dX8_riseYOf_18 : decode cX8_riseYOf 18 = .ok (.ireturn, 1) := by decide +kernel
theorem dX8_lower_0 : decode cX8_lower 0 = .ok (.iload_n 1, 1) := by decide +kernel
theorem dX8_lower_1 : decode cX8_lower 1 = .ok (.iconst 0, 1) := by decide +kernel
theorem dX8_lower_2 : decode cX8_lower 2 = .ok (.aload_n 0, 1) := by decide +kernel
theorem dX8_lower_3 : decode cX8_lower 3 = .ok (.getfield 70, 3) := by decide +kernel
theorem dX8_lower_6 : decode cX8_lower 6 = .ok (.iconst 1, 1) := by decide +kernel
theorem dX8_lower_7 : decode cX8_lower 7 = .ok (.isub, 1) := by decide +kernel
theorem dX8_lower_8 : decode cX8_lower 8 = .ok (.invokestatic 56, 3) := by decide +kernel
theorem dX8_lower_11 : decode cX8_lower 11 = .ok (.ifCond .ne 6, 3) := by decide +kernel
theorem dX8_lower_14 : decode cX8_lower 14 = .ok (.bipush (-2), 2) := by decide +kernel
theorem dX8_lower_16 : decode cX8_lower 16 = .ok (.ireturn, 1) := by decide +kernel
theorem dX8_lower_17 : decode cX8_lower 17 = .ok (.aload_n 0, 1) := by decide +kernel
theorem dX8_lower_18 : decode cX8_lower 18 = .ok (.getfield 36, 3) := by decide +kernel
theorem dX8_lower_21 : decode cX8_lower 21 = .ok (.iload_n 1, 1) := by decide +kernel
theorem dX8_lower_22 : decode cX8_lower 22 = .ok (.baload, 1) := by decide +kernel
theorem dX8_lower_23 : decode cX8_lower 23 = .ok (.istore_n 3, 1) := by decide +kernel
theorem dX8_lower_24 : decode cX8_lower 24 = .ok (.aload_n 0, 1) := by decide +kernel
theorem dX8_lower_25 : decode cX8_lower 25 = .ok (.getfield 36, 3) := by decide +kernel
theorem dX8_lower_28 : decode cX8_lower 28 = .ok (.iload_n 1, 1) := by decide +kernel
theorem dX8_lower_29 : decode cX8_lower 29 = .ok (.iload_n 2, 1) := by decide +kernel
theorem dX8_lower_30 : decode cX8_lower 30 = .ok (.bastore, 1) := by decide +kernel
theorem dX8_lower_31 : decode cX8_lower 31 = .ok (.iload_n 3, 1) := by decide +kernel
theorem dX8_lower_32 : decode cX8_lower 32 = .ok (.iload_n 2, 1) := by decide +kernel
theorem dX8_lower_33 : decode cX8_lower 33 = .ok (.if_icmp .ne 7, 3) := by decide +kernel
theorem dX8_lower_36 : decode cX8_lower 36 = .ok (.iconst 0, 1) := by decide +kernel
theorem dX8_lower_37 : decode cX8_lower 37 = .ok (.goto 4, 3) := by decide +kernel
theorem dX8_lower_40 : decode cX8_lower 40 = .ok (.iconst 1, 1) := by decide +kernel
theorem dX8_lower_41 : decode cX8_lower 41 = .ok (.ireturn, 1) := by decide +kernel
theorem dX8_cutEaves_0 : decode cX8_cutEaves 0 = .ok (.iload_n 1, 1) := by decide +kernel
theorem dX8_cutEaves_1 : decode cX8_cutEaves 1 = .ok (.iconst 0, 1) := by decide +kernel
theorem dX8_cutEaves_2 : decode cX8_cutEaves 2 = .ok (.aload_n 0, 1) := by decide +kernel
theorem dX8_cutEaves_3 : decode cX8_cutEaves 3 = .ok (.getfield 60, 3) := by decide +kernel
theorem dX8_cutEaves_6 : decode cX8_cutEaves 6 = .ok (.iconst 1, 1) := by decide +kernel
theorem dX8_cutEaves_7 : decode cX8_cutEaves 7 = .ok (.isub, 1) := by decide +kernel
theorem dX8_cutEaves_8 : decode cX8_cutEaves 8 = .ok (.invokestatic 56, 3) := by decide +kernel
theorem dX8_cutEaves_11 : decode cX8_cutEaves 11 = .ok (.ifCond .eq 17, 3) := by decide +kernel
theorem dX8_cutEaves_14 : decode cX8_cutEaves 14 = .ok (.iload_n 2, 1) := by decide +kernel
theorem dX8_cutEaves_15 : decode cX8_cutEaves 15 = .ok (.iconst 0, 1) := by decide +kernel
theorem dX8_cutEaves_16 : decode cX8_cutEaves 16 = .ok (.aload_n 0, 1) := by decide +kernel
theorem dX8_cutEaves_17 : decode cX8_cutEaves 17 = .ok (.getfield 24, 3) := by decide +kernel
theorem dX8_cutEaves_20 : decode cX8_cutEaves 20 = .ok (.iload_n 1, 1) := by decide +kernel
theorem dX8_cutEaves_21 : decode cX8_cutEaves 21 = .ok (.iaload, 1) := by decide +kernel
theorem dX8_cutEaves_22 : decode cX8_cutEaves 22 = .ok (.invokestatic 56, 3) := by decide +kernel
theorem dX8_cutEaves_25 : decode cX8_cutEaves 25 = .ok (.ifCond .ne 6, 3) := by decide +kernel
theorem dX8_cutEaves_28 : decode cX8_cutEaves 28 = .ok (.bipush (-2), 2) := by decide +kernel
theorem dX8_cutEaves_30 : decode cX8_cutEaves 30 = .ok (.ireturn, 1) := by decide +kernel
theorem dX8_cutEaves_31 : decode cX8_cutEaves 31 = .ok (.aload_n 0, 1) := by decide +kernel
theorem dX8_cutEaves_32 : decode cX8_cutEaves 32 = .ok (.getfield 24, 3) := by decide +kernel
theorem dX8_cutEaves_35 : decode cX8_cutEaves 35 = .ok (.iload_n 1, 1) := by decide +kernel
theorem dX8_cutEaves_36 : decode cX8_cutEaves 36 = .ok (.iaload, 1) := by decide +kernel
theorem dX8_cutEaves_37 : decode cX8_cutEaves 37 = .ok (.istore_n 3, 1) := by decide +kernel
theorem dX8_cutEaves_38 : decode cX8_cutEaves 38 = .ok (.aload_n 0, 1) := by decide +kernel
theorem dX8_cutEaves_39 : decode cX8_cutEaves 39 = .ok (.getfield 24, 3) := by decide +kernel
theorem dX8_cutEaves_42 : decode cX8_cutEaves 42 = .ok (.iload_n 1, 1) := by decide +kernel
theorem dX8_cutEaves_43 : decode cX8_cutEaves 43 = .ok (.iload_n 2, 1) := by decide +kernel
theorem dX8_cutEaves_44 : decode cX8_cutEaves 44 = .ok (.iastore, 1) := by decide +kernel
theorem dX8_cutEaves_45 : decode cX8_cutEaves 45 = .ok (.iload_n 3, 1) := by decide +kernel
theorem dX8_cutEaves_46 : decode cX8_cutEaves 46 = .ok (.ireturn, 1) := by decide +kernel
theorem dX8_wiresThatHang_0 : decode cX8_wiresThatHang 0 = .ok (.iconst 0, 1) := by decide +kernel
theorem dX8_wiresThatHang_1 : decode cX8_wiresThatHang 1 = .ok (.istore_n 1, 1) := by decide +kernel
theorem dX8_wiresThatHang_2 : decode cX8_wiresThatHang 2 = .ok (.iconst 0, 1) := by decide +kernel
theorem dX8_wiresThatHang_3 : decode cX8_wiresThatHang 3 = .ok (.istore_n 2, 1) := by decide +kernel
theorem dX8_wiresThatHang_4 : decode cX8_wiresThatHang 4 = .ok (.iload_n 2, 1) := by decide +kernel
theorem dX8_wiresThatHang_5 : decode cX8_wiresThatHang 5 = .ok (.aload_n 0, 1) := by decide +kernel
theorem dX8_wiresThatHang_6 : decode cX8_wiresThatHang 6 = .ok (.getfield 70, 3) := by decide +kernel
theorem dX8_wiresThatHang_9 : decode cX8_wiresThatHang 9 = .ok (.if_icmp .ge 21, 3) := by decide +kernel
theorem dX8_wiresThatHang_12 : decode cX8_wiresThatHang 12 = .ok (.aload_n 0, 1) := by decide +kernel
theorem dX8_wiresThatHang_13 : decode cX8_wiresThatHang 13 = .ok (.getfield 36, 3) := by decide +kernel
theorem dX8_wiresThatHang_16 : decode cX8_wiresThatHang 16 = .ok (.iload_n 2, 1) := by decide +kernel
theorem dX8_wiresThatHang_17 : decode cX8_wiresThatHang 17 = .ok (.baload, 1) := by decide +kernel
theorem dX8_wiresThatHang_18 : decode cX8_wiresThatHang 18 = .ok (.ifCond .ne 6, 3) := by decide +kernel
theorem dX8_wiresThatHang_21 : decode cX8_wiresThatHang 21 = .ok (.iinc 1 1, 3) := by decide +kernel
theorem dX8_wiresThatHang_24 : decode cX8_wiresThatHang 24 = .ok (.iinc 2 1, 3) := by decide +kernel
theorem dX8_wiresThatHang_27 : decode cX8_wiresThatHang 27 = .ok (.goto (-23), 3) := by decide +kernel
theorem dX8_wiresThatHang_30 : decode cX8_wiresThatHang 30 = .ok (.iload_n 1, 1) := by decide +kernel
theorem dX8_wiresThatHang_31 : decode cX8_wiresThatHang 31 = .ok (.ireturn, 1) := by decide +kernel
theorem dX8_wetAll_0 : decode cX8_wetAll 0 = .ok (.iconst 0, 1) := by decide +kernel
theorem dX8_wetAll_1 : decode cX8_wetAll 1 = .ok (.istore_n 2, 1) := by decide +kernel
theorem dX8_wetAll_2 : decode cX8_wetAll 2 = .ok (.iconst 0, 1) := by decide +kernel
theorem dX8_wetAll_3 : decode cX8_wetAll 3 = .ok (.istore_n 3, 1) := by decide +kernel
theorem dX8_wetAll_4 : decode cX8_wetAll 4 = .ok (.iload_n 3, 1) := by decide +kernel
theorem dX8_wetAll_5 : decode cX8_wetAll 5 = .ok (.aload_n 0, 1) := by decide +kernel
theorem dX8_wetAll_6 : decode cX8_wetAll 6 = .ok (.getfield 73, 3) := by decide +kernel
theorem dX8_wetAll_9 : decode cX8_wetAll 9 = .ok (.if_icmp .ge 29, 3) := by decide +kernel
theorem dX8_wetAll_12 : decode cX8_wetAll 12 = .ok (.aload_n 0, 1) := by decide +kernel
theorem dX8_wetAll_13 : decode cX8_wetAll 13 = .ok (.getfield 49, 3) := by decide +kernel
theorem dX8_wetAll_16 : decode cX8_wetAll 16 = .ok (.iload_n 3, 1) := by decide +kernel
theorem dX8_wetAll_17 : decode cX8_wetAll 17 = .ok (.baload, 1) := by decide +kernel
theorem dX8_wetAll_18 : decode cX8_wetAll 18 = .ok (.iload_n 1, 1) := by decide +kernel
theorem dX8_wetAll_19 : decode cX8_wetAll 19 = .ok (.if_icmp .eq 13, 3) := by decide +kernel
theorem dX8_wetAll_22 : decode cX8_wetAll 22 = .ok (.aload_n 0, 1) := by decide +kernel
theorem dX8_wetAll_23 : decode cX8_wetAll 23 = .ok (.getfield 49, 3) := by decide +kernel
theorem dX8_wetAll_26 : decode cX8_wetAll 26 = .ok (.iload_n 3, 1) := by decide +kernel
theorem dX8_wetAll_27 : decode cX8_wetAll 27 = .ok (.iload_n 1, 1) := by decide +kernel
theorem dX8_wetAll_28 : decode cX8_wetAll 28 = .ok (.bastore, 1) := by decide +kernel
theorem dX8_wetAll_29 : decode cX8_wetAll 29 = .ok (.iinc 2 1, 3) := by decide +kernel
theorem dX8_wetAll_32 : decode cX8_wetAll 32 = .ok (.iinc 3 1, 3) := by decide +kernel
theorem dX8_wetAll_35 : decode cX8_wetAll 35 = .ok (.goto (-31), 3) := by decide +kernel
theorem dX8_wetAll_38 : decode cX8_wetAll 38 = .ok (.iload_n 2, 1) := by decide +kernel
theorem dX8_wetAll_39 : decode cX8_wetAll 39 = .ok (.ireturn, 1) := by decide +kernel
def l_X8_houseMet_12 (a1 : Nat) (w : Wd) (x2_2l : Int32) (j_61 : Option Int32) : Nat → Int32 → Option Int32
  | 0, _ => none
  | n_12 + 1, x3_12l =>
    q_gt w a1 7 (fun v_14 =>
    if v_14 ≤ x3_12l then
    j_61
    else
    q_ld w 11 20 x2_2l (fun v_25 =>
    q_bo (f_X1_footOf w a1 x3_12l) (fun v_28 =>
    q_jn (q_lt (x3_12l + (1 : Int32)) (fun v_55 =>
    l_X8_houseMet_12 a1 w x2_2l j_61 n_12 v_55)) (fun j_55 =>
    if v_25 ≤ v_28 then
    j_55
    else
    q_ldq w (a1 + 4) 5 x3_12l (fun q_39 =>
    q_ldq w 10 20 x2_2l (fun q_45 =>
    if (f_X5_touchesBox w q_39 q_45 (0 : Int32)) = 0 then
    j_55
    else
    some x2_2l))))))
def l_X8_houseMet_2 (a1 : Nat) (w : Wd) : Nat → Int32 → Option Int32
  | 0, _ => none
  | n_2 + 1, x2_2l =>
    q_gt w 2 4 (fun v_4 =>
    if v_4 ≤ x2_2l then
    some (-1 : Int32)
    else
    q_jn (q_lt (x2_2l + (1 : Int32)) (fun v_61 =>
    l_X8_houseMet_2 a1 w n_2 v_61)) (fun j_61 =>
    l_X8_houseMet_12 a1 w x2_2l j_61 FU (0 : Int32)))
def f_X8_houseMet (w : Wd) (a1 : Nat) : Option Int32 :=
l_X8_houseMet_2 a1 w FU (0 : Int32)
set_option maxRecDepth 100000 in
set_option maxHeartbeats 4000000 in
theorem c_X8_houseMet (l : Launch) (D : va_G) (cT : Nat → ClassId) (lo : Nat) (w : Wd) (ad : Nat → Nat) (a1 : Nat) (hk1 : kt a1 = (11, 0)) (ha1 : wA w a1 = 2) (r : Int32) (h : f_X8_houseMet w a1 = some r) : Met l yX8_houseMet (.code yX8_houseMet cX8_houseMet 4 (some .int) :: TW) { frames := 2, cells := 0, slots := 0, locals := 48 } (mPc D cT lo NB w ad [.ref (ad 2), .ref (ad a1)]) (mQ D cT lo NB w w ad (some (.int r))) 0 0 (fun q => lo ≤ q) := by
  unfold f_X8_houseMet at h
  refine x_met (lv := [(0, .ref (ad 2)), (1, .ref (ad a1))]) (by decide +kernel) (Nat.le_of_ble_eq_true rfl) rfl ?_
  intro p e s m args below meth c ls F hr hlk hP hin hl
  have hx := F.1
  have hb := F.2.1
  have hS : va_S (fun q => lo ≤ q) s.heap s.heap [] := va_S.rf
  refine lv_iconst (v := 0) hx hb dX8_houseMet_0 ic_0 ?_
  refine lv_istore_n (lv' := [(2, .int (0 : Int32)), (0, .ref (ad 2)), (1, .ref (ad a1))]) hx hb dX8_houseMet_1 rfl hl (Nat.le_of_ble_eq_true rfl) rfl (fun ls hl => ?_)
  have L_2 : ∀ (n_2 : Nat) (x2_2l : Int32), l_X8_houseMet_2 a1 w n_2 x2_2l = some r → GG p l e { frames := 2, cells := 0, slots := 0, locals := 48 } s m args below meth c 0 0 (MQ below (mQ D cT lo NB w w ad (some (.int r))) args s 0 0 (fun q => lo ≤ q)) D cT lo NB 4 ad w 2 [(2, .int x2_2l), (0, .ref (ad 2)), (1, .ref (ad a1))] [] := by
    intro n_2
    induction n_2 with
    | zero =>
      intro x2_2l h
      exact absurd h (by unfold l_X8_houseMet_2; exact fun z => by cases z)
    | succ n_2 ih_2 =>
      intro x2_2l h H locs ls hP hS hl
      unfold l_X8_houseMet_2 at h
      refine lv_iload_n hx hb dX8_houseMet_2 rfl (lv_at hl 0 rfl) ?_
      refine lv_aload_n hx hb dX8_houseMet_3 rfl (lv_at hl 1 rfl) ?_
      refine y_geti h F hP k_2 (n2 (hP.al 2 rfl)) fl_X8_60 rfl dX8_houseMet_4 (fun v_4 h => ?_)
      refine lv_icmp_ge (tgt := 67) hx hb dX8_houseMet_7 (by decide) (fun hc => ?_) (fun hc => ?_)
      · have h := if_t _ hc h
        refine lv_iconst (v := -1) hx hb dX8_houseMet_67 ic_m1 ?_
        exact y_iretO h F hr hP hS hlk dX8_houseMet_68
      · have h := if_f _ hc h
        refine lv_iconst (v := 0) hx hb dX8_houseMet_10 ic_0 ?_
        refine lv_istore_n (lv' := [(3, .int (0 : Int32)), (2, .int x2_2l), (0, .ref (ad 2)), (1, .ref (ad a1))]) hx hb dX8_houseMet_11 rfl hl (Nat.le_of_ble_eq_true rfl) rfl (fun ls hl => ?_)
        refine jn_use (fun (j_61 : Option Int32) => j_61 = some r → GG p l e { frames := 2, cells := 0, slots := 0, locals := 48 } s m args below meth c 0 0 (MQ below (mQ D cT lo NB w w ad (some (.int r))) args s 0 0 (fun q => lo ≤ q)) D cT lo NB 4 ad w 61 [(2, .int x2_2l), (0, .ref (ad 2)), (1, .ref (ad a1))] []) h (fun h H locs ls hP hS hl => ?_) (fun j_61 J_61 h => ?_)
        · refine y_iinc (lv' := fun (v_61 : Int32) => [(2, .int v_61), (0, .ref (ad 2)), (1, .ref (ad a1))]) h F ic_1 dX8_houseMet_61 hl (kq := 0) rfl (Nat.le_of_ble_eq_true rfl) (fun _ => rfl) (fun v_61 ls hl h => ?_)
          refine lv_goto (tgt := 2) hx hb dX8_houseMet_64 (by decide) ?_
          exact ih_2 v_61 h _ _ _ hP hS (lv_sub hl [0, 1, 2] rfl)
        · have L_12 : ∀ (n_12 : Nat) (x3_12l : Int32), l_X8_houseMet_12 a1 w x2_2l j_61 n_12 x3_12l = some r → GG p l e { frames := 2, cells := 0, slots := 0, locals := 48 } s m args below meth c 0 0 (MQ below (mQ D cT lo NB w w ad (some (.int r))) args s 0 0 (fun q => lo ≤ q)) D cT lo NB 4 ad w 12 [(3, .int x3_12l), (2, .int x2_2l), (0, .ref (ad 2)), (1, .ref (ad a1))] [] := by
            intro n_12
            induction n_12 with
            | zero =>
              intro x3_12l h
              exact absurd h (by unfold l_X8_houseMet_12; exact fun z => by cases z)
            | succ n_12 ih_12 =>
              intro x3_12l h H locs ls hP hS hl
              unfold l_X8_houseMet_12 at h
              refine lv_iload_n hx hb dX8_houseMet_12 rfl (lv_at hl 0 rfl) ?_
              refine lv_aload_n hx hb dX8_houseMet_13 rfl (lv_at hl 3 rfl) ?_
              refine y_geti h F hP hk1 (n2 ha1) fl_X8_84 rfl dX8_houseMet_14 (fun v_14 h => ?_)
              refine lv_icmp_ge (tgt := 61) hx hb dX8_houseMet_17 (by decide) (fun hc => ?_) (fun hc => ?_)
              · have h := if_t _ hc h
                exact J_61  h _ _ _ hP hS (lv_sub hl [1, 2, 3] rfl)
              · have h := if_f _ hc h
                refine lv_aload_n hx hb dX8_houseMet_20 rfl (lv_at hl 2 rfl) ?_
                refine x_getr F hP k_2 (hP.al 2 rfl) fl_X8_17 rfl r_2_1 dX8_houseMet_21 ?_
                refine lv_iload_n hx hb dX8_houseMet_24 rfl (lv_at hl 1 rfl) ?_
                refine y_iald h F hP k_11 (n2 (hP.al 11 rfl)) dX8_houseMet_25 (fun v_25 h => ?_)
                refine lv_aload_n hx hb dX8_houseMet_26 rfl (lv_at hl 3 rfl) ?_
                refine lv_iload_n hx hb dX8_houseMet_27 rfl (lv_at hl 0 rfl) ?_
                obtain ⟨v_28, hc_28, h⟩ := bo_s h
                refine x_goes (x_runV (As := [.int x3_12l]) (rest := [.int v_25]) F hP hS (c_X1_footOf l D cT lo NB w ad a1 hk1 ha1 x3_12l v_28 hc_28) cw_X1_footOf lk_X8_89 vi_X1_footOf hk1 (n2 ha1) rfl ⟨rfl, rfl, Nat.le_of_ble_eq_true rfl, Nat.le_of_ble_eq_true rfl⟩ hl.1 rfl (Nat.le_of_ble_eq_true rfl) dX8_houseMet_28 ⟨Nat.zero_le _, Nat.zero_le _⟩) hS (fun H locs hP hS _ => ?_)
                refine jn_use (fun (j_55 : Option Int32) => j_55 = some r → GG p l e { frames := 2, cells := 0, slots := 0, locals := 48 } s m args below meth c 0 0 (MQ below (mQ D cT lo NB w w ad (some (.int r))) args s 0 0 (fun q => lo ≤ q)) D cT lo NB 4 ad w 55 [(3, .int x3_12l), (2, .int x2_2l), (0, .ref (ad 2)), (1, .ref (ad a1))] []) h (fun h H locs ls hP hS hl => ?_) (fun j_55 J_55 h => ?_)
                · refine y_iinc (lv' := fun (v_55 : Int32) => [(3, .int v_55), (2, .int x2_2l), (0, .ref (ad 2)), (1, .ref (ad a1))]) h F ic_1 dX8_houseMet_55 hl (kq := 0) rfl (Nat.le_of_ble_eq_true rfl) (fun _ => rfl) (fun v_55 ls hl h => ?_)
                  refine lv_goto (tgt := 12) hx hb dX8_houseMet_58 (by decide) ?_
                  exact ih_12 v_55 h _ _ _ hP hS (lv_sub hl [0, 1, 2, 3] rfl)
                · refine lv_icmp_le (tgt := 55) hx hb dX8_houseMet_31 (by decide) (fun hc => ?_) (fun hc => ?_)
                  · have h := if_t _ hc h
                    exact J_55  h _ _ _ hP hS (lv_sub hl [0, 1, 2, 3] rfl)
                  · have h := if_f _ hc h
                    refine lv_aload_n hx hb dX8_houseMet_34 rfl (lv_at hl 3 rfl) ?_
                    refine x_getr F hP hk1 ha1 fl_X8_93 rfl (carR_8 hk1) dX8_houseMet_35 ?_
                    have ha_a1_4 := x_al hP hk1 ha1 (show ft 1 8 = 1 from rfl) (carR_8 hk1)
                    refine lv_iload_n hx hb dX8_houseMet_38 rfl (lv_at hl 0 rfl) ?_
                    refine y_aald h F hP (carK_8 hk1) (by decide) (by decide) (n2 ha_a1_4) (ek_rects (carK_8 hk1)) dX8_houseMet_39 (fun q_39 hk_q_39 ha_q_39 h => ?_)
                    refine lv_aload_n hx hb dX8_houseMet_40 rfl (lv_at hl 2 rfl) ?_
                    refine x_getr F hP k_2 (hP.al 2 rfl) fl_X8_13 rfl r_2_0 dX8_houseMet_41 ?_
                    refine lv_iload_n hx hb dX8_houseMet_44 rfl (lv_at hl 1 rfl) ?_
                    refine y_aald h F hP k_10 (by decide) (by decide) (n2 (hP.al 10 rfl)) ek_10 dX8_houseMet_45 (fun q_45 hk_q_45 ha_q_45 h => ?_)
                    refine lv_iconst (v := 0) hx hb dX8_houseMet_46 ic_0 ?_
                    refine x_goesZ (x_runV (As := [.ref (ad q_45), .int (0 : Int32)]) (rest := []) F hP hS (c_X5_touchesBox l D cT lo NB w ad q_39 hk_q_39 ha_q_39 q_45 hk_q_45 ha_q_45 (0 : Int32)) cw_X5_touchesBox lk_X8_97 vi_X5_touchesBox hk_q_39 (n2 ha_q_39) rfl ⟨rfl, rfl, Nat.le_of_ble_eq_true rfl, Nat.le_of_ble_eq_true rfl⟩ hl.1 rfl (Nat.le_of_ble_eq_true rfl) dX8_houseMet_47 ⟨Nat.zero_le _, Nat.zero_le _⟩) hS (fun H locs hz_47 hP hS _ => ?_)
                    refine lv_if_eq (tgt := 55) hx hb dX8_houseMet_50 (by decide) (fun hc => ?_) (fun hc => ?_)
                    · have h := if_t _ hc h
                      exact J_55  h _ _ _ hP hS (lv_sub hl [0, 1, 2, 3] rfl)
                    · have h := if_f _ hc h
                      refine lv_iload_n hx hb dX8_houseMet_53 rfl (lv_at hl 1 rfl) ?_
                      exact y_iretO h F hr hP hS hlk dX8_houseMet_54
          exact L_12 FU (0 : Int32) h _ _ _ hP hS (lv_sub hl [0, 1, 2, 3] rfl)
  exact L_2 FU (0 : Int32) h _ _ _ hP hS (lv_sub hl [0, 1, 2] rfl)
def l_X8_eavesMet_12 (a1 : Nat) (w : Wd) (x2_2l : Int32) (j_82 : Option Int32) : Nat → Int32 → Option Int32
  | 0, _ => none
  | n_12 + 1, x3_12l =>
    q_gt w a1 7 (fun v_14 =>
    if v_14 ≤ x3_12l then
    j_82
    else
    q_ld w 12 20 x2_2l (fun v_25 =>
    q_bo (f_X1_heightOf w a1 x3_12l) (fun v_28 =>
    q_jn (q_lt (x3_12l + (1 : Int32)) (fun v_76 =>
    l_X8_eavesMet_12 a1 w x2_2l j_82 n_12 v_76)) (fun j_76 =>
    if v_28 ≤ v_25 then
    j_76
    else
    q_bo (f_X1_footOf w a1 x3_12l) (fun v_36 =>
    q_ld w 11 20 x2_2l (fun v_44 =>
    if (v_44 + (5 : Int32)) ≤ v_36 then
    j_76
    else
    q_ldq w (a1 + 4) 5 x3_12l (fun q_55 =>
    q_ldq w 10 20 x2_2l (fun q_61 =>
    q_ld w 13 20 x2_2l (fun v_67 =>
    if (f_X5_touchesBox w q_55 q_61 v_67) = 0 then
    j_76
    else
    some x2_2l)))))))))
def l_X8_eavesMet_2 (a1 : Nat) (w : Wd) : Nat → Int32 → Option Int32
  | 0, _ => none
  | n_2 + 1, x2_2l =>
    q_gt w 2 4 (fun v_4 =>
    if v_4 ≤ x2_2l then
    some (-1 : Int32)
    else
    q_jn (q_lt (x2_2l + (1 : Int32)) (fun v_82 =>
    l_X8_eavesMet_2 a1 w n_2 v_82)) (fun j_82 =>
    l_X8_eavesMet_12 a1 w x2_2l j_82 FU (0 : Int32)))
def f_X8_eavesMet (w : Wd) (a1 : Nat) : Option Int32 :=
l_X8_eavesMet_2 a1 w FU (0 : Int32)
set_option maxRecDepth 100000 in
set_option maxHeartbeats 4000000 in
theorem c_X8_eavesMet (l : Launch) (D : va_G) (cT : Nat → ClassId) (lo : Nat) (w : Wd) (ad : Nat → Nat) (a1 : Nat) (hk1 : kt a1 = (11, 0)) (ha1 : wA w a1 = 2) (r : Int32) (h : f_X8_eavesMet w a1 = some r) : Met l yX8_eavesMet (.code yX8_eavesMet cX8_eavesMet 4 (some .int) :: TW) { frames := 2, cells := 0, slots := 0, locals := 48 } (mPc D cT lo NB w ad [.ref (ad 2), .ref (ad a1)]) (mQ D cT lo NB w w ad (some (.int r))) 0 0 (fun q => lo ≤ q) := by
  unfold f_X8_eavesMet at h
  refine x_met (lv := [(0, .ref (ad 2)), (1, .ref (ad a1))]) (by decide +kernel) (Nat.le_of_ble_eq_true rfl) rfl ?_
  intro p e s m args below meth c ls F hr hlk hP hin hl
  have hx := F.1
  have hb := F.2.1
  have hS : va_S (fun q => lo ≤ q) s.heap s.heap [] := va_S.rf
  refine lv_iconst (v := 0) hx hb dX8_eavesMet_0 ic_0 ?_
  refine lv_istore_n (lv' := [(2, .int (0 : Int32)), (0, .ref (ad 2)), (1, .ref (ad a1))]) hx hb dX8_eavesMet_1 rfl hl (Nat.le_of_ble_eq_true rfl) rfl (fun ls hl => ?_)
  have L_2 : ∀ (n_2 : Nat) (x2_2l : Int32), l_X8_eavesMet_2 a1 w n_2 x2_2l = some r → GG p l e { frames := 2, cells := 0, slots := 0, locals := 48 } s m args below meth c 0 0 (MQ below (mQ D cT lo NB w w ad (some (.int r))) args s 0 0 (fun q => lo ≤ q)) D cT lo NB 4 ad w 2 [(2, .int x2_2l), (0, .ref (ad 2)), (1, .ref (ad a1))] [] := by
    intro n_2
    induction n_2 with
    | zero =>
      intro x2_2l h
      exact absurd h (by unfold l_X8_eavesMet_2; exact fun z => by cases z)
    | succ n_2 ih_2 =>
      intro x2_2l h H locs ls hP hS hl
      unfold l_X8_eavesMet_2 at h
      refine lv_iload_n hx hb dX8_eavesMet_2 rfl (lv_at hl 0 rfl) ?_
      refine lv_aload_n hx hb dX8_eavesMet_3 rfl (lv_at hl 1 rfl) ?_
      refine y_geti h F hP k_2 (n2 (hP.al 2 rfl)) fl_X8_60 rfl dX8_eavesMet_4 (fun v_4 h => ?_)
      refine lv_icmp_ge (tgt := 88) hx hb dX8_eavesMet_7 (by decide) (fun hc => ?_) (fun hc => ?_)
      · have h := if_t _ hc h
        refine lv_iconst (v := -1) hx hb dX8_eavesMet_88 ic_m1 ?_
        exact y_iretO h F hr hP hS hlk dX8_eavesMet_89
      · have h := if_f _ hc h
        refine lv_iconst (v := 0) hx hb dX8_eavesMet_10 ic_0 ?_
        refine lv_istore_n (lv' := [(3, .int (0 : Int32)), (2, .int x2_2l), (0, .ref (ad 2)), (1, .ref (ad a1))]) hx hb dX8_eavesMet_11 rfl hl (Nat.le_of_ble_eq_true rfl) rfl (fun ls hl => ?_)
        refine jn_use (fun (j_82 : Option Int32) => j_82 = some r → GG p l e { frames := 2, cells := 0, slots := 0, locals := 48 } s m args below meth c 0 0 (MQ below (mQ D cT lo NB w w ad (some (.int r))) args s 0 0 (fun q => lo ≤ q)) D cT lo NB 4 ad w 82 [(2, .int x2_2l), (0, .ref (ad 2)), (1, .ref (ad a1))] []) h (fun h H locs ls hP hS hl => ?_) (fun j_82 J_82 h => ?_)
        · refine y_iinc (lv' := fun (v_82 : Int32) => [(2, .int v_82), (0, .ref (ad 2)), (1, .ref (ad a1))]) h F ic_1 dX8_eavesMet_82 hl (kq := 0) rfl (Nat.le_of_ble_eq_true rfl) (fun _ => rfl) (fun v_82 ls hl h => ?_)
          refine lv_goto (tgt := 2) hx hb dX8_eavesMet_85 (by decide) ?_
          exact ih_2 v_82 h _ _ _ hP hS (lv_sub hl [0, 1, 2] rfl)
        · have L_12 : ∀ (n_12 : Nat) (x3_12l : Int32), l_X8_eavesMet_12 a1 w x2_2l j_82 n_12 x3_12l = some r → GG p l e { frames := 2, cells := 0, slots := 0, locals := 48 } s m args below meth c 0 0 (MQ below (mQ D cT lo NB w w ad (some (.int r))) args s 0 0 (fun q => lo ≤ q)) D cT lo NB 4 ad w 12 [(3, .int x3_12l), (2, .int x2_2l), (0, .ref (ad 2)), (1, .ref (ad a1))] [] := by
            intro n_12
            induction n_12 with
            | zero =>
              intro x3_12l h
              exact absurd h (by unfold l_X8_eavesMet_12; exact fun z => by cases z)
            | succ n_12 ih_12 =>
              intro x3_12l h H locs ls hP hS hl
              unfold l_X8_eavesMet_12 at h
              refine lv_iload_n hx hb dX8_eavesMet_12 rfl (lv_at hl 0 rfl) ?_
              refine lv_aload_n hx hb dX8_eavesMet_13 rfl (lv_at hl 3 rfl) ?_
              refine y_geti h F hP hk1 (n2 ha1) fl_X8_84 rfl dX8_eavesMet_14 (fun v_14 h => ?_)
              refine lv_icmp_ge (tgt := 82) hx hb dX8_eavesMet_17 (by decide) (fun hc => ?_) (fun hc => ?_)
              · have h := if_t _ hc h
                exact J_82  h _ _ _ hP hS (lv_sub hl [1, 2, 3] rfl)
              · have h := if_f _ hc h
                refine lv_aload_n hx hb dX8_eavesMet_20 rfl (lv_at hl 2 rfl) ?_
                refine x_getr F hP k_2 (hP.al 2 rfl) fl_X8_21 rfl r_2_2 dX8_eavesMet_21 ?_
                refine lv_iload_n hx hb dX8_eavesMet_24 rfl (lv_at hl 1 rfl) ?_
                refine y_iald h F hP k_12 (n2 (hP.al 12 rfl)) dX8_eavesMet_25 (fun v_25 h => ?_)
                refine lv_aload_n hx hb dX8_eavesMet_26 rfl (lv_at hl 3 rfl) ?_
                refine lv_iload_n hx hb dX8_eavesMet_27 rfl (lv_at hl 0 rfl) ?_
                obtain ⟨v_28, hc_28, h⟩ := bo_s h
                refine x_goes (x_runV (As := [.int x3_12l]) (rest := [.int v_25]) F hP hS (c_X1_heightOf l D cT lo NB w ad a1 hk1 ha1 x3_12l v_28 hc_28) cw_X1_heightOf lk_X8_103 vi_X1_heightOf hk1 (n2 ha1) rfl ⟨rfl, rfl, Nat.le_of_ble_eq_true rfl, Nat.le_of_ble_eq_true rfl⟩ hl.1 rfl (Nat.le_of_ble_eq_true rfl) dX8_eavesMet_28 ⟨Nat.zero_le _, Nat.zero_le _⟩) hS (fun H locs hP hS _ => ?_)
                refine jn_use (fun (j_76 : Option Int32) => j_76 = some r → GG p l e { frames := 2, cells := 0, slots := 0, locals := 48 } s m args below meth c 0 0 (MQ below (mQ D cT lo NB w w ad (some (.int r))) args s 0 0 (fun q => lo ≤ q)) D cT lo NB 4 ad w 76 [(3, .int x3_12l), (2, .int x2_2l), (0, .ref (ad 2)), (1, .ref (ad a1))] []) h (fun h H locs ls hP hS hl => ?_) (fun j_76 J_76 h => ?_)
                · refine y_iinc (lv' := fun (v_76 : Int32) => [(3, .int v_76), (2, .int x2_2l), (0, .ref (ad 2)), (1, .ref (ad a1))]) h F ic_1 dX8_eavesMet_76 hl (kq := 0) rfl (Nat.le_of_ble_eq_true rfl) (fun _ => rfl) (fun v_76 ls hl h => ?_)
                  refine lv_goto (tgt := 12) hx hb dX8_eavesMet_79 (by decide) ?_
                  exact ih_12 v_76 h _ _ _ hP hS (lv_sub hl [0, 1, 2, 3] rfl)
                · refine lv_icmp_ge (tgt := 76) hx hb dX8_eavesMet_31 (by decide) (fun hc => ?_) (fun hc => ?_)
                  · have h := if_t _ hc h
                    exact J_76  h _ _ _ hP hS (lv_sub hl [0, 1, 2, 3] rfl)
                  · have h := if_f _ hc h
                    refine lv_aload_n hx hb dX8_eavesMet_34 rfl (lv_at hl 3 rfl) ?_
                    refine lv_iload_n hx hb dX8_eavesMet_35 rfl (lv_at hl 0 rfl) ?_
                    obtain ⟨v_36, hc_36, h⟩ := bo_s h
                    refine x_goes (x_runV (As := [.int x3_12l]) (rest := []) F hP hS (c_X1_footOf l D cT lo NB w ad a1 hk1 ha1 x3_12l v_36 hc_36) cw_X1_footOf lk_X8_89 vi_X1_footOf hk1 (n2 ha1) rfl ⟨rfl, rfl, Nat.le_of_ble_eq_true rfl, Nat.le_of_ble_eq_true rfl⟩ hl.1 rfl (Nat.le_of_ble_eq_true rfl) dX8_eavesMet_36 ⟨Nat.zero_le _, Nat.zero_le _⟩) hS (fun H locs hP hS _ => ?_)
                    refine lv_aload_n hx hb dX8_eavesMet_39 rfl (lv_at hl 2 rfl) ?_
                    refine x_getr F hP k_2 (hP.al 2 rfl) fl_X8_17 rfl r_2_1 dX8_eavesMet_40 ?_
                    refine lv_iload_n hx hb dX8_eavesMet_43 rfl (lv_at hl 1 rfl) ?_
                    refine y_iald h F hP k_11 (n2 (hP.al 11 rfl)) dX8_eavesMet_44 (fun v_44 h => ?_)
                    refine lv_iconst (v := 5) hx hb dX8_eavesMet_45 ic_5 ?_
                    refine lv_iadd hx hb dX8_eavesMet_46 ?_
                    refine lv_icmp_ge (tgt := 76) hx hb dX8_eavesMet_47 (by decide) (fun hc => ?_) (fun hc => ?_)
                    · have h := if_t _ hc h
                      exact J_76  h _ _ _ hP hS (lv_sub hl [0, 1, 2, 3] rfl)
                    · have h := if_f _ hc h
                      refine lv_aload_n hx hb dX8_eavesMet_50 rfl (lv_at hl 3 rfl) ?_
                      refine x_getr F hP hk1 ha1 fl_X8_93 rfl (carR_8 hk1) dX8_eavesMet_51 ?_
                      have ha_a1_4 := x_al hP hk1 ha1 (show ft 1 8 = 1 from rfl) (carR_8 hk1)
                      refine lv_iload_n hx hb dX8_eavesMet_54 rfl (lv_at hl 0 rfl) ?_
                      refine y_aald h F hP (carK_8 hk1) (by decide) (by decide) (n2 ha_a1_4) (ek_rects (carK_8 hk1)) dX8_eavesMet_55 (fun q_55 hk_q_55 ha_q_55 h => ?_)
                      refine lv_aload_n hx hb dX8_eavesMet_56 rfl (lv_at hl 2 rfl) ?_
                      refine x_getr F hP k_2 (hP.al 2 rfl) fl_X8_13 rfl r_2_0 dX8_eavesMet_57 ?_
                      refine lv_iload_n hx hb dX8_eavesMet_60 rfl (lv_at hl 1 rfl) ?_
                      refine y_aald h F hP k_10 (by decide) (by decide) (n2 (hP.al 10 rfl)) ek_10 dX8_eavesMet_61 (fun q_61 hk_q_61 ha_q_61 h => ?_)
                      refine lv_aload_n hx hb dX8_eavesMet_62 rfl (lv_at hl 2 rfl) ?_
                      refine x_getr F hP k_2 (hP.al 2 rfl) fl_X8_24 rfl r_2_3 dX8_eavesMet_63 ?_
                      refine lv_iload_n hx hb dX8_eavesMet_66 rfl (lv_at hl 1 rfl) ?_
                      refine y_iald h F hP k_13 (n2 (hP.al 13 rfl)) dX8_eavesMet_67 (fun v_67 h => ?_)
                      refine x_goesZ (x_runV (As := [.ref (ad q_61), .int v_67]) (rest := []) F hP hS (c_X5_touchesBox l D cT lo NB w ad q_55 hk_q_55 ha_q_55 q_61 hk_q_61 ha_q_61 v_67) cw_X5_touchesBox lk_X8_97 vi_X5_touchesBox hk_q_55 (n2 ha_q_55) rfl ⟨rfl, rfl, Nat.le_of_ble_eq_true rfl, Nat.le_of_ble_eq_true rfl⟩ hl.1 rfl (Nat.le_of_ble_eq_true rfl) dX8_eavesMet_68 ⟨Nat.zero_le _, Nat.zero_le _⟩) hS (fun H locs hz_68 hP hS _ => ?_)
                      refine lv_if_eq (tgt := 76) hx hb dX8_eavesMet_71 (by decide) (fun hc => ?_) (fun hc => ?_)
                      · have h := if_t _ hc h
                        exact J_76  h _ _ _ hP hS (lv_sub hl [0, 1, 2, 3] rfl)
                      · have h := if_f _ hc h
                        refine lv_iload_n hx hb dX8_eavesMet_74 rfl (lv_at hl 1 rfl) ?_
                        exact y_iretO h F hr hP hS hlk dX8_eavesMet_75
          exact L_12 FU (0 : Int32) h _ _ _ hP hS (lv_sub hl [0, 1, 2, 3] rfl)
  exact L_2 FU (0 : Int32) h _ _ _ hP hS (lv_sub hl [0, 1, 2] rfl)
def l_X8_wireMet_12 (a1 : Nat) (w : Wd) (x2_2l : Int32) (j_84 : Option Int32) : Nat → Int32 → Option Int32
  | 0, _ => none
  | n_12 + 1, x3_12l =>
    q_gt w a1 7 (fun v_14 =>
    if v_14 ≤ x3_12l then
    j_84
    else
    q_ld w 17 10 x2_2l (fun v_25 =>
    if v_25 = 0 then
    q_ld w 16 10 x2_2l (fun v_34 =>
    q_bo (f_X1_footOf w a1 x3_12l) (fun v_37 =>
    q_jn (q_lt (x3_12l + (1 : Int32)) (fun v_78 =>
    l_X8_wireMet_12 a1 w x2_2l j_84 n_12 v_78)) (fun j_78 =>
    if v_34 ≤ v_37 then
    j_78
    else
    q_ld w 16 10 x2_2l (fun v_48 =>
    q_bo (f_X1_heightOf w a1 x3_12l) (fun v_51 =>
    if v_51 < v_48 then
    j_78
    else
    q_ldq w (a1 + 4) 5 x3_12l (fun q_62 =>
    q_ldq w 15 10 x2_2l (fun q_68 =>
    if (f_X5_touchesBox w q_62 q_68 (0 : Int32)) = 0 then
    j_78
    else
    some x2_2l)))))))
    else
    j_84))
def l_X8_wireMet_2 (a1 : Nat) (w : Wd) : Nat → Int32 → Option Int32
  | 0, _ => none
  | n_2 + 1, x2_2l =>
    q_gt w 2 10 (fun v_4 =>
    if v_4 ≤ x2_2l then
    some (-1 : Int32)
    else
    q_jn (q_lt (x2_2l + (1 : Int32)) (fun v_84 =>
    l_X8_wireMet_2 a1 w n_2 v_84)) (fun j_84 =>
    l_X8_wireMet_12 a1 w x2_2l j_84 FU (0 : Int32)))
def f_X8_wireMet (w : Wd) (a1 : Nat) : Option Int32 :=
l_X8_wireMet_2 a1 w FU (0 : Int32)
set_option maxRecDepth 100000 in
set_option maxHeartbeats 4000000 in
theorem c_X8_wireMet (l : Launch) (D : va_G) (cT : Nat → ClassId) (lo : Nat) (w : Wd) (ad : Nat → Nat) (a1 : Nat) (hk1 : kt a1 = (11, 0)) (ha1 : wA w a1 = 2) (r : Int32) (h : f_X8_wireMet w a1 = some r) : Met l yX8_wireMet (.code yX8_wireMet cX8_wireMet 4 (some .int) :: TW) { frames := 2, cells := 0, slots := 0, locals := 48 } (mPc D cT lo NB w ad [.ref (ad 2), .ref (ad a1)]) (mQ D cT lo NB w w ad (some (.int r))) 0 0 (fun q => lo ≤ q) := by
  unfold f_X8_wireMet at h
  refine x_met (lv := [(0, .ref (ad 2)), (1, .ref (ad a1))]) (by decide +kernel) (Nat.le_of_ble_eq_true rfl) rfl ?_
  intro p e s m args below meth c ls F hr hlk hP hin hl
  have hx := F.1
  have hb := F.2.1
  have hS : va_S (fun q => lo ≤ q) s.heap s.heap [] := va_S.rf
  refine lv_iconst (v := 0) hx hb dX8_wireMet_0 ic_0 ?_
  refine lv_istore_n (lv' := [(2, .int (0 : Int32)), (0, .ref (ad 2)), (1, .ref (ad a1))]) hx hb dX8_wireMet_1 rfl hl (Nat.le_of_ble_eq_true rfl) rfl (fun ls hl => ?_)
  have L_2 : ∀ (n_2 : Nat) (x2_2l : Int32), l_X8_wireMet_2 a1 w n_2 x2_2l = some r → GG p l e { frames := 2, cells := 0, slots := 0, locals := 48 } s m args below meth c 0 0 (MQ below (mQ D cT lo NB w w ad (some (.int r))) args s 0 0 (fun q => lo ≤ q)) D cT lo NB 4 ad w 2 [(2, .int x2_2l), (0, .ref (ad 2)), (1, .ref (ad a1))] [] := by
    intro n_2
    induction n_2 with
    | zero =>
      intro x2_2l h
      exact absurd h (by unfold l_X8_wireMet_2; exact fun z => by cases z)
    | succ n_2 ih_2 =>
      intro x2_2l h H locs ls hP hS hl
      unfold l_X8_wireMet_2 at h
      refine lv_iload_n hx hb dX8_wireMet_2 rfl (lv_at hl 0 rfl) ?_
      refine lv_aload_n hx hb dX8_wireMet_3 rfl (lv_at hl 1 rfl) ?_
      refine y_geti h F hP k_2 (n2 (hP.al 2 rfl)) fl_X8_70 rfl dX8_wireMet_4 (fun v_4 h => ?_)
      refine lv_icmp_ge (tgt := 90) hx hb dX8_wireMet_7 (by decide) (fun hc => ?_) (fun hc => ?_)
      · have h := if_t _ hc h
        refine lv_iconst (v := -1) hx hb dX8_wireMet_90 ic_m1 ?_
        exact y_iretO h F hr hP hS hlk dX8_wireMet_91
      · have h := if_f _ hc h
        refine lv_iconst (v := 0) hx hb dX8_wireMet_10 ic_0 ?_
        refine lv_istore_n (lv' := [(3, .int (0 : Int32)), (2, .int x2_2l), (0, .ref (ad 2)), (1, .ref (ad a1))]) hx hb dX8_wireMet_11 rfl hl (Nat.le_of_ble_eq_true rfl) rfl (fun ls hl => ?_)
        refine jn_use (fun (j_84 : Option Int32) => j_84 = some r → GG p l e { frames := 2, cells := 0, slots := 0, locals := 48 } s m args below meth c 0 0 (MQ below (mQ D cT lo NB w w ad (some (.int r))) args s 0 0 (fun q => lo ≤ q)) D cT lo NB 4 ad w 84 [(2, .int x2_2l), (0, .ref (ad 2)), (1, .ref (ad a1))] []) h (fun h H locs ls hP hS hl => ?_) (fun j_84 J_84 h => ?_)
        · refine y_iinc (lv' := fun (v_84 : Int32) => [(2, .int v_84), (0, .ref (ad 2)), (1, .ref (ad a1))]) h F ic_1 dX8_wireMet_84 hl (kq := 0) rfl (Nat.le_of_ble_eq_true rfl) (fun _ => rfl) (fun v_84 ls hl h => ?_)
          refine lv_goto (tgt := 2) hx hb dX8_wireMet_87 (by decide) ?_
          exact ih_2 v_84 h _ _ _ hP hS (lv_sub hl [0, 1, 2] rfl)
        · have L_12 : ∀ (n_12 : Nat) (x3_12l : Int32), l_X8_wireMet_12 a1 w x2_2l j_84 n_12 x3_12l = some r → GG p l e { frames := 2, cells := 0, slots := 0, locals := 48 } s m args below meth c 0 0 (MQ below (mQ D cT lo NB w w ad (some (.int r))) args s 0 0 (fun q => lo ≤ q)) D cT lo NB 4 ad w 12 [(3, .int x3_12l), (2, .int x2_2l), (0, .ref (ad 2)), (1, .ref (ad a1))] [] := by
            intro n_12
            induction n_12 with
            | zero =>
              intro x3_12l h
              exact absurd h (by unfold l_X8_wireMet_12; exact fun z => by cases z)
            | succ n_12 ih_12 =>
              intro x3_12l h H locs ls hP hS hl
              unfold l_X8_wireMet_12 at h
              refine lv_iload_n hx hb dX8_wireMet_12 rfl (lv_at hl 0 rfl) ?_
              refine lv_aload_n hx hb dX8_wireMet_13 rfl (lv_at hl 3 rfl) ?_
              refine y_geti h F hP hk1 (n2 ha1) fl_X8_84 rfl dX8_wireMet_14 (fun v_14 h => ?_)
              refine lv_icmp_ge (tgt := 84) hx hb dX8_wireMet_17 (by decide) (fun hc => ?_) (fun hc => ?_)
              · have h := if_t _ hc h
                exact J_84  h _ _ _ hP hS (lv_sub hl [1, 2, 3] rfl)
              · have h := if_f _ hc h
                refine lv_aload_n hx hb dX8_wireMet_20 rfl (lv_at hl 2 rfl) ?_
                refine x_getr F hP k_2 (hP.al 2 rfl) fl_X8_36 rfl r_2_9 dX8_wireMet_21 ?_
                refine lv_iload_n hx hb dX8_wireMet_24 rfl (lv_at hl 1 rfl) ?_
                refine y_zald h F hP k_17 (n2 (hP.al 17 rfl)) dX8_wireMet_25 (fun v_25 h => ?_)
                refine lv_if_ne (tgt := 84) hx hb dX8_wireMet_26 (by decide) (fun hc => ?_) (fun hc => ?_)
                · have h := if_f _ hc h
                  exact J_84  h _ _ _ hP hS (lv_sub hl [1, 2, 3] rfl)
                · have h := if_t _ hc h
                  refine lv_aload_n hx hb dX8_wireMet_29 rfl (lv_at hl 2 rfl) ?_
                  refine x_getr F hP k_2 (hP.al 2 rfl) fl_X8_33 rfl r_2_8 dX8_wireMet_30 ?_
                  refine lv_iload_n hx hb dX8_wireMet_33 rfl (lv_at hl 1 rfl) ?_
                  refine y_iald h F hP k_16 (n2 (hP.al 16 rfl)) dX8_wireMet_34 (fun v_34 h => ?_)
                  refine lv_aload_n hx hb dX8_wireMet_35 rfl (lv_at hl 3 rfl) ?_
                  refine lv_iload_n hx hb dX8_wireMet_36 rfl (lv_at hl 0 rfl) ?_
                  obtain ⟨v_37, hc_37, h⟩ := bo_s h
                  refine x_goes (x_runV (As := [.int x3_12l]) (rest := [.int v_34]) F hP hS (c_X1_footOf l D cT lo NB w ad a1 hk1 ha1 x3_12l v_37 hc_37) cw_X1_footOf lk_X8_89 vi_X1_footOf hk1 (n2 ha1) rfl ⟨rfl, rfl, Nat.le_of_ble_eq_true rfl, Nat.le_of_ble_eq_true rfl⟩ hl.1 rfl (Nat.le_of_ble_eq_true rfl) dX8_wireMet_37 ⟨Nat.zero_le _, Nat.zero_le _⟩) hS (fun H locs hP hS _ => ?_)
                  refine jn_use (fun (j_78 : Option Int32) => j_78 = some r → GG p l e { frames := 2, cells := 0, slots := 0, locals := 48 } s m args below meth c 0 0 (MQ below (mQ D cT lo NB w w ad (some (.int r))) args s 0 0 (fun q => lo ≤ q)) D cT lo NB 4 ad w 78 [(3, .int x3_12l), (2, .int x2_2l), (0, .ref (ad 2)), (1, .ref (ad a1))] []) h (fun h H locs ls hP hS hl => ?_) (fun j_78 J_78 h => ?_)
                  · refine y_iinc (lv' := fun (v_78 : Int32) => [(3, .int v_78), (2, .int x2_2l), (0, .ref (ad 2)), (1, .ref (ad a1))]) h F ic_1 dX8_wireMet_78 hl (kq := 0) rfl (Nat.le_of_ble_eq_true rfl) (fun _ => rfl) (fun v_78 ls hl h => ?_)
                    refine lv_goto (tgt := 12) hx hb dX8_wireMet_81 (by decide) ?_
                    exact ih_12 v_78 h _ _ _ hP hS (lv_sub hl [0, 1, 2, 3] rfl)
                  · refine lv_icmp_le (tgt := 78) hx hb dX8_wireMet_40 (by decide) (fun hc => ?_) (fun hc => ?_)
                    · have h := if_t _ hc h
                      exact J_78  h _ _ _ hP hS (lv_sub hl [0, 1, 2, 3] rfl)
                    · have h := if_f _ hc h
                      refine lv_aload_n hx hb dX8_wireMet_43 rfl (lv_at hl 2 rfl) ?_
                      refine x_getr F hP k_2 (hP.al 2 rfl) fl_X8_33 rfl r_2_8 dX8_wireMet_44 ?_
                      refine lv_iload_n hx hb dX8_wireMet_47 rfl (lv_at hl 1 rfl) ?_
                      refine y_iald h F hP k_16 (n2 (hP.al 16 rfl)) dX8_wireMet_48 (fun v_48 h => ?_)
                      refine lv_aload_n hx hb dX8_wireMet_49 rfl (lv_at hl 3 rfl) ?_
                      refine lv_iload_n hx hb dX8_wireMet_50 rfl (lv_at hl 0 rfl) ?_
                      obtain ⟨v_51, hc_51, h⟩ := bo_s h
                      refine x_goes (x_runV (As := [.int x3_12l]) (rest := [.int v_48]) F hP hS (c_X1_heightOf l D cT lo NB w ad a1 hk1 ha1 x3_12l v_51 hc_51) cw_X1_heightOf lk_X8_103 vi_X1_heightOf hk1 (n2 ha1) rfl ⟨rfl, rfl, Nat.le_of_ble_eq_true rfl, Nat.le_of_ble_eq_true rfl⟩ hl.1 rfl (Nat.le_of_ble_eq_true rfl) dX8_wireMet_51 ⟨Nat.zero_le _, Nat.zero_le _⟩) hS (fun H locs hP hS _ => ?_)
                      refine lv_icmp_gt (tgt := 78) hx hb dX8_wireMet_54 (by decide) (fun hc => ?_) (fun hc => ?_)
                      · have h := if_t _ hc h
                        exact J_78  h _ _ _ hP hS (lv_sub hl [0, 1, 2, 3] rfl)
                      · have h := if_f _ hc h
                        refine lv_aload_n hx hb dX8_wireMet_57 rfl (lv_at hl 3 rfl) ?_
                        refine x_getr F hP hk1 ha1 fl_X8_93 rfl (carR_8 hk1) dX8_wireMet_58 ?_
                        have ha_a1_4 := x_al hP hk1 ha1 (show ft 1 8 = 1 from rfl) (carR_8 hk1)
                        refine lv_iload_n hx hb dX8_wireMet_61 rfl (lv_at hl 0 rfl) ?_
                        refine y_aald h F hP (carK_8 hk1) (by decide) (by decide) (n2 ha_a1_4) (ek_rects (carK_8 hk1)) dX8_wireMet_62 (fun q_62 hk_q_62 ha_q_62 h => ?_)
                        refine lv_aload_n hx hb dX8_wireMet_63 rfl (lv_at hl 2 rfl) ?_
                        refine x_getr F hP k_2 (hP.al 2 rfl) fl_X8_30 rfl r_2_7 dX8_wireMet_64 ?_
                        refine lv_iload_n hx hb dX8_wireMet_67 rfl (lv_at hl 1 rfl) ?_
                        refine y_aald h F hP k_15 (by decide) (by decide) (n2 (hP.al 15 rfl)) ek_15 dX8_wireMet_68 (fun q_68 hk_q_68 ha_q_68 h => ?_)
                        refine lv_iconst (v := 0) hx hb dX8_wireMet_69 ic_0 ?_
                        refine x_goesZ (x_runV (As := [.ref (ad q_68), .int (0 : Int32)]) (rest := []) F hP hS (c_X5_touchesBox l D cT lo NB w ad q_62 hk_q_62 ha_q_62 q_68 hk_q_68 ha_q_68 (0 : Int32)) cw_X5_touchesBox lk_X8_97 vi_X5_touchesBox hk_q_62 (n2 ha_q_62) rfl ⟨rfl, rfl, Nat.le_of_ble_eq_true rfl, Nat.le_of_ble_eq_true rfl⟩ hl.1 rfl (Nat.le_of_ble_eq_true rfl) dX8_wireMet_70 ⟨Nat.zero_le _, Nat.zero_le _⟩) hS (fun H locs hz_70 hP hS _ => ?_)
                        refine lv_if_eq (tgt := 78) hx hb dX8_wireMet_73 (by decide) (fun hc => ?_) (fun hc => ?_)
                        · have h := if_t _ hc h
                          exact J_78  h _ _ _ hP hS (lv_sub hl [0, 1, 2, 3] rfl)
                        · have h := if_f _ hc h
                          refine lv_iload_n hx hb dX8_wireMet_76 rfl (lv_at hl 1 rfl) ?_
                          exact y_iretO h F hr hP hS hlk dX8_wireMet_77
          exact L_12 FU (0 : Int32) h _ _ _ hP hS (lv_sub hl [0, 1, 2, 3] rfl)
  exact L_2 FU (0 : Int32) h _ _ _ hP hS (lv_sub hl [0, 1, 2] rfl)
def l_X8_kerbMet_15 (a1 : Nat) (a2 : Int32) (a3 : Int32) (a4 : Int32) (w : Wd) (x5_3l : Int32) (j_63 : Option Int32) : Nat → Int32 → Option Int32
  | 0, _ => none
  | n_15 + 1, x6_15l =>
    if (4 : Int32) ≤ x6_15l then
    j_63
    else
    q_ldq w 14 10 x5_3l (fun q_27 =>
    if (f_X0_holdsInside w q_27 (a2 + (f_X1_wheelX w a1 x6_15l a4)) (a3 + (f_X1_wheelY w a1 x6_15l a4))) = 0 then
    q_lt (x6_15l + (1 : Int32)) (fun v_57 =>
    l_X8_kerbMet_15 a1 a2 a3 a4 w x5_3l j_63 n_15 v_57)
    else
    some x5_3l)
def l_X8_kerbMet_3 (a1 : Nat) (a2 : Int32) (a3 : Int32) (a4 : Int32) (w : Wd) : Nat → Int32 → Option Int32
  | 0, _ => none
  | n_3 + 1, x5_3l =>
    q_gt w 2 6 (fun v_6 =>
    if v_6 ≤ x5_3l then
    some (-1 : Int32)
    else
    q_jn (q_lt (x5_3l + (1 : Int32)) (fun v_63 =>
    l_X8_kerbMet_3 a1 a2 a3 a4 w n_3 v_63)) (fun j_63 =>
    l_X8_kerbMet_15 a1 a2 a3 a4 w x5_3l j_63 FU (0 : Int32)))
def f_X8_kerbMet (w : Wd) (a1 : Nat) (a2 : Int32) (a3 : Int32) (a4 : Int32) : Option Int32 :=
l_X8_kerbMet_3 a1 a2 a3 a4 w FU (0 : Int32)
set_option maxRecDepth 100000 in
set_option maxHeartbeats 4000000 in
theorem c_X8_kerbMet (l : Launch) (D : va_G) (cT : Nat → ClassId) (lo : Nat) (w : Wd) (ad : Nat → Nat) (a1 : Nat) (hk1 : kt a1 = (11, 0)) (ha1 : wA w a1 = 2) (a2 : Int32) (a3 : Int32) (a4 : Int32) (r : Int32) (h : f_X8_kerbMet w a1 a2 a3 a4 = some r) : Met l yX8_kerbMet (.code yX8_kerbMet cX8_kerbMet 7 (some .int) :: TW) { frames := 3, cells := 0, slots := 0, locals := 64 } (mPc D cT lo NB w ad [.ref (ad 2), .ref (ad a1), .int a2, .int a3, .int a4]) (mQ D cT lo NB w w ad (some (.int r))) 0 0 (fun q => lo ≤ q) := by
  unfold f_X8_kerbMet at h
  refine x_met (lv := [(0, .ref (ad 2)), (1, .ref (ad a1)), (2, .int a2), (3, .int a3), (4, .int a4)]) (by decide +kernel) (Nat.le_of_ble_eq_true rfl) rfl ?_
  intro p e s m args below meth c ls F hr hlk hP hin hl
  have hx := F.1
  have hb := F.2.1
  have hS : va_S (fun q => lo ≤ q) s.heap s.heap [] := va_S.rf
  refine lv_iconst (v := 0) hx hb dX8_kerbMet_0 ic_0 ?_
  refine lv_istore (lv' := [(5, .int (0 : Int32)), (0, .ref (ad 2)), (1, .ref (ad a1)), (2, .int a2), (3, .int a3), (4, .int a4)]) hx hb dX8_kerbMet_1 hl (Nat.le_of_ble_eq_true rfl) rfl (fun ls hl => ?_)
  have L_3 : ∀ (n_3 : Nat) (x5_3l : Int32), l_X8_kerbMet_3 a1 a2 a3 a4 w n_3 x5_3l = some r → GG p l e { frames := 3, cells := 0, slots := 0, locals := 64 } s m args below meth c 0 0 (MQ below (mQ D cT lo NB w w ad (some (.int r))) args s 0 0 (fun q => lo ≤ q)) D cT lo NB 7 ad w 3 [(5, .int x5_3l), (0, .ref (ad 2)), (1, .ref (ad a1)), (2, .int a2), (3, .int a3), (4, .int a4)] [] := by
    intro n_3
    induction n_3 with
    | zero =>
      intro x5_3l h
      exact absurd h (by unfold l_X8_kerbMet_3; exact fun z => by cases z)
    | succ n_3 ih_3 =>
      intro x5_3l h H locs ls hP hS hl
      unfold l_X8_kerbMet_3 at h
      refine lv_iload hx hb dX8_kerbMet_3 (lv_at hl 0 rfl) ?_
      refine lv_aload_n hx hb dX8_kerbMet_5 rfl (lv_at hl 1 rfl) ?_
      refine y_geti h F hP k_2 (n2 (hP.al 2 rfl)) fl_X8_67 rfl dX8_kerbMet_6 (fun v_6 h => ?_)
      refine lv_icmp_ge (tgt := 69) hx hb dX8_kerbMet_9 (by decide) (fun hc => ?_) (fun hc => ?_)
      · have h := if_t _ hc h
        refine lv_iconst (v := -1) hx hb dX8_kerbMet_69 ic_m1 ?_
        exact y_iretO h F hr hP hS hlk dX8_kerbMet_70
      · have h := if_f _ hc h
        refine lv_iconst (v := 0) hx hb dX8_kerbMet_12 ic_0 ?_
        refine lv_istore (lv' := [(6, .int (0 : Int32)), (5, .int x5_3l), (0, .ref (ad 2)), (1, .ref (ad a1)), (2, .int a2), (3, .int a3), (4, .int a4)]) hx hb dX8_kerbMet_13 hl (Nat.le_of_ble_eq_true rfl) rfl (fun ls hl => ?_)
        refine jn_use (fun (j_63 : Option Int32) => j_63 = some r → GG p l e { frames := 3, cells := 0, slots := 0, locals := 64 } s m args below meth c 0 0 (MQ below (mQ D cT lo NB w w ad (some (.int r))) args s 0 0 (fun q => lo ≤ q)) D cT lo NB 7 ad w 63 [(5, .int x5_3l), (0, .ref (ad 2)), (1, .ref (ad a1)), (2, .int a2), (3, .int a3), (4, .int a4)] []) h (fun h H locs ls hP hS hl => ?_) (fun j_63 J_63 h => ?_)
        · refine y_iinc (lv' := fun (v_63 : Int32) => [(5, .int v_63), (0, .ref (ad 2)), (1, .ref (ad a1)), (2, .int a2), (3, .int a3), (4, .int a4)]) h F ic_1 dX8_kerbMet_63 hl (kq := 0) rfl (Nat.le_of_ble_eq_true rfl) (fun _ => rfl) (fun v_63 ls hl h => ?_)
          refine lv_goto (tgt := 3) hx hb dX8_kerbMet_66 (by decide) ?_
          exact ih_3 v_63 h _ _ _ hP hS (lv_sub hl [0, 1, 2, 3, 4, 5] rfl)
        · have L_15 : ∀ (n_15 : Nat) (x6_15l : Int32), l_X8_kerbMet_15 a1 a2 a3 a4 w x5_3l j_63 n_15 x6_15l = some r → GG p l e { frames := 3, cells := 0, slots := 0, locals := 64 } s m args below meth c 0 0 (MQ below (mQ D cT lo NB w w ad (some (.int r))) args s 0 0 (fun q => lo ≤ q)) D cT lo NB 7 ad w 15 [(6, .int x6_15l), (5, .int x5_3l), (0, .ref (ad 2)), (1, .ref (ad a1)), (2, .int a2), (3, .int a3), (4, .int a4)] [] := by
            intro n_15
            induction n_15 with
            | zero =>
              intro x6_15l h
              exact absurd h (by unfold l_X8_kerbMet_15; exact fun z => by cases z)
            | succ n_15 ih_15 =>
              intro x6_15l h H locs ls hP hS hl
              unfold l_X8_kerbMet_15 at h
              refine lv_iload hx hb dX8_kerbMet_15 (lv_at hl 0 rfl) ?_
              refine lv_iconst (v := 4) hx hb dX8_kerbMet_17 ic_4 ?_
              refine lv_icmp_ge (tgt := 63) hx hb dX8_kerbMet_18 (by decide) (fun hc => ?_) (fun hc => ?_)
              · have h := if_t _ hc h
                exact J_63  h _ _ _ hP hS (lv_sub hl [1, 2, 3, 4, 5, 6] rfl)
              · have h := if_f _ hc h
                refine lv_aload_n hx hb dX8_kerbMet_21 rfl (lv_at hl 2 rfl) ?_
                refine x_getr F hP k_2 (hP.al 2 rfl) fl_X8_27 rfl r_2_5 dX8_kerbMet_22 ?_
                refine lv_iload hx hb dX8_kerbMet_25 (lv_at hl 1 rfl) ?_
                refine y_aald h F hP k_14 (by decide) (by decide) (n2 (hP.al 14 rfl)) ek_14 dX8_kerbMet_27 (fun q_27 hk_q_27 ha_q_27 h => ?_)
                refine lv_iload_n hx hb dX8_kerbMet_28 rfl (lv_at hl 4 rfl) ?_
                refine lv_aload_n hx hb dX8_kerbMet_29 rfl (lv_at hl 3 rfl) ?_
                refine lv_iload hx hb dX8_kerbMet_30 (lv_at hl 0 rfl) ?_
                refine lv_iload hx hb dX8_kerbMet_32 (lv_at hl 6 rfl) ?_
                refine x_goes (x_runV (As := [.int x6_15l, .int a4]) (rest := [.int a2, .ref (ad q_27)]) F hP hS (c_X1_wheelX l D cT lo NB w ad a1 hk1 ha1 x6_15l a4) cw_X1_wheelX lk_X8_106 vi_X1_wheelX hk1 (n2 ha1) rfl ⟨rfl, rfl, Nat.le_of_ble_eq_true rfl, Nat.le_of_ble_eq_true rfl⟩ hl.1 rfl (Nat.le_of_ble_eq_true rfl) dX8_kerbMet_34 ⟨Nat.zero_le _, Nat.zero_le _⟩) hS (fun H locs hP hS _ => ?_)
                refine lv_iadd hx hb dX8_kerbMet_37 ?_
                refine lv_iload_n hx hb dX8_kerbMet_38 rfl (lv_at hl 5 rfl) ?_
                refine lv_aload_n hx hb dX8_kerbMet_39 rfl (lv_at hl 3 rfl) ?_
                refine lv_iload hx hb dX8_kerbMet_40 (lv_at hl 0 rfl) ?_
                refine lv_iload hx hb dX8_kerbMet_42 (lv_at hl 6 rfl) ?_
                refine x_goes (x_runV (As := [.int x6_15l, .int a4]) (rest := [.int a3, .int (a2 + (f_X1_wheelX w a1 x6_15l a4)), .ref (ad q_27)]) F hP hS (c_X1_wheelY l D cT lo NB w ad a1 hk1 ha1 x6_15l a4) cw_X1_wheelY lk_X8_110 vi_X1_wheelY hk1 (n2 ha1) rfl ⟨rfl, rfl, Nat.le_of_ble_eq_true rfl, Nat.le_of_ble_eq_true rfl⟩ hl.1 rfl (Nat.le_of_ble_eq_true rfl) dX8_kerbMet_44 ⟨Nat.zero_le _, Nat.zero_le _⟩) hS (fun H locs hP hS _ => ?_)
                refine lv_iadd hx hb dX8_kerbMet_47 ?_
                refine x_goesZ (x_runV (As := [.int (a2 + (f_X1_wheelX w a1 x6_15l a4)), .int (a3 + (f_X1_wheelY w a1 x6_15l a4))]) (rest := []) F hP hS (c_X0_holdsInside l D cT lo NB w ad q_27 hk_q_27 ha_q_27 (a2 + (f_X1_wheelX w a1 x6_15l a4)) (a3 + (f_X1_wheelY w a1 x6_15l a4))) cw_X0_holdsInside lk_X8_113 vi_X0_holdsInside hk_q_27 (n2 ha_q_27) rfl ⟨rfl, rfl, Nat.le_of_ble_eq_true rfl, Nat.le_of_ble_eq_true rfl⟩ hl.1 rfl (Nat.le_of_ble_eq_true rfl) dX8_kerbMet_48 ⟨Nat.zero_le _, Nat.zero_le _⟩) hS (fun H locs hz_48 hP hS _ => ?_)
                refine lv_if_eq (tgt := 57) hx hb dX8_kerbMet_51 (by decide) (fun hc => ?_) (fun hc => ?_)
                · have h := if_t _ hc h
                  refine y_iinc (lv' := fun (v_57 : Int32) => [(6, .int v_57), (5, .int x5_3l), (0, .ref (ad 2)), (1, .ref (ad a1)), (2, .int a2), (3, .int a3), (4, .int a4)]) h F ic_1 dX8_kerbMet_57 hl (kq := 0) rfl (Nat.le_of_ble_eq_true rfl) (fun _ => rfl) (fun v_57 ls hl h => ?_)
                  refine lv_goto (tgt := 15) hx hb dX8_kerbMet_60 (by decide) ?_
                  exact ih_15 v_57 h _ _ _ hP hS (lv_sub hl [0, 1, 2, 3, 4, 5, 6] rfl)
                · have h := if_f _ hc h
                  refine lv_iload hx hb dX8_kerbMet_54 (lv_at hl 1 rfl) ?_
                  exact y_iretO h F hr hP hS hlk dX8_kerbMet_56
          exact L_15 FU (0 : Int32) h _ _ _ hP hS (lv_sub hl [0, 1, 2, 3, 4, 5, 6] rfl)
  exact L_3 FU (0 : Int32) h _ _ _ hP hS (lv_sub hl [0, 1, 2, 3, 4, 5] rfl)
def l_X8_houseOnLine_2 (a1 : Nat) (w : Wd) : Nat → Int32 → Option Int32
  | 0, _ => none
  | n_2 + 1, x2_2l =>
    q_gt w 2 4 (fun v_4 =>
    if v_4 ≤ x2_2l then
    some (-1 : Int32)
    else
    q_ldq w 10 20 x2_2l (fun q_16 =>
    if (f_X5_touchesBox w a1 q_16 (0 : Int32)) = 0 then
    q_lt (x2_2l + (1 : Int32)) (fun v_26 =>
    l_X8_houseOnLine_2 a1 w n_2 v_26)
    else
    some x2_2l))
def f_X8_houseOnLine (w : Wd) (a1 : Nat) : Option Int32 :=
l_X8_houseOnLine_2 a1 w FU (0 : Int32)
set_option maxRecDepth 100000 in
set_option maxHeartbeats 4000000 in
theorem c_X8_houseOnLine (l : Launch) (D : va_G) (cT : Nat → ClassId) (lo : Nat) (w : Wd) (ad : Nat → Nat) (a1 : Nat) (hk1 : kt a1 = (15, 0)) (ha1 : wA w a1 = 2) (r : Int32) (h : f_X8_houseOnLine w a1 = some r) : Met l yX8_houseOnLine (.code yX8_houseOnLine cX8_houseOnLine 3 (some .int) :: TW) { frames := 2, cells := 0, slots := 0, locals := 48 } (mPc D cT lo NB w ad [.ref (ad 2), .ref (ad a1)]) (mQ D cT lo NB w w ad (some (.int r))) 0 0 (fun q => lo ≤ q) := by
  unfold f_X8_houseOnLine at h
  refine x_met (lv := [(0, .ref (ad 2)), (1, .ref (ad a1))]) (by decide +kernel) (Nat.le_of_ble_eq_true rfl) rfl ?_
  intro p e s m args below meth c ls F hr hlk hP hin hl
  have hx := F.1
  have hb := F.2.1
  have hS : va_S (fun q => lo ≤ q) s.heap s.heap [] := va_S.rf
  refine lv_iconst (v := 0) hx hb dX8_houseOnLine_0 ic_0 ?_
  refine lv_istore_n (lv' := [(2, .int (0 : Int32)), (0, .ref (ad 2)), (1, .ref (ad a1))]) hx hb dX8_houseOnLine_1 rfl hl (Nat.le_of_ble_eq_true rfl) rfl (fun ls hl => ?_)
  have L_2 : ∀ (n_2 : Nat) (x2_2l : Int32), l_X8_houseOnLine_2 a1 w n_2 x2_2l = some r → GG p l e { frames := 2, cells := 0, slots := 0, locals := 48 } s m args below meth c 0 0 (MQ below (mQ D cT lo NB w w ad (some (.int r))) args s 0 0 (fun q => lo ≤ q)) D cT lo NB 3 ad w 2 [(2, .int x2_2l), (0, .ref (ad 2)), (1, .ref (ad a1))] [] := by
    intro n_2
    induction n_2 with
    | zero =>
      intro x2_2l h
      exact absurd h (by unfold l_X8_houseOnLine_2; exact fun z => by cases z)
    | succ n_2 ih_2 =>
      intro x2_2l h H locs ls hP hS hl
      unfold l_X8_houseOnLine_2 at h
      refine lv_iload_n hx hb dX8_houseOnLine_2 rfl (lv_at hl 0 rfl) ?_
      refine lv_aload_n hx hb dX8_houseOnLine_3 rfl (lv_at hl 1 rfl) ?_
      refine y_geti h F hP k_2 (n2 (hP.al 2 rfl)) fl_X8_60 rfl dX8_houseOnLine_4 (fun v_4 h => ?_)
      refine lv_icmp_ge (tgt := 32) hx hb dX8_houseOnLine_7 (by decide) (fun hc => ?_) (fun hc => ?_)
      · have h := if_t _ hc h
        refine lv_iconst (v := -1) hx hb dX8_houseOnLine_32 ic_m1 ?_
        exact y_iretO h F hr hP hS hlk dX8_houseOnLine_33
      · have h := if_f _ hc h
        refine lv_aload_n hx hb dX8_houseOnLine_10 rfl (lv_at hl 2 rfl) ?_
        refine lv_aload_n hx hb dX8_houseOnLine_11 rfl (lv_at hl 1 rfl) ?_
        refine x_getr F hP k_2 (hP.al 2 rfl) fl_X8_13 rfl r_2_0 dX8_houseOnLine_12 ?_
        refine lv_iload_n hx hb dX8_houseOnLine_15 rfl (lv_at hl 0 rfl) ?_
        refine y_aald h F hP k_10 (by decide) (by decide) (n2 (hP.al 10 rfl)) ek_10 dX8_houseOnLine_16 (fun q_16 hk_q_16 ha_q_16 h => ?_)
        refine lv_iconst (v := 0) hx hb dX8_houseOnLine_17 ic_0 ?_
        refine x_goesZ (x_runV (As := [.ref (ad q_16), .int (0 : Int32)]) (rest := []) F hP hS (c_X5_touchesBox l D cT lo NB w ad a1 hk1 ha1 q_16 hk_q_16 ha_q_16 (0 : Int32)) cw_X5_touchesBox lk_X8_97 vi_X5_touchesBox hk1 (n2 ha1) rfl ⟨rfl, rfl, Nat.le_of_ble_eq_true rfl, Nat.le_of_ble_eq_true rfl⟩ hl.1 rfl (Nat.le_of_ble_eq_true rfl) dX8_houseOnLine_18 ⟨Nat.zero_le _, Nat.zero_le _⟩) hS (fun H locs hz_18 hP hS _ => ?_)
        refine lv_if_eq (tgt := 26) hx hb dX8_houseOnLine_21 (by decide) (fun hc => ?_) (fun hc => ?_)
        · have h := if_t _ hc h
          refine y_iinc (lv' := fun (v_26 : Int32) => [(2, .int v_26), (0, .ref (ad 2)), (1, .ref (ad a1))]) h F ic_1 dX8_houseOnLine_26 hl (kq := 0) rfl (Nat.le_of_ble_eq_true rfl) (fun _ => rfl) (fun v_26 ls hl h => ?_)
          refine lv_goto (tgt := 2) hx hb dX8_houseOnLine_29 (by decide) ?_
          exact ih_2 v_26 h _ _ _ hP hS (lv_sub hl [0, 1, 2] rfl)
        · have h := if_f _ hc h
          refine lv_iload_n hx hb dX8_houseOnLine_24 rfl (lv_at hl 0 rfl) ?_
          exact y_iretO h F hr hP hS hlk dX8_houseOnLine_25
  exact L_2 FU (0 : Int32) h _ _ _ hP hS (lv_sub hl [0, 1, 2] rfl)
def l_X8_slopeAt_2 (a1 : Int32) (a2 : Int32) (w : Wd) : Nat → Int32 → Option Int32
  | 0, _ => none
  | n_2 + 1, x3_2l =>
    q_gt w 2 15 (fun v_4 =>
    if v_4 ≤ x3_2l then
    some (-1 : Int32)
    else
    q_ldq w 18 10 x3_2l (fun q_15 =>
    if (f_X0_holds w q_15 a1 a2) = 0 then
    q_lt (x3_2l + (1 : Int32)) (fun v_26 =>
    l_X8_slopeAt_2 a1 a2 w n_2 v_26)
    else
    some x3_2l))
def f_X8_slopeAt (w : Wd) (a1 : Int32) (a2 : Int32) : Option Int32 :=
l_X8_slopeAt_2 a1 a2 w FU (0 : Int32)
set_option maxRecDepth 100000 in
set_option maxHeartbeats 4000000 in
theorem c_X8_slopeAt (l : Launch) (D : va_G) (cT : Nat → ClassId) (lo : Nat) (w : Wd) (ad : Nat → Nat) (a1 : Int32) (a2 : Int32) (r : Int32) (h : f_X8_slopeAt w a1 a2 = some r) : Met l yX8_slopeAt (.code yX8_slopeAt cX8_slopeAt 4 (some .int) :: TW) { frames := 2, cells := 0, slots := 0, locals := 44 } (mPc D cT lo NB w ad [.ref (ad 2), .int a1, .int a2]) (mQ D cT lo NB w w ad (some (.int r))) 0 0 (fun q => lo ≤ q) := by
  unfold f_X8_slopeAt at h
  refine x_met (lv := [(0, .ref (ad 2)), (1, .int a1), (2, .int a2)]) (by decide +kernel) (Nat.le_of_ble_eq_true rfl) rfl ?_
  intro p e s m args below meth c ls F hr hlk hP hin hl
  have hx := F.1
  have hb := F.2.1
  have hS : va_S (fun q => lo ≤ q) s.heap s.heap [] := va_S.rf
  refine lv_iconst (v := 0) hx hb dX8_slopeAt_0 ic_0 ?_
  refine lv_istore_n (lv' := [(3, .int (0 : Int32)), (0, .ref (ad 2)), (1, .int a1), (2, .int a2)]) hx hb dX8_slopeAt_1 rfl hl (Nat.le_of_ble_eq_true rfl) rfl (fun ls hl => ?_)
  have L_2 : ∀ (n_2 : Nat) (x3_2l : Int32), l_X8_slopeAt_2 a1 a2 w n_2 x3_2l = some r → GG p l e { frames := 2, cells := 0, slots := 0, locals := 44 } s m args below meth c 0 0 (MQ below (mQ D cT lo NB w w ad (some (.int r))) args s 0 0 (fun q => lo ≤ q)) D cT lo NB 4 ad w 2 [(3, .int x3_2l), (0, .ref (ad 2)), (1, .int a1), (2, .int a2)] [] := by
    intro n_2
    induction n_2 with
    | zero =>
      intro x3_2l h
      exact absurd h (by unfold l_X8_slopeAt_2; exact fun z => by cases z)
    | succ n_2 ih_2 =>
      intro x3_2l h H locs ls hP hS hl
      unfold l_X8_slopeAt_2 at h
      refine lv_iload_n hx hb dX8_slopeAt_2 rfl (lv_at hl 0 rfl) ?_
      refine lv_aload_n hx hb dX8_slopeAt_3 rfl (lv_at hl 1 rfl) ?_
      refine y_geti h F hP k_2 (n2 (hP.al 2 rfl)) fl_X8_73 rfl dX8_slopeAt_4 (fun v_4 h => ?_)
      refine lv_icmp_ge (tgt := 32) hx hb dX8_slopeAt_7 (by decide) (fun hc => ?_) (fun hc => ?_)
      · have h := if_t _ hc h
        refine lv_iconst (v := -1) hx hb dX8_slopeAt_32 ic_m1 ?_
        exact y_iretO h F hr hP hS hlk dX8_slopeAt_33
      · have h := if_f _ hc h
        refine lv_aload_n hx hb dX8_slopeAt_10 rfl (lv_at hl 1 rfl) ?_
        refine x_getr F hP k_2 (hP.al 2 rfl) fl_X8_40 rfl r_2_11 dX8_slopeAt_11 ?_
        refine lv_iload_n hx hb dX8_slopeAt_14 rfl (lv_at hl 0 rfl) ?_
        refine y_aald h F hP k_18 (by decide) (by decide) (n2 (hP.al 18 rfl)) ek_18 dX8_slopeAt_15 (fun q_15 hk_q_15 ha_q_15 h => ?_)
        refine lv_iload_n hx hb dX8_slopeAt_16 rfl (lv_at hl 2 rfl) ?_
        refine lv_iload_n hx hb dX8_slopeAt_17 rfl (lv_at hl 3 rfl) ?_
        refine x_goesZ (x_runV (As := [.int a1, .int a2]) (rest := []) F hP hS (c_X0_holds l D cT lo NB w ad q_15 hk_q_15 ha_q_15 a1 a2) cw_X0_holds lk_X8_76 vi_X0_holds hk_q_15 (n2 ha_q_15) rfl ⟨rfl, rfl, Nat.le_of_ble_eq_true rfl, Nat.le_of_ble_eq_true rfl⟩ hl.1 rfl (Nat.le_of_ble_eq_true rfl) dX8_slopeAt_18 ⟨Nat.zero_le _, Nat.zero_le _⟩) hS (fun H locs hz_18 hP hS _ => ?_)
        refine lv_if_eq (tgt := 26) hx hb dX8_slopeAt_21 (by decide) (fun hc => ?_) (fun hc => ?_)
        · have h := if_t _ hc h
          refine y_iinc (lv' := fun (v_26 : Int32) => [(3, .int v_26), (0, .ref (ad 2)), (1, .int a1), (2, .int a2)]) h F ic_1 dX8_slopeAt_26 hl (kq := 0) rfl (Nat.le_of_ble_eq_true rfl) (fun _ => rfl) (fun v_26 ls hl h => ?_)
          refine lv_goto (tgt := 2) hx hb dX8_slopeAt_29 (by decide) ?_
          exact ih_2 v_26 h _ _ _ hP hS (lv_sub hl [0, 1, 2, 3] rfl)
        · have h := if_f _ hc h
          refine lv_iload_n hx hb dX8_slopeAt_24 rfl (lv_at hl 0 rfl) ?_
          exact y_iretO h F hr hP hS hlk dX8_slopeAt_25
  exact L_2 FU (0 : Int32) h _ _ _ hP hS (lv_sub hl [0, 1, 2, 3] rfl)
def f_X8_isSlope (w : Wd) (a1 : Int32) : Int32 :=
f_X11_within a1 (0 : Int32) ((wS w 2 15) - (1 : Int32))
set_option maxRecDepth 100000 in
set_option maxHeartbeats 4000000 in
theorem c_X8_isSlope (l : Launch) (D : va_G) (cT : Nat → ClassId) (lo : Nat) (w : Wd) (ad : Nat → Nat) (a1 : Int32) : Met l yX8_isSlope (.code yX8_isSlope cX8_isSlope 2 (some .boolean) :: TW) { frames := 1, cells := 0, slots := 0, locals := 22 } (mPc D cT lo NB w ad [.ref (ad 2), .int a1]) (mQz D cT lo NB w w ad (f_X8_isSlope w a1)) 0 0 (fun q => lo ≤ q) := by
  obtain ⟨r, h⟩ : ∃ r, f_X8_isSlope w a1 = r := ⟨_, rfl⟩
  rw [h]
  unfold f_X8_isSlope at h
  refine x_met (lv := [(0, .ref (ad 2)), (1, .int a1)]) (by decide +kernel) (Nat.le_of_ble_eq_true rfl) rfl ?_
  intro p e s m args below meth c ls F hr hlk hP hin hl
  have hx := F.1
  have hb := F.2.1
  have hS : va_S (fun q => lo ≤ q) s.heap s.heap [] := va_S.rf
  refine lv_iload_n hx hb dX8_isSlope_0 rfl (lv_at hl 1 rfl) ?_
  refine lv_iconst (v := 0) hx hb dX8_isSlope_1 ic_0 ?_
  refine lv_aload_n hx hb dX8_isSlope_2 rfl (lv_at hl 0 rfl) ?_
  refine x_geti F hP k_2 (n2 (hP.al 2 rfl)) fl_X8_73 rfl dX8_isSlope_3 ?_
  refine lv_iconst (v := 1) hx hb dX8_isSlope_6 ic_1 ?_
  refine lv_isub hx hb dX8_isSlope_7 ?_
  refine x_goesZ (x_runSN (As := [.int a1, .int (0 : Int32), .int ((wS w 2 15) - (1 : Int32))]) (rest := []) F hP hS (c_X11_within l D cT lo NB w ad a1 (0 : Int32) ((wS w 2 15) - (1 : Int32))) cw_X11_within nl_X8_56 st_X11_within ⟨rfl, rfl, Nat.le_of_ble_eq_true rfl, Nat.le_of_ble_eq_true rfl⟩ hl.1 rfl (Nat.le_of_ble_eq_true rfl) dX8_isSlope_8 ⟨Nat.zero_le _, Nat.zero_le _⟩) hS (fun H locs hz_8 hP hS _ => ?_)
  exact y_zretP h F hr hP hS hlk hz_8 dX8_isSlope_11
def f_X8_isWet (w : Wd) (a1 : Int32) : Option Int32 :=
if (f_X8_isSlope w a1) = 0 then
some (0 : Int32)
else
q_ld w 21 10 a1 (fun v_13 =>
if v_13 = 0 then
some (0 : Int32)
else
some (1 : Int32))
set_option maxRecDepth 100000 in
set_option maxHeartbeats 4000000 in
theorem c_X8_isWet (l : Launch) (D : va_G) (cT : Nat → ClassId) (lo : Nat) (w : Wd) (ad : Nat → Nat) (a1 : Int32) (r : Int32) (h : f_X8_isWet w a1 = some r) : Met l yX8_isWet (.code yX8_isWet cX8_isWet 2 (some .boolean) :: TW) { frames := 2, cells := 0, slots := 0, locals := 43 } (mPc D cT lo NB w ad [.ref (ad 2), .int a1]) (mQz D cT lo NB w w ad r) 0 0 (fun q => lo ≤ q) := by
  unfold f_X8_isWet at h
  refine x_met (lv := [(0, .ref (ad 2)), (1, .int a1)]) (by decide +kernel) (Nat.le_of_ble_eq_true rfl) rfl ?_
  intro p e s m args below meth c ls F hr hlk hP hin hl
  have hx := F.1
  have hb := F.2.1
  have hS : va_S (fun q => lo ≤ q) s.heap s.heap [] := va_S.rf
  refine lv_aload_n hx hb dX8_isWet_0 rfl (lv_at hl 0 rfl) ?_
  refine lv_iload_n hx hb dX8_isWet_1 rfl (lv_at hl 1 rfl) ?_
  refine x_goesZ (x_runV (As := [.int a1]) (rest := []) F hP hS (c_X8_isSlope l D cT lo w ad a1) cw_X8_isSlope lk_X8_80 vi_X8_isSlope k_2 (n2 (hP.al 2 rfl)) rfl ⟨rfl, rfl, Nat.le_of_ble_eq_true rfl, Nat.le_of_ble_eq_true rfl⟩ hl.1 rfl (Nat.le_of_ble_eq_true rfl) dX8_isWet_2 ⟨Nat.zero_le _, Nat.zero_le _⟩) hS (fun H locs hz_2 hP hS _ => ?_)
  refine lv_if_eq (tgt := 21) hx hb dX8_isWet_5 (by decide) (fun hc => ?_) (fun hc => ?_)
  · have h := if_t _ hc h
    refine lv_iconst (v := 0) hx hb dX8_isWet_21 ic_0 ?_
    exact y_zretO h F hr hP hS hlk rfl dX8_isWet_22
  · have h := if_f _ hc h
    refine lv_aload_n hx hb dX8_isWet_8 rfl (lv_at hl 0 rfl) ?_
    refine x_getr F hP k_2 (hP.al 2 rfl) fl_X8_49 rfl r_2_14 dX8_isWet_9 ?_
    refine lv_iload_n hx hb dX8_isWet_12 rfl (lv_at hl 1 rfl) ?_
    refine y_zald h F hP k_21 (n2 (hP.al 21 rfl)) dX8_isWet_13 (fun v_13 h => ?_)
    refine lv_if_eq (tgt := 21) hx hb dX8_isWet_14 (by decide) (fun hc => ?_) (fun hc => ?_)
    · have h := if_t _ hc h
      refine lv_iconst (v := 0) hx hb dX8_isWet_21 ic_0 ?_
      exact y_zretO h F hr hP hS hlk rfl dX8_isWet_22
    · have h := if_f _ hc h
      refine lv_iconst (v := 1) hx hb dX8_isWet_17 ic_1 ?_
      refine lv_goto (tgt := 22) hx hb dX8_isWet_18 (by decide) ?_
      exact y_zretO h F hr hP hS hlk rfl dX8_isWet_22
def f_X8_riseXOf (w : Wd) (a1 : Int32) : Option Int32 :=
if (f_X8_isSlope w a1) = 0 then
some (0 : Int32)
else
q_ld w 19 10 a1 (fun v_13 =>
some v_13)
set_option maxRecDepth 100000 in
set_option maxHeartbeats 4000000 in
theorem c_X8_riseXOf (l : Launch) (D : va_G) (cT : Nat → ClassId) (lo : Nat) (w : Wd) (ad : Nat → Nat) (a1 : Int32) (r : Int32) (h : f_X8_riseXOf w a1 = some r) : Met l yX8_riseXOf (.code yX8_riseXOf cX8_riseXOf 2 (some .int) :: TW) { frames := 2, cells := 0, slots := 0, locals := 43 } (mPc D cT lo NB w ad [.ref (ad 2), .int a1]) (mQ D cT lo NB w w ad (some (.int r))) 0 0 (fun q => lo ≤ q) := by
  unfold f_X8_riseXOf at h
  refine x_met (lv := [(0, .ref (ad 2)), (1, .int a1)]) (by decide +kernel) (Nat.le_of_ble_eq_true rfl) rfl ?_
  intro p e s m args below meth c ls F hr hlk hP hin hl
  have hx := F.1
  have hb := F.2.1
  have hS : va_S (fun q => lo ≤ q) s.heap s.heap [] := va_S.rf
  refine lv_aload_n hx hb dX8_riseXOf_0 rfl (lv_at hl 0 rfl) ?_
  refine lv_iload_n hx hb dX8_riseXOf_1 rfl (lv_at hl 1 rfl) ?_
  refine x_goesZ (x_runV (As := [.int a1]) (rest := []) F hP hS (c_X8_isSlope l D cT lo w ad a1) cw_X8_isSlope lk_X8_80 vi_X8_isSlope k_2 (n2 (hP.al 2 rfl)) rfl ⟨rfl, rfl, Nat.le_of_ble_eq_true rfl, Nat.le_of_ble_eq_true rfl⟩ hl.1 rfl (Nat.le_of_ble_eq_true rfl) dX8_riseXOf_2 ⟨Nat.zero_le _, Nat.zero_le _⟩) hS (fun H locs hz_2 hP hS _ => ?_)
  refine lv_if_eq (tgt := 17) hx hb dX8_riseXOf_5 (by decide) (fun hc => ?_) (fun hc => ?_)
  · have h := if_t _ hc h
    refine lv_iconst (v := 0) hx hb dX8_riseXOf_17 ic_0 ?_
    exact y_iretO h F hr hP hS hlk dX8_riseXOf_18
  · have h := if_f _ hc h
    refine lv_aload_n hx hb dX8_riseXOf_8 rfl (lv_at hl 0 rfl) ?_
    refine x_getr F hP k_2 (hP.al 2 rfl) fl_X8_43 rfl r_2_12 dX8_riseXOf_9 ?_
    refine lv_iload_n hx hb dX8_riseXOf_12 rfl (lv_at hl 1 rfl) ?_
    refine y_iald h F hP k_19 (n2 (hP.al 19 rfl)) dX8_riseXOf_13 (fun v_13 h => ?_)
    refine lv_goto (tgt := 18) hx hb dX8_riseXOf_14 (by decide) ?_
    exact y_iretO h F hr hP hS hlk dX8_riseXOf_18
def f_X8_riseYOf (w : Wd) (a1 : Int32) : Option Int32 :=
if (f_X8_isSlope w a1) = 0 then
some (0 : Int32)
else
q_ld w 20 10 a1 (fun v_13 =>
some v_13)
set_option maxRecDepth 100000 in
set_option maxHeartbeats 4000000 in
theorem c_X8_riseYOf (l : Launch) (D : va_G) (cT : Nat → ClassId) (lo : Nat) (w : Wd) (ad : Nat → Nat) (a1 : Int32) (r : Int32) (h : f_X8_riseYOf w a1 = some r) : Met l yX8_riseYOf (.code yX8_riseYOf cX8_riseYOf 2 (some .int) :: TW) { frames := 2, cells := 0, slots := 0, locals := 43 } (mPc D cT lo NB w ad [.ref (ad 2), .int a1]) (mQ D cT lo NB w w ad (some (.int r))) 0 0 (fun q => lo ≤ q) := by
  unfold f_X8_riseYOf at h
  refine x_met (lv := [(0, .ref (ad 2)), (1, .int a1)]) (by decide +kernel) (Nat.le_of_ble_eq_true rfl) rfl ?_
  intro p e s m args below meth c ls F hr hlk hP hin hl
  have hx := F.1
  have hb := F.2.1
  have hS : va_S (fun q => lo ≤ q) s.heap s.heap [] := va_S.rf
  refine lv_aload_n hx hb dX8_riseYOf_0 rfl (lv_at hl 0 rfl) ?_
  refine lv_iload_n hx hb dX8_riseYOf_1 rfl (lv_at hl 1 rfl) ?_
  refine x_goesZ (x_runV (As := [.int a1]) (rest := []) F hP hS (c_X8_isSlope l D cT lo w ad a1) cw_X8_isSlope lk_X8_80 vi_X8_isSlope k_2 (n2 (hP.al 2 rfl)) rfl ⟨rfl, rfl, Nat.le_of_ble_eq_true rfl, Nat.le_of_ble_eq_true rfl⟩ hl.1 rfl (Nat.le_of_ble_eq_true rfl) dX8_riseYOf_2 ⟨Nat.zero_le _, Nat.zero_le _⟩) hS (fun H locs hz_2 hP hS _ => ?_)
  refine lv_if_eq (tgt := 17) hx hb dX8_riseYOf_5 (by decide) (fun hc => ?_) (fun hc => ?_)
  · have h := if_t _ hc h
    refine lv_iconst (v := 0) hx hb dX8_riseYOf_17 ic_0 ?_
    exact y_iretO h F hr hP hS hlk dX8_riseYOf_18
  · have h := if_f _ hc h
    refine lv_aload_n hx hb dX8_riseYOf_8 rfl (lv_at hl 0 rfl) ?_
    refine x_getr F hP k_2 (hP.al 2 rfl) fl_X8_46 rfl r_2_13 dX8_riseYOf_9 ?_
    refine lv_iload_n hx hb dX8_riseYOf_12 rfl (lv_at hl 1 rfl) ?_
    refine y_iald h F hP k_20 (n2 (hP.al 20 rfl)) dX8_riseYOf_13 (fun v_13 h => ?_)
    refine lv_goto (tgt := 18) hx hb dX8_riseYOf_14 (by decide) ?_
    exact y_iretO h F hr hP hS hlk dX8_riseYOf_18
def f_X8_lower (w : Wd) (a1 : Int32) (a2 : Int32) : Option (Int32 × Wd) :=
q_gt w 2 10 (fun v_3 =>
if (f_X11_within a1 (0 : Int32) (v_3 - (1 : Int32))) = 0 then
some ((-2 : Int32), w)
else
q_ld w 17 10 a1 (fun v_22 =>
q_sz w 17 10 a1 a2 (fun w_30 =>
if v_22 = a2 then
some ((0 : Int32), w_30)
else
some ((1 : Int32), w_30))))
set_option maxRecDepth 100000 in
set_option maxHeartbeats 4000000 in
theorem c_X8_lower (l : Launch) (D : va_G) (cT : Nat → ClassId) (lo : Nat) (w : Wd) (ad : Nat → Nat) (a1 : Int32) (a2 : Int32) (r : Int32) (w9 : Wd) (h : f_X8_lower w a1 a2 = some (r, w9)) : Met l yX8_lower (.code yX8_lower cX8_lower 4 (some .int) :: TW) { frames := 1, cells := 0, slots := 0, locals := 22 } (mPc D cT lo NB w ad [.ref (ad 2), .int a1, .int a2]) (mQ D cT lo NB w w9 ad (some (.int r))) 0 0 (fun q => lo ≤ q) := by
  unfold f_X8_lower at h
  refine x_met (lv := [(0, .ref (ad 2)), (1, .int a1), (2, .int a2)]) (by decide +kernel) (Nat.le_of_ble_eq_true rfl) rfl ?_
  intro p e s m args below meth c ls F hr hlk hP hin hl
  have hx := F.1
  have hb := F.2.1
  have hS : va_S (fun q => lo ≤ q) s.heap s.heap [] := va_S.rf
  have hM_w : mono w w := mono.refl
  refine lv_iload_n hx hb dX8_lower_0 rfl (lv_at hl 1 rfl) ?_
  refine lv_iconst (v := 0) hx hb dX8_lower_1 ic_0 ?_
  refine lv_aload_n hx hb dX8_lower_2 rfl (lv_at hl 0 rfl) ?_
  refine y_geti h F hP k_2 (n2 (hP.al 2 rfl)) fl_X8_70 rfl dX8_lower_3 (fun v_3 h => ?_)
  refine lv_iconst (v := 1) hx hb dX8_lower_6 ic_1 ?_
  refine lv_isub hx hb dX8_lower_7 ?_
  refine x_goesZ (x_runSN (As := [.int a1, .int (0 : Int32), .int (v_3 - (1 : Int32))]) (rest := []) F hP hS (c_X11_within l D cT lo NB w ad a1 (0 : Int32) (v_3 - (1 : Int32))) cw_X11_within nl_X8_56 st_X11_within ⟨rfl, rfl, Nat.le_of_ble_eq_true rfl, Nat.le_of_ble_eq_true rfl⟩ hl.1 rfl (Nat.le_of_ble_eq_true rfl) dX8_lower_8 ⟨Nat.zero_le _, Nat.zero_le _⟩) hS (fun H locs hz_8 hP hS _ => ?_)
  refine lv_if_ne (tgt := 17) hx hb dX8_lower_11 (by decide) (fun hc => ?_) (fun hc => ?_)
  · have h := if_f _ hc h
    refine lv_aload_n hx hb dX8_lower_17 rfl (lv_at hl 0 rfl) ?_
    refine x_getr F hP k_2 (hP.al 2 rfl) fl_X8_36 rfl r_2_9 dX8_lower_18 ?_
    refine lv_iload_n hx hb dX8_lower_21 rfl (lv_at hl 1 rfl) ?_
    refine y_zald h F hP k_17 (n2 (hP.al 17 rfl)) dX8_lower_22 (fun v_22 h => ?_)
    refine lv_istore_n (lv' := [(3, .int v_22), (0, .ref (ad 2)), (1, .int a1), (2, .int a2)]) hx hb dX8_lower_23 rfl hl (Nat.le_of_ble_eq_true rfl) rfl (fun ls hl => ?_)
    refine lv_aload_n hx hb dX8_lower_24 rfl (lv_at hl 1 rfl) ?_
    refine x_getr F hP k_2 (hP.al 2 rfl) fl_X8_36 rfl r_2_9 dX8_lower_25 ?_
    refine lv_iload_n hx hb dX8_lower_28 rfl (lv_at hl 2 rfl) ?_
    refine lv_iload_n hx hb dX8_lower_29 rfl (lv_at hl 3 rfl) ?_
    refine y_zast h F hP hS k_17 (n2 (hP.al 17 rfl)) dX8_lower_30 (fun w_30 H locs hm h hP hS => ?_)
    have hM_w := hm
    refine lv_iload_n hx hb dX8_lower_31 rfl (lv_at hl 0 rfl) ?_
    refine lv_iload_n hx hb dX8_lower_32 rfl (lv_at hl 3 rfl) ?_
    refine lv_icmp_ne (tgt := 40) hx hb dX8_lower_33 (by decide) (fun hc => ?_) (fun hc => ?_)
    · have h := if_f _ hc h
      refine lv_iconst (v := 1) hx hb dX8_lower_40 ic_1 ?_
      exact y_iretM h F hr hP hS hM_w hlk dX8_lower_41
    · have h := if_t _ hc h
      refine lv_iconst (v := 0) hx hb dX8_lower_36 ic_0 ?_
      refine lv_goto (tgt := 41) hx hb dX8_lower_37 (by decide) ?_
      exact y_iretM h F hr hP hS hM_w hlk dX8_lower_41
  · have h := if_t _ hc h
    refine lv_bipush (v := -2) hx hb dX8_lower_14 ib_m2 ?_
    exact y_iretM h F hr hP hS mono.refl hlk dX8_lower_16
def f_X8_cutEaves (w : Wd) (a1 : Int32) (a2 : Int32) : Option (Int32 × Wd) :=
q_gt w 2 4 (fun v_3 =>
if (f_X11_within a1 (0 : Int32) (v_3 - (1 : Int32))) = 0 then
some ((-2 : Int32), w)
else
q_ld w 13 20 a1 (fun v_21 =>
if (f_X11_within a2 (0 : Int32) v_21) = 0 then
some ((-2 : Int32), w)
else
q_ld w 13 20 a1 (fun v_36 =>
q_st w 13 20 a1 a2 (fun w_44 =>
some (v_36, w_44)))))
set_option maxRecDepth 100000 in
set_option maxHeartbeats 4000000 in
theorem c_X8_cutEaves (l : Launch) (D : va_G) (cT : Nat → ClassId) (lo : Nat) (w : Wd) (ad : Nat → Nat) (a1 : Int32) (a2 : Int32) (r : Int32) (w9 : Wd) (h : f_X8_cutEaves w a1 a2 = some (r, w9)) : Met l yX8_cutEaves (.code yX8_cutEaves cX8_cutEaves 4 (some .int) :: TW) { frames := 1, cells := 0, slots := 0, locals := 22 } (mPc D cT lo NB w ad [.ref (ad 2), .int a1, .int a2]) (mQ D cT lo NB w w9 ad (some (.int r))) 0 0 (fun q => lo ≤ q) := by
  unfold f_X8_cutEaves at h
  refine x_met (lv := [(0, .ref (ad 2)), (1, .int a1), (2, .int a2)]) (by decide +kernel) (Nat.le_of_ble_eq_true rfl) rfl ?_
  intro p e s m args below meth c ls F hr hlk hP hin hl
  have hx := F.1
  have hb := F.2.1
  have hS : va_S (fun q => lo ≤ q) s.heap s.heap [] := va_S.rf
  have hM_w : mono w w := mono.refl
  refine lv_iload_n hx hb dX8_cutEaves_0 rfl (lv_at hl 1 rfl) ?_
  refine lv_iconst (v := 0) hx hb dX8_cutEaves_1 ic_0 ?_
  refine lv_aload_n hx hb dX8_cutEaves_2 rfl (lv_at hl 0 rfl) ?_
  refine y_geti h F hP k_2 (n2 (hP.al 2 rfl)) fl_X8_60 rfl dX8_cutEaves_3 (fun v_3 h => ?_)
  refine lv_iconst (v := 1) hx hb dX8_cutEaves_6 ic_1 ?_
  refine lv_isub hx hb dX8_cutEaves_7 ?_
  refine x_goesZ (x_runSN (As := [.int a1, .int (0 : Int32), .int (v_3 - (1 : Int32))]) (rest := []) F hP hS (c_X11_within l D cT lo NB w ad a1 (0 : Int32) (v_3 - (1 : Int32))) cw_X11_within nl_X8_56 st_X11_within ⟨rfl, rfl, Nat.le_of_ble_eq_true rfl, Nat.le_of_ble_eq_true rfl⟩ hl.1 rfl (Nat.le_of_ble_eq_true rfl) dX8_cutEaves_8 ⟨Nat.zero_le _, Nat.zero_le _⟩) hS (fun H locs hz_8 hP hS _ => ?_)
  refine lv_if_eq (tgt := 28) hx hb dX8_cutEaves_11 (by decide) (fun hc => ?_) (fun hc => ?_)
  · have h := if_t _ hc h
    refine lv_bipush (v := -2) hx hb dX8_cutEaves_28 ib_m2 ?_
    exact y_iretM h F hr hP hS mono.refl hlk dX8_cutEaves_30
  · have h := if_f _ hc h
    refine lv_iload_n hx hb dX8_cutEaves_14 rfl (lv_at hl 2 rfl) ?_
    refine lv_iconst (v := 0) hx hb dX8_cutEaves_15 ic_0 ?_
    refine lv_aload_n hx hb dX8_cutEaves_16 rfl (lv_at hl 0 rfl) ?_
    refine x_getr F hP k_2 (hP.al 2 rfl) fl_X8_24 rfl r_2_3 dX8_cutEaves_17 ?_
    refine lv_iload_n hx hb dX8_cutEaves_20 rfl (lv_at hl 1 rfl) ?_
    refine y_iald h F hP k_13 (n2 (hP.al 13 rfl)) dX8_cutEaves_21 (fun v_21 h => ?_)
    refine x_goesZ (x_runSN (As := [.int a2, .int (0 : Int32), .int v_21]) (rest := []) F hP hS (c_X11_within l D cT lo NB w ad a2 (0 : Int32) v_21) cw_X11_within nl_X8_56 st_X11_within ⟨rfl, rfl, Nat.le_of_ble_eq_true rfl, Nat.le_of_ble_eq_true rfl⟩ hl.1 rfl (Nat.le_of_ble_eq_true rfl) dX8_cutEaves_22 ⟨Nat.zero_le _, Nat.zero_le _⟩) hS (fun H locs hz_22 hP hS _ => ?_)
    refine lv_if_ne (tgt := 31) hx hb dX8_cutEaves_25 (by decide) (fun hc => ?_) (fun hc => ?_)
    · have h := if_f _ hc h
      refine lv_aload_n hx hb dX8_cutEaves_31 rfl (lv_at hl 0 rfl) ?_
      refine x_getr F hP k_2 (hP.al 2 rfl) fl_X8_24 rfl r_2_3 dX8_cutEaves_32 ?_
      refine lv_iload_n hx hb dX8_cutEaves_35 rfl (lv_at hl 1 rfl) ?_
      refine y_iald h F hP k_13 (n2 (hP.al 13 rfl)) dX8_cutEaves_36 (fun v_36 h => ?_)
      refine lv_istore_n (lv' := [(3, .int v_36), (0, .ref (ad 2)), (1, .int a1), (2, .int a2)]) hx hb dX8_cutEaves_37 rfl hl (Nat.le_of_ble_eq_true rfl) rfl (fun ls hl => ?_)
      refine lv_aload_n hx hb dX8_cutEaves_38 rfl (lv_at hl 1 rfl) ?_
      refine x_getr F hP k_2 (hP.al 2 rfl) fl_X8_24 rfl r_2_3 dX8_cutEaves_39 ?_
      refine lv_iload_n hx hb dX8_cutEaves_42 rfl (lv_at hl 2 rfl) ?_
      refine lv_iload_n hx hb dX8_cutEaves_43 rfl (lv_at hl 3 rfl) ?_
      refine y_iast h F hP hS k_13 (n2 (hP.al 13 rfl)) dX8_cutEaves_44 (fun w_44 H locs hm h hP hS => ?_)
      have hM_w := hm
      refine lv_iload_n hx hb dX8_cutEaves_45 rfl (lv_at hl 0 rfl) ?_
      exact y_iretM h F hr hP hS hM_w hlk dX8_cutEaves_46
    · have h := if_t _ hc h
      refine lv_bipush (v := -2) hx hb dX8_cutEaves_28 ib_m2 ?_
      exact y_iretM h F hr hP hS mono.refl hlk dX8_cutEaves_30
def l_X8_wiresThatHang_4 (w : Wd) : Nat → Int32 → Int32 → Option Int32
  | 0, _, _ => none
  | n_4 + 1, x2_4l, x1_4l =>
    q_gt w 2 10 (fun v_6 =>
    if v_6 ≤ x2_4l then
    some x1_4l
    else
    q_ld w 17 10 x2_4l (fun v_17 =>
    q_jn (fun (x1_24 : Int32) =>
    q_lt (x2_4l + (1 : Int32)) (fun v_24 =>
    l_X8_wiresThatHang_4 w n_4 v_24 x1_24)) (fun j_24 =>
    if v_17 = 0 then
    q_lt (x1_4l + (1 : Int32)) (fun v_21 =>
    j_24 v_21)
    else
    j_24 x1_4l)))
def f_X8_wiresThatHang (w : Wd) : Option Int32 :=
l_X8_wiresThatHang_4 w FU (0 : Int32) (0 : Int32)
set_option maxRecDepth 100000 in
set_option maxHeartbeats 4000000 in
theorem c_X8_wiresThatHang (l : Launch) (D : va_G) (cT : Nat → ClassId) (lo : Nat) (w : Wd) (ad : Nat → Nat)  (r : Int32) (h : f_X8_wiresThatHang w = some r) : Met l yX8_wiresThatHang (.code yX8_wiresThatHang cX8_wiresThatHang 3 (some .int) :: TW) { frames := 0, cells := 0, slots := 0, locals := 0 } (mPc D cT lo NB w ad [.ref (ad 2)]) (mQ D cT lo NB w w ad (some (.int r))) 0 0 (fun q => lo ≤ q) := by
  unfold f_X8_wiresThatHang at h
  refine x_met (lv := [(0, .ref (ad 2))]) (by decide +kernel) (Nat.le_of_ble_eq_true rfl) rfl ?_
  intro p e s m args below meth c ls F hr hlk hP hin hl
  have hx := F.1
  have hb := F.2.1
  have hS : va_S (fun q => lo ≤ q) s.heap s.heap [] := va_S.rf
  refine lv_iconst (v := 0) hx hb dX8_wiresThatHang_0 ic_0 ?_
  refine lv_istore_n (lv' := [(1, .int (0 : Int32)), (0, .ref (ad 2))]) hx hb dX8_wiresThatHang_1 rfl hl (Nat.le_of_ble_eq_true rfl) rfl (fun ls hl => ?_)
  refine lv_iconst (v := 0) hx hb dX8_wiresThatHang_2 ic_0 ?_
  refine lv_istore_n (lv' := [(2, .int (0 : Int32)), (1, .int (0 : Int32)), (0, .ref (ad 2))]) hx hb dX8_wiresThatHang_3 rfl hl (Nat.le_of_ble_eq_true rfl) rfl (fun ls hl => ?_)
  have L_4 : ∀ (n_4 : Nat) (x2_4l : Int32) (x1_4l : Int32), l_X8_wiresThatHang_4 w n_4 x2_4l x1_4l = some r → GG p l e { frames := 0, cells := 0, slots := 0, locals := 0 } s m args below meth c 0 0 (MQ below (mQ D cT lo NB w w ad (some (.int r))) args s 0 0 (fun q => lo ≤ q)) D cT lo NB 3 ad w 4 [(2, .int x2_4l), (1, .int x1_4l), (0, .ref (ad 2))] [] := by
    intro n_4
    induction n_4 with
    | zero =>
      intro x2_4l x1_4l h
      exact absurd h (by unfold l_X8_wiresThatHang_4; exact fun z => by cases z)
    | succ n_4 ih_4 =>
      intro x2_4l x1_4l h H locs ls hP hS hl
      unfold l_X8_wiresThatHang_4 at h
      refine lv_iload_n hx hb dX8_wiresThatHang_4 rfl (lv_at hl 0 rfl) ?_
      refine lv_aload_n hx hb dX8_wiresThatHang_5 rfl (lv_at hl 2 rfl) ?_
      refine y_geti h F hP k_2 (n2 (hP.al 2 rfl)) fl_X8_70 rfl dX8_wiresThatHang_6 (fun v_6 h => ?_)
      refine lv_icmp_ge (tgt := 30) hx hb dX8_wiresThatHang_9 (by decide) (fun hc => ?_) (fun hc => ?_)
      · have h := if_t _ hc h
        refine lv_iload_n hx hb dX8_wiresThatHang_30 rfl (lv_at hl 1 rfl) ?_
        exact y_iretO h F hr hP hS hlk dX8_wiresThatHang_31
      · have h := if_f _ hc h
        refine lv_aload_n hx hb dX8_wiresThatHang_12 rfl (lv_at hl 2 rfl) ?_
        refine x_getr F hP k_2 (hP.al 2 rfl) fl_X8_36 rfl r_2_9 dX8_wiresThatHang_13 ?_
        refine lv_iload_n hx hb dX8_wiresThatHang_16 rfl (lv_at hl 0 rfl) ?_
        refine y_zald h F hP k_17 (n2 (hP.al 17 rfl)) dX8_wiresThatHang_17 (fun v_17 h => ?_)
        refine jn_use (fun (j_24 : Int32 → Option Int32) => ∀ (x1_24 : Int32), j_24 x1_24 = some r → GG p l e { frames := 0, cells := 0, slots := 0, locals := 0 } s m args below meth c 0 0 (MQ below (mQ D cT lo NB w w ad (some (.int r))) args s 0 0 (fun q => lo ≤ q)) D cT lo NB 3 ad w 24 [(2, .int x2_4l), (1, .int x1_24), (0, .ref (ad 2))] []) h (fun x1_24 h H locs ls hP hS hl => ?_) (fun j_24 J_24 h => ?_)
        · refine y_iinc (lv' := fun (v_24 : Int32) => [(2, .int v_24), (1, .int x1_24), (0, .ref (ad 2))]) h F ic_1 dX8_wiresThatHang_24 hl (kq := 0) rfl (Nat.le_of_ble_eq_true rfl) (fun _ => rfl) (fun v_24 ls hl h => ?_)
          refine lv_goto (tgt := 4) hx hb dX8_wiresThatHang_27 (by decide) ?_
          exact ih_4 v_24 x1_24 h _ _ _ hP hS (lv_sub hl [0, 1, 2] rfl)
        · refine lv_if_ne (tgt := 24) hx hb dX8_wiresThatHang_18 (by decide) (fun hc => ?_) (fun hc => ?_)
          · have h := if_f _ hc h
            exact J_24 x1_4l h _ _ _ hP hS (lv_sub hl [0, 1, 2] rfl)
          · have h := if_t _ hc h
            refine y_iinc (lv' := fun (v_21 : Int32) => [(1, .int v_21), (2, .int x2_4l), (0, .ref (ad 2))]) h F ic_1 dX8_wiresThatHang_21 hl (kq := 1) rfl (Nat.le_of_ble_eq_true rfl) (fun _ => rfl) (fun v_21 ls hl h => ?_)
            exact J_24 v_21 h _ _ _ hP hS (lv_sub hl [1, 0, 2] rfl)
  exact L_4 FU (0 : Int32) (0 : Int32) h _ _ _ hP hS (lv_sub hl [0, 1, 2] rfl)
def l_X8_wetAll_4 (a1 : Int32) : Nat → Wd → Int32 → Int32 → Option (Int32 × Wd)
  | 0, _, _, _ => none
  | n_4 + 1, w_4l, x3_4l, x2_4l =>
    q_gt w_4l 2 15 (fun v_6 =>
    if v_6 ≤ x3_4l then
    some (x2_4l, w_4l)
    else
    q_ld w_4l 21 10 x3_4l (fun v_17 =>
    q_jn (fun (w_32j : Wd) (x2_32 : Int32) =>
    q_lt (x3_4l + (1 : Int32)) (fun v_32 =>
    l_X8_wetAll_4 a1 n_4 w_32j v_32 x2_32)) (fun j_32 =>
    if v_17 = a1 then
    j_32 w_4l x2_4l
    else
    q_sz w_4l 21 10 x3_4l a1 (fun w_28 =>
    q_lt (x2_4l + (1 : Int32)) (fun v_29 =>
    j_32 w_28 v_29)))))
def f_X8_wetAll (w : Wd) (a1 : Int32) : Option (Int32 × Wd) :=
l_X8_wetAll_4 a1 FU w (0 : Int32) (0 : Int32)
set_option maxRecDepth 100000 in
set_option maxHeartbeats 4000000 in
theorem c_X8_wetAll (l : Launch) (D : va_G) (cT : Nat → ClassId) (lo : Nat) (w : Wd) (ad : Nat → Nat) (a1 : Int32) (r : Int32) (w9 : Wd) (h : f_X8_wetAll w a1 = some (r, w9)) : Met l yX8_wetAll (.code yX8_wetAll cX8_wetAll 4 (some .int) :: TW) { frames := 0, cells := 0, slots := 0, locals := 0 } (mPc D cT lo NB w ad [.ref (ad 2), .int a1]) (mQ D cT lo NB w w9 ad (some (.int r))) 0 0 (fun q => lo ≤ q) := by
  unfold f_X8_wetAll at h
  refine x_met (lv := [(0, .ref (ad 2)), (1, .int a1)]) (by decide +kernel) (Nat.le_of_ble_eq_true rfl) rfl ?_
  intro p e s m args below meth c ls F hr hlk hP hin hl
  have hx := F.1
  have hb := F.2.1
  have hS : va_S (fun q => lo ≤ q) s.heap s.heap [] := va_S.rf
  have hM_w : mono w w := mono.refl
  refine lv_iconst (v := 0) hx hb dX8_wetAll_0 ic_0 ?_
  refine lv_istore_n (lv' := [(2, .int (0 : Int32)), (0, .ref (ad 2)), (1, .int a1)]) hx hb dX8_wetAll_1 rfl hl (Nat.le_of_ble_eq_true rfl) rfl (fun ls hl => ?_)
  refine lv_iconst (v := 0) hx hb dX8_wetAll_2 ic_0 ?_
  refine lv_istore_n (lv' := [(3, .int (0 : Int32)), (2, .int (0 : Int32)), (0, .ref (ad 2)), (1, .int a1)]) hx hb dX8_wetAll_3 rfl hl (Nat.le_of_ble_eq_true rfl) rfl (fun ls hl => ?_)
  have L_4 : ∀ (n_4 : Nat) (w_4l : Wd) (x3_4l : Int32) (x2_4l : Int32), mono w w_4l → l_X8_wetAll_4 a1 n_4 w_4l x3_4l x2_4l = some (r, w9) → GG p l e { frames := 0, cells := 0, slots := 0, locals := 0 } s m args below meth c 0 0 (MQ below (mQ D cT lo NB w w9 ad (some (.int r))) args s 0 0 (fun q => lo ≤ q)) D cT lo NB 4 ad w_4l 4 [(3, .int x3_4l), (2, .int x2_4l), (0, .ref (ad 2)), (1, .int a1)] [] := by
    intro n_4
    induction n_4 with
    | zero =>
      intro w_4l x3_4l x2_4l _ h
      exact absurd h (by unfold l_X8_wetAll_4; exact fun z => by cases z)
    | succ n_4 ih_4 =>
      intro w_4l x3_4l x2_4l hm h H locs ls hP hS hl
      unfold l_X8_wetAll_4 at h
      have hM_w := hm
      refine lv_iload_n hx hb dX8_wetAll_4 rfl (lv_at hl 0 rfl) ?_
      refine lv_aload_n hx hb dX8_wetAll_5 rfl (lv_at hl 2 rfl) ?_
      refine y_geti h F hP k_2 (n2 (hP.al 2 rfl)) fl_X8_73 rfl dX8_wetAll_6 (fun v_6 h => ?_)
      refine lv_icmp_ge (tgt := 38) hx hb dX8_wetAll_9 (by decide) (fun hc => ?_) (fun hc => ?_)
      · have h := if_t _ hc h
        refine lv_iload_n hx hb dX8_wetAll_38 rfl (lv_at hl 1 rfl) ?_
        exact y_iretM h F hr hP hS hM_w hlk dX8_wetAll_39
      · have h := if_f _ hc h
        refine lv_aload_n hx hb dX8_wetAll_12 rfl (lv_at hl 2 rfl) ?_
        refine x_getr F hP k_2 (hP.al 2 rfl) fl_X8_49 rfl r_2_14 dX8_wetAll_13 ?_
        refine lv_iload_n hx hb dX8_wetAll_16 rfl (lv_at hl 0 rfl) ?_
        refine y_zald h F hP k_21 (n2 (hP.al 21 rfl)) dX8_wetAll_17 (fun v_17 h => ?_)
        refine lv_iload_n hx hb dX8_wetAll_18 rfl (lv_at hl 3 rfl) ?_
        refine jn_use (fun (j_32 : Wd → Int32 → Option (Int32 × Wd)) => ∀ (w_32j : Wd) (x2_32 : Int32), mono w_4l w_32j → j_32 w_32j x2_32 = some (r, w9) → GG p l e { frames := 0, cells := 0, slots := 0, locals := 0 } s m args below meth c 0 0 (MQ below (mQ D cT lo NB w w9 ad (some (.int r))) args s 0 0 (fun q => lo ≤ q)) D cT lo NB 4 ad w_32j 32 [(3, .int x3_4l), (2, .int x2_32), (0, .ref (ad 2)), (1, .int a1)] []) h (fun w_32j x2_32 hm h H locs ls hP hS hl => ?_) (fun j_32 J_32 h => ?_)
        · have hM_w := hM_w.trans hm
          have hM_w_4l := hm
          refine y_iinc (lv' := fun (v_32 : Int32) => [(3, .int v_32), (2, .int x2_32), (0, .ref (ad 2)), (1, .int a1)]) h F ic_1 dX8_wetAll_32 hl (kq := 0) rfl (Nat.le_of_ble_eq_true rfl) (fun _ => rfl) (fun v_32 ls hl h => ?_)
          refine lv_goto (tgt := 4) hx hb dX8_wetAll_35 (by decide) ?_
          exact ih_4 w_32j v_32 x2_32 hM_w h _ _ _ hP hS (lv_sub hl [0, 1, 2, 3] rfl)
        · refine lv_icmp_eq (tgt := 32) hx hb dX8_wetAll_19 (by decide) (fun hc => ?_) (fun hc => ?_)
          · have h := if_t _ hc h
            exact J_32 w_4l x2_4l mono.refl h _ _ _ hP hS (lv_sub hl [0, 1, 2, 3] rfl)
          · have h := if_f _ hc h
            refine lv_aload_n hx hb dX8_wetAll_22 rfl (lv_at hl 2 rfl) ?_
            refine x_getr F hP k_2 (hP.al 2 rfl) fl_X8_49 rfl r_2_14 dX8_wetAll_23 ?_
            refine lv_iload_n hx hb dX8_wetAll_26 rfl (lv_at hl 0 rfl) ?_
            refine lv_iload_n hx hb dX8_wetAll_27 rfl (lv_at hl 3 rfl) ?_
            refine y_zast h F hP hS k_21 (n2 (hP.al 21 rfl)) dX8_wetAll_28 (fun w_28 H locs hm h hP hS => ?_)
            have hM_w := hM_w.trans hm
            have hM_w_4l := hm
            refine y_iinc (lv' := fun (v_29 : Int32) => [(2, .int v_29), (3, .int x3_4l), (0, .ref (ad 2)), (1, .int a1)]) h F ic_1 dX8_wetAll_29 hl (kq := 1) rfl (Nat.le_of_ble_eq_true rfl) (fun _ => rfl) (fun v_29 ls hl h => ?_)
            exact J_32 w_28 v_29 hM_w_4l h _ _ _ hP hS (lv_sub hl [1, 0, 2, 3] rfl)
  exact L_4 FU w (0 : Int32) (0 : Int32) mono.refl h _ _ _ hP hS (lv_sub hl [0, 1, 2, 3] rfl)
