theorem dX7_table_0 : decode cX7_table 0 = .ok (.iload_n 1, 1) := by decide +kernel
theorem dX7_table_1 : decode cX7_table 1 = .ok (.invokestatic 228, 3) := by decide +kernel
theorem dX7_table_4 : decode cX7_table 4 = .ok (.ifCond .eq 13, 3) := by decide +kernel
theorem dX7_table_7 : decode cX7_table 7 = .ok (.iload_n 2, 1) := by decide +kernel
theorem dX7_table_8 : decode cX7_table 8 = .ok (.iconst 0, 1) := by decide +kernel
theorem dX7_table_9 : decode cX7_table 9 = .ok (.bipush 99, 2) := by decide +kernel
theorem dX7_table_11 : decode cX7_table 11 = .ok (.invokestatic 247, 3) := by decide +kernel
theorem dX7_table_14 : decode cX7_table 14 = .ok (.ifCond .ne 5, 3) := by decide +kernel
theorem dX7_table_17 : decode cX7_table 17 = .ok (.iconst (-1), 1) := by decide +kernel
theorem dX7_table_18 : decode cX7_table 18 = .ok (.ireturn, 1) := by decide +kernel
theorem dX7_table_19 : decode cX7_table 19 = .ok (.aload_n 0, 1) := by decide +kernel
theorem dX7_table_20 : decode cX7_table 20 = .ok (.iload_n 1, 1) := by decide +kernel
theorem dX7_table_21 : decode cX7_table 21 = .ok (.iload_n 2, 1) := by decide +kernel
theorem dX7_table_22 : decode cX7_table 22 = .ok (.invokevirtual 251, 3) := by decide +kernel
theorem dX7_table_25 : decode cX7_table 25 = .ok (.astore 4, 2) := by decide +kernel
theorem dX7_table_27 : decode cX7_table 27 = .ok (.iload_n 3, 1) := by decide +kernel
theorem dX7_table_28 : decode cX7_table 28 = .ok (.tableswitch 80 0 3 #[32, 46, 60, 66], 32) := by decide +kernel
theorem dX7_table_60 : decode cX7_table 60 = .ok (.aload 4, 2) := by decide +kernel
theorem dX7_table_62 : decode cX7_table 62 = .ok (.invokevirtual 255, 3) := by decide +kernel
theorem dX7_table_65 : decode cX7_table 65 = .ok (.aload_n 0, 1) := by decide +kernel
theorem dX7_table_66 : decode cX7_table 66 = .ok (.getfield 72, 3) := by decide +kernel
theorem dX7_table_69 : decode cX7_table 69 = .ok (.invokevirtual 255, 3) := by decide +kernel
theorem dX7_table_72 : decode cX7_table 72 = .ok (.isub, 1) := by decide +kernel
theorem dX7_table_73 : decode cX7_table 73 = .ok (.ireturn, 1) := by decide +kernel
theorem dX7_table_74 : decode cX7_table 74 = .ok (.aload 4, 2) := by decide +kernel
theorem dX7_table_76 : decode cX7_table 76 = .ok (.getfield 259, 3) := by decide +kernel
theorem dX7_table_79 : decode cX7_table 79 = .ok (.aload_n 0, 1) := by decide +kernel
theorem dX7_table_80 : decode cX7_table 80 = .ok (.getfield 72, 3) := by decide +kernel
theorem dX7_table_83 : decode cX7_table 83 = .ok (.getfield 259, 3) := by decide +kernel
theorem dX7_table_86 : decode cX7_table 86 = .ok (.isub, 1) := by decide +kernel
theorem dX7_table_87 : decode cX7_table 87 = .ok (.ireturn, 1) := by decide +kernel
theorem dX7_table_88 : decode cX7_table 88 = .ok (.aload 4, 2) := by decide +kernel
theorem dX7_table_90 : decode cX7_table 90 = .ok (.getfield 221, 3) := by decide +kernel
theorem dX7_table_93 : decode cX7_table 93 = .ok (.ireturn, 1) := by decide +kernel
theorem dX7_table_94 : decode cX7_table 94 = .ok (.aload 4, 2) := by decide +kernel
theorem dX7_table_96 : decode cX7_table 96 = .ok (.invokevirtual 262, 3) := by decide +kernel
theorem dX7_table_99 : decode cX7_table 99 = .ok (.aload_n 0, 1) := by decide +kernel
theorem dX7_table_100 : decode cX7_table 100 = .ok (.getfield 72, 3) := by decide +kernel
theorem dX7_table_103 : decode cX7_table 103 = .ok (.invokevirtual 262, 3) := by decide +kernel
theorem dX7_table_106 : decode cX7_table 106 = .ok (.isub, 1) := by decide +kernel
theorem dX7_table_107 : decode cX7_table 107 = .ok (.ireturn, 1) := by decide +kernel
theorem dX7_table_108 : decode cX7_table 108 = .ok (.iconst (-1), 1) := by decide +kernel
theorem dX7_table_109 : decode cX7_table 109 = .ok (.ireturn, 1) := by decide +kernel
theorem dX7_best_0 : decode cX7_best 0 = .ok (.iload_n 1, 1) := by decide +kernel
theorem dX7_best_1 : decode cX7_best 1 = .ok (.iconst 0, 1) := by decide +kernel
theorem dX7_best_2 : decode cX7_best 2 = .ok (.bipush 99, 2) := by decide +kernel
theorem dX7_best_4 : decode cX7_best 4 = .ok (.invokestatic 247, 3) := by decide +kernel
theorem dX7_best_7 : decode cX7_best 7 = .ok (.ifCond .ne 5, 3) := by decide +kernel
theorem dX7_best_10 : decode cX7_best 10 = .ok (.iconst (-1), 1) := by decide +kernel
theorem dX7_best_11 : decode cX7_best 11 = .ok (.ireturn, 1) := by decide +kernel
theorem dX7_best_12 : decode cX7_best 12 = .ok (.iconst 0, 1) := by decide +kernel
theorem dX7_best_13 : decode cX7_best 13 = .ok (.istore_n 2, 1) := by decide +kernel
theorem dX7_best_14 : decode cX7_best 14 = .ok (.iconst (-1), 1) := by decide +kernel
theorem dX7_best_15 : decode cX7_best 15 = .ok (.istore_n 3, 1) := by decide +kernel
theorem dX7_best_16 : decode cX7_best 16 = .ok (.iconst 0, 1) := by decide +kernel
theorem dX7_best_17 : decode cX7_best 17 = .ok (.istore 4, 2) := by decide +kernel
theorem dX7_best_19 : decode cX7_best 19 = .ok (.iload 4, 2) := by decide +kernel
theorem dX7_best_21 : decode cX7_best 21 = .ok (.iconst 2, 1) := by decide +kernel
theorem dX7_best_22 : decode cX7_best 22 = .ok (.if_icmp .gt 33, 3) := by decide +kernel
theorem dX7_best_25 : decode cX7_best 25 = .ok (.aload_n 0, 1) := by decide +kernel
theorem dX7_best_26 : decode cX7_best 26 = .ok (.iload 4, 2) := by decide +kernel
theorem dX7_best_28 : decode cX7_best 28 = .ok (.iload_n 1, 1) := by decide +kernel
theorem dX7_best_29 : decode cX7_best 29 = .ok (.invokevirtual 251, 3) := by decide +kernel
theorem dX7_best_32 : decode cX7_best 32 = .ok (.invokevirtual 262, 3) := by decide +kernel
theorem dX7_best_35 : decode cX7_best 35 = .ok (.istore 5, 2) := by decide +kernel
theorem dX7_best_37 : decode cX7_best 37 = .ok (.iload 5, 2) := by decide +kernel
theorem dX7_best_39 : decode cX7_best 39 = .ok (.iload_n 3, 1) := by decide +kernel
theorem dX7_best_40 : decode cX7_best 40 = .ok (.if_icmp .le 9, 3) := by decide +kernel
theorem dX7_best_43 : decode cX7_best 43 = .ok (.iload 5, 2) := by decide +kernel
theorem dX7_best_45 : decode cX7_best 45 = .ok (.istore_n 3, 1) := by decide +kernel
theorem dX7_best_46 : decode cX7_best 46 = .ok (.iload 4, 2) := by decide +kernel
theorem dX7_best_48 : decode cX7_best 48 = .ok (.istore_n 2, 1) := by decide +kernel
theorem dX7_best_49 : decode cX7_best 49 = .ok (.iinc 4 1, 3) := by decide +kernel
theorem dX7_best_52 : decode cX7_best 52 = .ok (.goto (-33), 3) := by decide +kernel
theorem dX7_best_55 : decode cX7_best 55 = .ok (.iload_n 2, 1) := by decide +kernel
theorem dX7_best_56 : decode cX7_best 56 = .ok (.ireturn, 1) := by decide +kernel
theorem dX7_startWays_0 : decode cX7_startWays 0 = .ok (.aload_n 0, 1) := by decide +kernel
theorem dX7_startWays_1 : decode cX7_startWays 1 = .ok (.getfield 78, 3) := by decide +kernel
theorem dX7_startWays_4 : decode cX7_startWays 4 = .ok (.iconst 0, 1) := by decide +kernel
theorem dX7_startWays_5 : decode cX7_startWays 5 = .ok (.aaload, 1) := by decide +kernel
theorem dX7_startWays_6 : decode cX7_startWays 6 = .ok (.aload_n 0, 1) := by decide +kernel
theorem dX7_startWays_7 : decode cX7_startWays 7 = .ok (.getfield 72, 3) := by decide +kernel
theorem dX7_startWays_10 : decode cX7_startWays 10 = .ok (.invokevirtual 109, 3) := by decide +kernel
theorem dX7_startWays_13 : decode cX7_startWays 13 = .ok (.iconst 0, 1) := by decide +kernel
theorem dX7_startWays_14 : decode cX7_startWays 14 = .ok (.istore_n 3, 1) := by decide +kernel
theorem dX7_startWays_15 : decode cX7_startWays 15 = .ok (.iload_n 3, 1) := by decide +kernel
theorem dX7_startWays_16 : decode cX7_startWays 16 = .ok (.iload_n 1, 1) := by decide +kernel
theorem dX7_startWays_17 : decode cX7_startWays 17 = .ok (.if_icmp .ge 25, 3) := by decide +kernel
theorem dX7_startWays_20 : decode cX7_startWays 20 = .ok (.iload_n 3, 1) := by decide +kernel
theorem dX7_startWays_21 : decode cX7_startWays 21 = .ok (.aload_n 0, 1) := by decide +kernel
theorem dX7_startWays_22 : decode cX7_startWays 22 = .ok (.getfield 37, 3) := by decide +kernel
theorem dX7_startWays_25 : decode cX7_startWays 25 = .ok (.arraylength, 1) := by decide +kernel
theorem dX7_startWays_26 : decode cX7_startWays 26 = .ok (.if_icmp .ge 16, 3) := by decide +kernel
theorem dX7_startWays_29 : decode cX7_startWays 29 = .ok (.aload_n 0, 1) := by decide +kernel
theorem dX7_startWays_30 : decode cX7_startWays 30 = .ok (.getfield 37, 3) := by decide +kernel
theorem dX7_startWays_33 : decode cX7_startWays 33 = .ok (.iload_n 3, 1) := by decide +kernel
theorem dX7_startWays_34 : decode cX7_startWays 34 = .ok (.iload_n 2, 1) := by decide +kernel
theorem dX7_startWays_35 : decode cX7_startWays 35 = .ok (.iastore, 1) := by decide +kernel
theorem dX7_startWays_36 : decode cX7_startWays 36 = .ok (.iinc 3 1, 3) := by decide +kernel
theorem dX7_startWays_39 : decode cX7_startWays 39 = .ok (.goto (-24), 3) := by decide +kernel
theorem dX7_startWays_42 : decode cX7_startWays 42 = .ok (.return_, 1) := by decide +kernel
theorem dX7_power_0 : decode cX7_power 0 = .ok (.iconst 1, 1) := by decide +kernel
theorem dX7_power_1 : decode cX7_power 1 = .ok (.istore_n 2, 1) := by decide +kernel
theorem dX7_power_2 : decode cX7_power 2 = .ok (.iconst 0, 1) := by decide +kernel
theorem dX7_power_3 : decode cX7_power 3 = .ok (.istore_n 3, 1) := by decide +kernel
theorem dX7_power_4 : decode cX7_power 4 = .ok (.iload_n 3, 1) := by decide +kernel
theorem dX7_power_5 : decode cX7_power 5 = .ok (.iload_n 1, 1) := by decide +kernel
theorem dX7_power_6 : decode cX7_power 6 = .ok (.if_icmp .ge 13, 3) := by decide +kernel
theorem dX7_power_9 : decode cX7_power 9 = .ok (.iload_n 2, 1) := by decide +kernel
theorem dX7_power_10 : decode cX7_power 10 = .ok (.iload_n 0, 1) := by decide +kernel
theorem dX7_power_11 : decode cX7_power 11 = .ok (.imul, 1) := by decide +kernel
theorem dX7_power_12 : decode cX7_power 12 = .ok (.istore_n 2, 1) := by decide +kernel
theorem dX7_power_13 : decode cX7_power 13 = .ok (.iinc 3 1, 3) := by decide +kernel
theorem dX7_power_16 : decode cX7_power 16 = .ok (.goto (-12), 3) := by decide +kernel
theorem dX7_power_19 : decode cX7_power 19 = .ok (.iload_n 2, 1) := by decide +kernel
theorem dX7_power_20 : decode cX7_power 20 = .ok (.ireturn, 1) := by decide +kernel
theorem dX7_nextWay_0 : decode cX7_nextWay 0 = .ok (.iload_n 1, 1) := by decide +kernel
theorem dX7_nextWay_1 : decode cX7_nextWay 1 = .ok (.iconst 1, 1) := by decide +kernel
theorem dX7_nextWay_2 : decode cX7_nextWay 2 = .ok (.isub, 1) := by decide +kernel
theorem dX7_nextWay_3 : decode cX7_nextWay 3 = .ok (.istore 4, 2) := by decide +kernel
theorem dX7_nextWay_5 : decode cX7_nextWay 5 = .ok (.iload 4, 2) := by decide +kernel
theorem dX7_nextWay_7 : decode cX7_nextWay 7 = .ok (.ifCond .lt 42, 3) := by decide +kernel
theorem dX7_nextWay_10 : decode cX7_nextWay 10 = .ok (.aload_n 0, 1) := by decide +kernel
theorem dX7_nextWay_11 : decode cX7_nextWay 11 = .ok (.getfield 37, 3) := by decide +kernel
theorem dX7_nextWay_14 : decode cX7_nextWay 14 = .ok (.iload 4, 2) := by decide +kernel
theorem dX7_nextWay_16 : decode cX7_nextWay 16 = .ok (.iaload, 1) := by decide +kernel
theorem dX7_nextWay_17 : decode cX7_nextWay 17 = .ok (.iload_n 3, 1) := by decide +kernel
theorem dX7_nextWay_18 : decode cX7_nextWay 18 = .ok (.if_icmp .ge 17, 3) := by decide +kernel
theorem dX7_nextWay_21 : decode cX7_nextWay 21 = .ok (.aload_n 0, 1) := by decide +kernel
theorem dX7_nextWay_22 : decode cX7_nextWay 22 = .ok (.getfield 37, 3) := by decide +kernel
theorem dX7_nextWay_25 : decode cX7_nextWay 25 = .ok (.iload 4, 2) := by decide +kernel
theorem dX7_nextWay_27 : decode cX7_nextWay 27 = .ok (.dup2, 1) := by decide +kernel
theorem dX7_nextWay_28 : decode cX7_nextWay 28 = .ok (.iaload, 1) := by decide +kernel
theorem dX7_nextWay_29 : decode cX7_nextWay 29 = .ok (.iconst 1, 1) := by decide +kernel
theorem dX7_nextWay_30 : decode cX7_nextWay 30 = .ok (.iadd, 1) := by decide +kernel
theorem dX7_nextWay_31 : decode cX7_nextWay 31 = .ok (.iastore, 1) := by decide +kernel
theorem dX7_nextWay_32 : decode cX7_nextWay 32 = .ok (.iload 4, 2) := by decide +kernel
theorem dX7_nextWay_34 : decode cX7_nextWay 34 = .ok (.ireturn, 1) := by decide +kernel
theorem dX7_nextWay_35 : decode cX7_nextWay 35 = .ok (.aload_n 0, 1) := by decide +kernel
theorem dX7_nextWay_36 : decode cX7_nextWay 36 = .ok (.getfield 37, 3) := by decide +kernel
theorem dX7_nextWay_39 : decode cX7_nextWay 39 = .ok (.iload 4, 2) := by decide +kernel
theorem dX7_nextWay_41 : decode cX7_nextWay 41 = .ok (.iload_n 2, 1) := by decide +kernel
theorem dX7_nextWay_42 : decode cX7_nextWay 42 = .ok (.iastore, 1) := by decide +kernel
theorem dX7_nextWay_43 : decode cX7_nextWay 43 = .ok (.iinc 4 (-1), 3) := by decide +kernel
theorem dX7_nextWay_46 : decode cX7_nextWay 46 = .ok (.goto (-41), 3) := by decide +kernel
theorem dX7_nextWay_49 : decode cX7_nextWay 49 = .ok (.iconst 0, 1) := by decide +kernel
theorem dX7_nextWay_50 : decode cX7_nextWay 50 = .ok (.ireturn, 1) := by decide +kernel
theorem dX7_planFor_0 : decode cX7_planFor 0 = .ok (.aload_n 0, 1) := by decide +kernel
theorem dX7_planFor_1 : decode cX7_planFor 1 = .ok (.iload_n 2, 1) := by decide +kernel
theorem dX7_planFor_2 : decode cX7_planFor 2 = .ok (.iconst 1, 1) := by decide +kernel
theorem dX7_planFor_3 : decode cX7_planFor 3 = .ok (.invokevirtual 272, 3) := by decide +kernel
theorem dX7_planFor_6 : decode cX7_planFor 6 = .ok (.iconst 3, 1) := by decide +kernel
theorem dX7_planFor_7 : decode cX7_planFor 7 = .ok (.iload_n 2, 1) := by decide +kernel
theorem dX7_planFor_8 : decode cX7_planFor 8 = .ok (.invokestatic 275, 3) := by decide +kernel
theorem dX7_planFor_11 : decode cX7_planFor 11 = .ok (.istore_n 3, 1) := by decide +kernel
theorem dX7_planFor_12 : decode cX7_planFor 12 = .ok (.iconst (-1), 1) := by decide +kernel
theorem dX7_planFor_13 : decode cX7_planFor 13 = .ok (.istore 4, 2) := by decide +kernel
theorem dX7_planFor_15 : decode cX7_planFor 15 = .ok (.iconst 0, 1) := by decide +kernel
theorem dX7_planFor_16 : decode cX7_planFor 16 = .ok (.istore 5, 2) := by decide +kernel
theorem dX7_planFor_18 : decode cX7_planFor 18 = .ok (.iconst 0, 1) := by decide +kernel
theorem dX7_planFor_19 : decode cX7_planFor 19 = .ok (.istore 6, 2) := by decide +kernel
theorem dX7_planFor_21 : decode cX7_planFor 21 = .ok (.iload 6, 2) := by decide +kernel
theorem dX7_planFor_23 : decode cX7_planFor 23 = .ok (.iload_n 3, 1) := by decide +kernel
theorem dX7_planFor_24 : decode cX7_planFor 24 = .ok (.if_icmp .ge 124, 3) := by decide +kernel
theorem dX7_planFor_27 : decode cX7_planFor 27 = .ok (.iload 5, 2) := by decide +kernel
theorem dX7_planFor_29 : decode cX7_planFor 29 = .ok (.istore 7, 2) := by decide +kernel
theorem dX7_planFor_31 : decode cX7_planFor 31 = .ok (.iload 7, 2) := by decide +kernel
theorem dX7_planFor_33 : decode cX7_planFor 33 = .ok (.iload_n 2, 1) := by decide +kernel
theorem dX7_planFor_34 : decode cX7_planFor 34 = .ok (.if_icmp .ge 51, 3) := by decide +kernel
theorem dX7_planFor_37 : decode cX7_planFor 37 = .ok (.aload_n 0, 1) := by decide +kernel
theorem dX7_planFor_38 : decode cX7_planFor 38 = .ok (.getfield 78, 3) := by decide +kernel
theorem dX7_planFor_41 : decode cX7_planFor 41 = .ok (.iload 7, 2) := by decide +kernel
theorem dX7_planFor_43 : decode cX7_planFor 43 = .ok (.iconst 1, 1) := by decide +kernel
theorem dX7_planFor_44 : decode cX7_planFor 44 = .ok (.iadd, 1) := by decide +kernel
theorem dX7_planFor_45 : decode cX7_planFor 45 = .ok (.aaload, 1) := by decide +kernel
theorem dX7_planFor_46 : decode cX7_planFor 46 = .ok (.astore 8, 2) := by decide +kernel
theorem dX7_planFor_48 : decode cX7_planFor 48 = .ok (.aload 8, 2) := by decide +kernel
theorem dX7_planFor_50 : decode cX7_planFor 50 = .ok (.aload_n 0, 1) := by decide +kernel
theorem dX7_planFor_51 : decode cX7_planFor 51 = .ok (.getfield 78, 3) := by decide +kernel
theorem dX7_planFor_54 : decode cX7_planFor 54 = .ok (.iload 7, 2) := by decide +kernel
theorem dX7_planFor_56 : decode cX7_planFor 56 = .ok (.aaload, 1) := by decide +kernel
theorem dX7_planFor_57 : decode cX7_planFor 57 = .ok (.invokevirtual 109, 3) := by decide +kernel
theorem dX7_planFor_60 : decode cX7_planFor 60 = .ok (.aload 8, 2) := by decide +kernel
theorem dX7_planFor_62 : decode cX7_planFor 62 = .ok (.getfield 164, 3) := by decide +kernel
theorem dX7_planFor_65 : decode cX7_planFor 65 = .ok (.iload_n 1, 1) := by decide +kernel
theorem dX7_planFor_66 : decode cX7_planFor 66 = .ok (.aload_n 0, 1) := by decide +kernel
theorem dX7_planFor_67 : decode cX7_planFor 67 = .ok (.getfield 37, 3) := by decide +kernel
theorem dX7_planFor_70 : decode cX7_planFor 70 = .ok (.iload 7, 2) := by decide +kernel
theorem dX7_planFor_72 : decode cX7_planFor 72 = .ok (.iaload, 1) := by decide +kernel
theorem dX7_planFor_73 : decode cX7_planFor 73 = .ok (.iastore, 1) := by decide +kernel
theorem dX7_planFor_74 : decode cX7_planFor 74 = .ok (.aload 8, 2) := by decide +kernel
theorem dX7_planFor_76 : decode cX7_planFor 76 = .ok (.invokevirtual 278, 3) := by decide +kernel
theorem dX7_planFor_79 : decode cX7_planFor 79 = .ok (.iinc 7 1, 3) := by decide +kernel
theorem dX7_planFor_82 : decode cX7_planFor 82 = .ok (.goto (-51), 3) := by decide +kernel
theorem dX7_planFor_85 : decode cX7_planFor 85 = .ok (.aload_n 0, 1) := by decide +kernel
theorem dX7_planFor_86 : decode cX7_planFor 86 = .ok (.getfield 78, 3) := by decide +kernel
theorem dX7_planFor_89 : decode cX7_planFor 89 = .ok (.iload_n 2, 1) := by decide +kernel
theorem dX7_planFor_90 : decode cX7_planFor 90 = .ok (.aaload, 1) := by decide +kernel
theorem dX7_planFor_91 : decode cX7_planFor 91 = .ok (.getfield 167, 3) := by decide +kernel
theorem dX7_planFor_94 : decode cX7_planFor 94 = .ok (.iload_n 1, 1) := by decide +kernel
theorem dX7_planFor_95 : decode cX7_planFor 95 = .ok (.iaload, 1) := by decide +kernel
theorem dX7_planFor_96 : decode cX7_planFor 96 = .ok (.aload_n 0, 1) := by decide +kernel
theorem dX7_planFor_97 : decode cX7_planFor 97 = .ok (.getfield 72, 3) := by decide +kernel
theorem dX7_planFor_100 : decode cX7_planFor 100 = .ok (.getfield 167, 3) := by decide +kernel
theorem dX7_planFor_103 : decode cX7_planFor 103 = .ok (.iload_n 1, 1) := by decide +kernel
theorem dX7_planFor_104 : decode cX7_planFor 104 = .ok (.iaload, 1) := by decide +kernel
theorem dX7_planFor_105 : decode cX7_planFor 105 = .ok (.isub, 1) := by decide +kernel
theorem dX7_planFor_106 : decode cX7_planFor 106 = .ok (.istore 7, 2) := by decide +kernel
theorem dX7_planFor_108 : decode cX7_planFor 108 = .ok (.iload 7, 2) := by decide +kernel
theorem dX7_planFor_110 : decode cX7_planFor 110 = .ok (.iload 4, 2) := by decide +kernel
theorem dX7_planFor_112 : decode cX7_planFor 112 = .ok (.if_icmp .le 21, 3) := by decide +kernel
theorem dX7_planFor_115 : decode cX7_planFor 115 = .ok (.iload 7, 2) := by decide +kernel
theorem dX7_planFor_117 : decode cX7_planFor 117 = .ok (.istore 4, 2) := by decide +kernel
theorem dX7_planFor_119 : decode cX7_planFor 119 = .ok (.aload_n 0, 1) := by decide +kernel
theorem dX7_planFor_120 : decode cX7_planFor 120 = .ok (.getfield 37, 3) := by decide +kernel
theorem dX7_planFor_123 : decode cX7_planFor 123 = .ok (.iconst 0, 1) := by decide +kernel
theorem dX7_planFor_124 : decode cX7_planFor 124 = .ok (.aload_n 0, 1) := by decide +kernel
theorem dX7_planFor_125 : decode cX7_planFor 125 = .ok (.getfield 41, 3) := by decide +kernel
theorem dX7_planFor_128 : decode cX7_planFor 128 = .ok (.iconst 0, 1) := by decide +kernel
theorem dX7_planFor_129 : decode cX7_planFor 129 = .ok (.iload_n 2, 1) := by decide +kernel
theorem dX7_planFor_130 : decode cX7_planFor 130 = .ok (.invokestatic 281, 3) := by decide +kernel
theorem dX7_planFor_133 : decode cX7_planFor 133 = .ok (.aload_n 0, 1) := by decide +kernel
theorem dX7_planFor_134 : decode cX7_planFor 134 = .ok (.iload_n 2, 1) := by decide +kernel
theorem dX7_planFor_135 : decode cX7_planFor 135 = .ok (.iconst 1, 1) := by decide +kernel
theorem dX7_planFor_136 : decode cX7_planFor 136 = .ok (.iconst 3, 1) := by decide +kernel
theorem dX7_planFor_137 : decode cX7_planFor 137 = .ok (.invokevirtual 287, 3) := by decide +kernel
theorem dX7_planFor_140 : decode cX7_planFor 140 = .ok (.istore 5, 2) := by decide +kernel
theorem dX7_planFor_142 : decode cX7_planFor 142 = .ok (.iinc 6 1, 3) := by decide +kernel
theorem dX7_planFor_145 : decode cX7_planFor 145 = .ok (.goto (-124), 3) := by decide +kernel
theorem dX7_planFor_148 : decode cX7_planFor 148 = .ok (.iload 4, 2) := by decide +kernel
theorem dX7_planFor_150 : decode cX7_planFor 150 = .ok (.ireturn, 1) := by decide +kernel
theorem dX7_plan_0 : decode cX7_plan 0 = .ok (.aload_n 0, 1) := by decide +kernel
theorem dX7_plan_1 : decode cX7_plan 1 = .ok (.iload_n 1, 1) := by decide +kernel
theorem dX7_plan_2 : decode cX7_plan 2 = .ok (.invokevirtual 152, 3) := by decide +kernel
theorem dX7_plan_5 : decode cX7_plan 5 = .ok (.ifCond .eq 22, 3) := by decide +kernel
theorem dX7_plan_8 : decode cX7_plan 8 = .ok (.iload_n 2, 1) := by decide +kernel
theorem dX7_plan_9 : decode cX7_plan 9 = .ok (.iconst 1, 1) := by decide +kernel
theorem dX7_plan_10 : decode cX7_plan 10 = .ok (.bipush 6, 2) := by decide +kernel
theorem dX7_plan_12 : decode cX7_plan 12 = .ok (.invokestatic 247, 3) := by decide +kernel
theorem dX7_plan_15 : decode cX7_plan 15 = .ok (.ifCond .eq 12, 3) := by decide +kernel
theorem dX7_plan_18 : decode cX7_plan 18 = .ok (.aload_n 0, 1) := by decide +kernel
theorem dX7_plan_19 : decode cX7_plan 19 = .ok (.iload_n 1, 1) := by decide +kernel
theorem dX7_plan_20 : decode cX7_plan 20 = .ok (.iload_n 2, 1) := by decide +kernel
theorem dX7_plan_21 : decode cX7_plan 21 = .ok (.invokevirtual 268, 3) := by decide +kernel
theorem dX7_plan_24 : decode cX7_plan 24 = .ok (.goto 4, 3) := by decide +kernel
theorem dX7_plan_27 : decode cX7_plan 27 = .ok (.iconst (-1), 1) := by decide +kernel
theorem dX7_plan_28 : decode cX7_plan 28 = .ok (.ireturn, 1) := by decide +kernel
theorem dX7_planned_0 : decode cX7_planned 0 = .ok (.aload_n 0, 1) := by decide +kernel
theorem dX7_planned_1 : decode cX7_planned 1 = .ok (.iload_n 1, 1) := by decide +kernel
theorem dX7_planned_2 : decode cX7_planned 2 = .ok (.invokevirtual 152, 3) := by decide +kernel
theorem dX7_planned_5 : decode cX7_planned 5 = .ok (.ifCond .eq 17, 3) := by decide +kernel
theorem dX7_planned_8 : decode cX7_planned 8 = .ok (.iload_n 2, 1) := by decide +kernel
theorem dX7_planned_9 : decode cX7_planned 9 = .ok (.iconst 1, 1) := by decide +kernel
theorem dX7_planned_10 : decode cX7_planned 10 = .ok (.bipush 6, 2) := by decide +kernel
theorem dX7_planned_12 : decode cX7_planned 12 = .ok (.invokestatic 247, 3) := by decide +kernel
theorem dX7_planned_15 : decode cX7_planned 15 = .ok (.ifCond .eq 7, 3) := by decide +kernel
theorem dX7_planned_18 : decode cX7_planned 18 = .ok (.iload_n 3, 1) := by decide +kernel
theorem dX7_planned_19 : decode cX7_planned 19 = .ok (.ifCond .ge 5, 3) := by decide +kernel
theorem dX7_planned_22 : decode cX7_planned 22 = .ok (.iconst (-1), 1) := by decide +kernel
theorem dX7_planned_23 : decode cX7_planned 23 = .ok (.ireturn, 1) := by decide +kernel
theorem dX7_planned_24 : decode cX7_planned 24 = .ok (.iload_n 3, 1) := by decide +kernel
theorem dX7_planned_25 : decode cX7_planned 25 = .ok (.iload_n 2, 1) := by decide +kernel
theorem dX7_planned_26 : decode cX7_planned 26 = .ok (.if_icmp .lt 6, 3) := by decide +kernel
theorem dX7_planned_29 : decode cX7_planned 29 = .ok (.bipush (-2), 2) := by decide +kernel
theorem dX7_planned_31 : decode cX7_planned 31 = .ok (.ireturn, 1) := by decide +kernel
theorem dX7_planned_32 : decode cX7_planned 32 = .ok (.aload_n 0, 1) := by decide +kernel
theorem dX7_planned_33 : decode cX7_planned 33 = .ok (.iload_n 1, 1) := by decide +kernel
theorem dX7_planned_34 : decode cX7_planned 34 = .ok (.iload_n 2, 1) := by decide +kernel
theorem dX7_planned_35 : decode cX7_planned 35 = .ok (.invokevirtual 268, 3) := by decide +kernel
theorem dX7_planned_38 : decode cX7_planned 38 = .ok (.pop, 1) := by decide +kernel
theorem dX7_planned_39 : decode cX7_planned 39 = .ok (.aload_n 0, 1) := by decide +kernel
theorem dX7_planned_40 : decode cX7_planned 40 = .ok (.getfield 41, 3) := by decide +kernel
theorem dX7_planned_43 : decode cX7_planned 43 = .ok (.iload_n 3, 1) := by decide +kernel
theorem dX7_planned_44 : decode cX7_planned 44 = .ok (.iaload, 1) := by decide +kernel
theorem dX7_planned_45 : decode cX7_planned 45 = .ok (.ireturn, 1) := by decide +kernel
theorem dX7_mayCome_0 : decode cX7_mayCome 0 = .ok (.aload_n 0, 1) := by decide +kernel
theorem dX7_mayCome_1 : decode cX7_mayCome 1 = .ok (.iload_n 1, 1) := by decide +kernel
theorem dX7_mayCome_2 : decode cX7_mayCome 2 = .ok (.invokevirtual 152, 3) := by decide +kernel
theorem dX7_mayCome_5 : decode cX7_mayCome 5 = .ok (.ifCond .eq 68, 3) := by decide +kernel
theorem dX7_mayCome_8 : decode cX7_mayCome 8 = .ok (.aload_n 0, 1) := by decide +kernel
theorem dX7_mayCome_9 : decode cX7_mayCome 9 = .ok (.iload_n 2, 1) := by decide +kernel
theorem dX7_mayCome_10 : decode cX7_mayCome 10 = .ok (.invokevirtual 152, 3) := by decide +kernel
theorem dX7_mayCome_13 : decode cX7_mayCome 13 = .ok (.ifCond .eq 60, 3) := by decide +kernel
theorem dX7_mayCome_16 : decode cX7_mayCome 16 = .ok (.iload_n 1, 1) := by decide +kernel
theorem dX7_mayCome_17 : decode cX7_mayCome 17 = .ok (.iload_n 2, 1) := by decide +kernel
theorem dX7_mayCome_18 : decode cX7_mayCome 18 = .ok (.if_icmp .eq 55, 3) := by decide +kernel
theorem dX7_mayCome_21 : decode cX7_mayCome 21 = .ok (.iload_n 3, 1) := by decide +kernel
theorem dX7_mayCome_22 : decode cX7_mayCome 22 = .ok (.iconst 1, 1) := by decide +kernel
theorem dX7_mayCome_23 : decode cX7_mayCome 23 = .ok (.bipush 99, 2) := by decide +kernel
theorem dX7_mayCome_25 : decode cX7_mayCome 25 = .ok (.invokestatic 247, 3) := by decide +kernel
theorem dX7_mayCome_28 : decode cX7_mayCome 28 = .ok (.ifCond .eq 45, 3) := by decide +kernel
theorem dX7_mayCome_31 : decode cX7_mayCome 31 = .ok (.aload_n 0, 1) := by decide +kernel
theorem dX7_mayCome_32 : decode cX7_mayCome 32 = .ok (.getfield 72, 3) := by decide +kernel
theorem dX7_mayCome_35 : decode cX7_mayCome 35 = .ok (.getfield 161, 3) := by decide +kernel
theorem dX7_mayCome_38 : decode cX7_mayCome 38 = .ok (.iload_n 1, 1) := by decide +kernel
theorem dX7_mayCome_39 : decode cX7_mayCome 39 = .ok (.iaload, 1) := by decide +kernel
theorem dX7_mayCome_40 : decode cX7_mayCome 40 = .ok (.aload_n 0, 1) := by decide +kernel
theorem dX7_mayCome_41 : decode cX7_mayCome 41 = .ok (.getfield 72, 3) := by decide +kernel
theorem dX7_mayCome_44 : decode cX7_mayCome 44 = .ok (.getfield 241, 3) := by decide +kernel
theorem dX7_mayCome_47 : decode cX7_mayCome 47 = .ok (.if_icmp .le 26, 3) := by decide +kernel
theorem dX7_mayCome_50 : decode cX7_mayCome 50 = .ok (.aload_n 0, 1) := by decide +kernel
theorem dX7_mayCome_51 : decode cX7_mayCome 51 = .ok (.getfield 72, 3) := by decide +kernel
theorem dX7_mayCome_54 : decode cX7_mayCome 54 = .ok (.getfield 161, 3) := by decide +kernel
theorem dX7_mayCome_57 : decode cX7_mayCome 57 = .ok (.iload_n 2, 1) := by decide +kernel
theorem dX7_mayCome_58 : decode cX7_mayCome 58 = .ok (.iaload, 1) := by decide +kernel
theorem dX7_mayCome_59 : decode cX7_mayCome 59 = .ok (.aload_n 0, 1) := by decide +kernel
theorem dX7_mayCome_60 : decode cX7_mayCome 60 = .ok (.getfield 72, 3) := by decide +kernel
theorem dX7_mayCome_63 : decode cX7_mayCome 63 = .ok (.getfield 241, 3) := by decide +kernel
theorem dX7_mayCome_66 : decode cX7_mayCome 66 = .ok (.if_icmp .le 7, 3) := by decide +kernel
theorem dX7_mayCome_69 : decode cX7_mayCome 69 = .ok (.iconst 1, 1) := by decide +kernel
theorem dX7_mayCome_70 : decode cX7_mayCome 70 = .ok (.goto 4, 3) := by decide +kernel
theorem dX7_mayCome_73 : decode cX7_mayCome 73 = .ok (.iconst 0, 1) := by decide +kernel
theorem dX7_mayCome_74 : decode cX7_mayCome 74 = .ok (.ireturn, 1) := by decide +kernel
def f_X7_table (N : Nat) (h : Hp) (p1 : Int32) (p2 : Int32) (p3 : Int32) : Option (Int32 × Hp) :=
  (f_X7_isRule p1).bind fun v1 =>
  jn (
    some ((-1), h)) fun (j17 : Option (Int32 × Hp)) =>
  if (b2i v1) = 0 then
    j17
  else
  (f_X7_isIn p2 0 99).bind fun v2 =>
  if ¬ (b2i v2) = 0 then
    bd2 (f_X7_ruledBy N h p1 p2) fun o4 h3 =>
    if p3 = 0 then
      (f_X3_allGot N h3 o4).bind fun v5 =>
      (f_X3_allGot N h3 1).bind fun v6 =>
      some ((v5 - v6), h3)
    else
    if p3 = 1 then
      some (((gI h3 3 o4 13) - (gI h3 3 1 13)), h3)
    else
    if p3 = 2 then
      some ((gI h3 3 o4 12), h3)
    else
    if p3 = 3 then
      (f_X3_allGains N h3 o4).bind fun v7 =>
      (f_X3_allGains N h3 1).bind fun v8 =>
      some ((v7 - v8), h3)
    else
    some ((-1), h3)
  else
  j17
abbrev rmX7_table : Room := { frames := 7, cells := 0, slots := 0, locals := 172 }
set_option maxRecDepth 100000 in
set_option maxHeartbeats 4000000 in
theorem w_X7_table (X : Cx) (F : Fx X cX7_table RX7 (some .int) rmX7_table) (hA : xA X = Aw (xG X)) (hL : xL X = 5) (N : Nat) (h : Hp) (p1 : Int32) (p2 : Int32) (p3 : Int32) : Wm X (fun v => some (.int v.1)) (fun v => v.2) (fun _ => True) 0 [(0, .ref (adr (xG X) 7 0 0)), (1, .int p1), (2, .int p2), (3, .int p3)] [] h (f_X7_table N h p1 p2 p3) := by
  have hS : ∀ i : Nat, i < 5 → i < xL X := fun i z => by rw [hL]; exact z
  unfold f_X7_table
  refine r_iload_n F 1 rfl dX7_table_0 rfl ?_
  refine k_zP (run_S F csX7_228 (c_X7_isRule (xG X) _ h p1) rfl rfl ⟨⟨rfl, rfl⟩, Nat.le_of_ble_eq_true rfl, Nat.le_of_ble_eq_true rfl⟩ (Nat.le_of_ble_eq_true rfl) dX7_table_1) fun v1 _ => ?_
  refine Wt_jn (fun (j17 : Option (Int32 × Hp)) => Wm X (fun v => some (.int v.1)) (fun v => v.2) (fun _ => True) 17 [] [] h (j17)) ?_ fun j17 hj17 => ?_
  · skip
    refine r_iconst F (v := (-1)) dX7_table_17 (by decide) ?_
    exact r_iret F hA rfl rfl trivial dX7_table_18
  refine r_ifeq F (tgt := 17) dX7_table_4 (by decide) ?_ ?_
  · skip
    exact Wt_pick [] rfl (hj17)
  refine r_iload_n F 2 rfl dX7_table_7 rfl ?_
  refine r_iconst F (v := 0) dX7_table_8 (by decide) ?_
  refine r_bipush F (v := 99) dX7_table_9 (by decide) ?_
  refine k_zP (run_S F csX7_247 (c_X7_isIn (xG X) _ h p2 0 99) rfl rfl ⟨⟨rfl, rfl⟩, Nat.le_of_ble_eq_true rfl, Nat.le_of_ble_eq_true rfl⟩ (Nat.le_of_ble_eq_true rfl) dX7_table_11) fun v2 _ => ?_
  refine r_ifne F (tgt := 19) dX7_table_14 (by decide) ?_ ?_
  · skip
    refine r_aload_n F 0 rfl dX7_table_19 rfl ?_
    refine r_iload_n F 1 rfl dX7_table_20 rfl ?_
    refine r_iload_n F 2 rfl dX7_table_21 rfl ?_
    refine k_rH (run_V F cvX7_251 (by decide) (c_X7_ruledBy (xG X) _ N h p1 p2) rfl rfl ⟨⟨rfl, rfl⟩, Nat.le_of_ble_eq_true rfl, Nat.le_of_ble_eq_true rfl⟩ (Nat.le_of_ble_eq_true rfl) dX7_table_22) fun o4 h3 hp_o4 => ?_
    refine r_astore F [(4, .ref (adr (xG X) 3 o4 0)), (0, .ref (adr (xG X) 7 0 0)), (1, .int p1), (2, .int p2), (3, .int p3)] rfl dX7_table_25 (hS _ (by decide)) ?_
    refine r_iload_n F 4 rfl dX7_table_27 rfl ?_
    refine r_tsc F (tgt := 60) 0 0 dX7_table_28 rfl (by decide) (by decide) (by decide) ?_ fun n0 => ?_
    · skip
      refine r_aload F 0 rfl dX7_table_60 ?_
      refine k_iP (run_V F cvX7_255 hp_o4 (c_X3_allGot (xG X) _ N h3 o4 hp_o4) rfl rfl ⟨⟨rfl, rfl⟩, Nat.le_of_ble_eq_true rfl, Nat.le_of_ble_eq_true rfl⟩ (Nat.le_of_ble_eq_true rfl) dX7_table_62) fun v5 _ => ?_
      refine r_aload_n F 1 rfl dX7_table_65 rfl ?_
      refine r_getS F frX7_72 (by decide) 1 rfl dX7_table_66 ?_
      refine k_iP (run_V F cvX7_255 (by decide) (c_X3_allGot (xG X) _ N h3 1 (by decide)) rfl rfl ⟨⟨rfl, rfl⟩, Nat.le_of_ble_eq_true rfl, Nat.le_of_ble_eq_true rfl⟩ (Nat.le_of_ble_eq_true rfl) dX7_table_69) fun v6 _ => ?_
      refine r_isub F dX7_table_72 ?_
      exact r_iret F hA rfl rfl trivial dX7_table_73
    refine r_tsc F (tgt := 74) 1 1 dX7_table_28 rfl (by decide) (by decide) (by decide) ?_ fun n1 => ?_
    · skip
      refine r_aload F 0 rfl dX7_table_74 ?_
      refine r_getI F frX7_259 hp_o4 dX7_table_76 ?_
      refine r_aload_n F 1 rfl dX7_table_79 rfl ?_
      refine r_getS F frX7_72 (by decide) 1 rfl dX7_table_80 ?_
      refine r_getI F frX7_259 (by decide) dX7_table_83 ?_
      refine r_isub F dX7_table_86 ?_
      exact r_iret F hA rfl rfl trivial dX7_table_87
    refine r_tsc F (tgt := 88) 2 2 dX7_table_28 rfl (by decide) (by decide) (by decide) ?_ fun n2 => ?_
    · skip
      refine r_aload F 0 rfl dX7_table_88 ?_
      refine r_getI F frX7_221 hp_o4 dX7_table_90 ?_
      exact r_iret F hA rfl rfl trivial dX7_table_93
    refine r_tsc F (tgt := 94) 3 3 dX7_table_28 rfl (by decide) (by decide) (by decide) ?_ fun n3 => ?_
    · skip
      refine r_aload F 0 rfl dX7_table_94 ?_
      refine k_iP (run_V F cvX7_262 hp_o4 (c_X3_allGains (xG X) _ N h3 o4 hp_o4) rfl rfl ⟨⟨rfl, rfl⟩, Nat.le_of_ble_eq_true rfl, Nat.le_of_ble_eq_true rfl⟩ (Nat.le_of_ble_eq_true rfl) dX7_table_96) fun v7 _ => ?_
      refine r_aload_n F 1 rfl dX7_table_99 rfl ?_
      refine r_getS F frX7_72 (by decide) 1 rfl dX7_table_100 ?_
      refine k_iP (run_V F cvX7_262 (by decide) (c_X3_allGains (xG X) _ N h3 1 (by decide)) rfl rfl ⟨⟨rfl, rfl⟩, Nat.le_of_ble_eq_true rfl, Nat.le_of_ble_eq_true rfl⟩ (Nat.le_of_ble_eq_true rfl) dX7_table_103) fun v8 _ => ?_
      refine r_isub F dX7_table_106 ?_
      exact r_iret F hA rfl rfl trivial dX7_table_107
    refine r_tsd F (tgt := 108) dX7_table_28 (by have e0 := lv_neT n0 (a := 0) (by decide); have e1 := lv_neT n1 (a := 1) (by decide); have e2 := lv_neT n2 (a := 2) (by decide); have e3 := lv_neT n3 (a := 3) (by decide); omega) (by decide) ?_
    refine r_iconst F (v := (-1)) dX7_table_108 (by decide) ?_
    exact r_iret F hA rfl rfl trivial dX7_table_109
  exact Wt_pick [] rfl (hj17)
theorem c_X7_table (G : Gx) (l : Launch) (N : Nat) (h : Hp) (p1 : Int32) (p2 : Int32) (p3 : Int32) : Ctr G l yX7_table (.code yX7_table cX7_table 5 (some .int) :: GT) rmX7_table [.ref (adr G 7 0 0), .int p1, .int p2, .int p3] h (f_X7_table N h p1 p2 p3) (fun v => some (.int v.1)) (fun v => v.2) (fun _ => True) :=
  ctr_of (by decide) (Nat.le_of_ble_eq_true rfl) ⟨rfl, rfl⟩ fun X _ e2 hA hL F => by subst e2; exact w_X7_table X F hA hL N h p1 p2 p3
def f_X7_best_19 (N : Nat) (p1 : Int32) (r19 : Int32 → Int32 → Int32 → Hp → Option (Int32 × Hp)) (v2 : Int32) (v3 : Int32) (v4 : Int32) (h5 : Hp) : Option (Int32 × Hp) :=
  if 2 < v4 then
    some (v2, h5)
  else
  bd2 (f_X7_ruledBy N h5 v4 p1) fun o7 h6 =>
  (f_X3_allGains N h6 o7).bind fun v8 =>
  jn (fun (v9 : Int32) (v10 : Int32) =>
    lt_ (v4 + 1) fun v11 =>
    r19 v9 v10 v11 h6) fun (j49 : Int32 → Int32 → Option (Int32 × Hp)) =>
  if v8 ≤ v3 then
    j49 v2 v3
  else
  j49 v4 v8
def f_X7_best (N : Nat) (h : Hp) (p1 : Int32) : Option (Int32 × Hp) :=
  (f_X7_isIn p1 0 99).bind fun v1 =>
  if ¬ (b2i v1) = 0 then
    iter (fun _ _ _ _ => none) (f_X7_best_19 N p1) N 0 (-1) 0 h
  else
  some ((-1), h)
abbrev rmX7_best : Room := { frames := 7, cells := 0, slots := 0, locals := 172 }
set_option maxRecDepth 100000 in
set_option maxHeartbeats 4000000 in
theorem w_X7_best (X : Cx) (F : Fx X cX7_best RX7 (some .int) rmX7_best) (hA : xA X = Aw (xG X)) (hL : xL X = 6) (N : Nat) (h : Hp) (p1 : Int32) : Wm X (fun v => some (.int v.1)) (fun v => v.2) (fun _ => True) 0 [(0, .ref (adr (xG X) 7 0 0)), (1, .int p1)] [] h (f_X7_best N h p1) := by
  have hS : ∀ i : Nat, i < 6 → i < xL X := fun i z => by rw [hL]; exact z
  unfold f_X7_best
  refine r_iload_n F 1 rfl dX7_best_0 rfl ?_
  refine r_iconst F (v := 0) dX7_best_1 (by decide) ?_
  refine r_bipush F (v := 99) dX7_best_2 (by decide) ?_
  refine k_zP (run_S F csX7_247 (c_X7_isIn (xG X) _ h p1 0 99) rfl rfl ⟨⟨rfl, rfl⟩, Nat.le_of_ble_eq_true rfl, Nat.le_of_ble_eq_true rfl⟩ (Nat.le_of_ble_eq_true rfl) dX7_best_4) fun v1 _ => ?_
  refine r_ifne F (tgt := 12) dX7_best_7 (by decide) ?_ ?_
  · skip
    refine r_iconst F (v := 0) dX7_best_12 (by decide) ?_
    refine r_istore_n F [(2, .int 0), (0, .ref (adr (xG X) 7 0 0)), (1, .int p1)] rfl dX7_best_13 rfl (hS _ (by decide)) ?_
    refine r_iconst F (v := (-1)) dX7_best_14 (by decide) ?_
    refine r_istore_n F [(3, .int (-1)), (2, .int 0), (0, .ref (adr (xG X) 7 0 0)), (1, .int p1)] rfl dX7_best_15 rfl (hS _ (by decide)) ?_
    refine r_iconst F (v := 0) dX7_best_16 (by decide) ?_
    refine r_istore F [(4, .int 0), (3, .int (-1)), (2, .int 0), (0, .ref (adr (xG X) 7 0 0)), (1, .int p1)] rfl dX7_best_17 (hS _ (by decide)) ?_
    have hl19 : ∀ n : Nat, ∀ v2 : Int32, ∀ v3 : Int32, ∀ v4 : Int32, ∀ h5 : Hp, Wm X (fun v => some (.int v.1)) (fun v => v.2) (fun _ => True) 19 [(0, .ref (adr (xG X) 7 0 0)), (1, .int p1), (2, .int v2), (3, .int v3), (4, .int v4)] [] h5 (iter (fun _ _ _ _ => none) (f_X7_best_19 N p1) n v2 v3 v4 h5) := by
      intro n
      induction n with
      | zero => intro v2 v3 v4 h5; exact Wt_none
      | succ n ih =>
        revert ih
        show (∀ v2 : Int32, ∀ v3 : Int32, ∀ v4 : Int32, ∀ h5 : Hp, Wm X (fun v => some (.int v.1)) (fun v => v.2) (fun _ => True) 19 [(0, .ref (adr (xG X) 7 0 0)), (1, .int p1), (2, .int v2), (3, .int v3), (4, .int v4)] [] h5 (iter (fun _ _ _ _ => none) (f_X7_best_19 N p1) n v2 v3 v4 h5)) → _
        intro ih19 v2 v3 v4 h5
        show Wm X (fun v => some (.int v.1)) (fun v => v.2) (fun _ => True) 19 [(0, .ref (adr (xG X) 7 0 0)), (1, .int p1), (2, .int v2), (3, .int v3), (4, .int v4)] [] h5 (f_X7_best_19 N p1 (iter (fun _ _ _ _ => none) (f_X7_best_19 N p1) n) v2 v3 v4 h5)
        revert ih19
        generalize iter (fun _ _ _ _ => none) (f_X7_best_19 N p1) n = r19
        intro ih19
        unfold f_X7_best_19
        refine r_iload F 4 rfl dX7_best_19 ?_
        refine r_iconst F (v := 2) dX7_best_21 (by decide) ?_
        refine r_icmpgt F (tgt := 55) dX7_best_22 (by decide) ?_ ?_
        · skip
          refine r_iload_n F 2 rfl dX7_best_55 rfl ?_
          exact r_iret F hA rfl rfl trivial dX7_best_56
        refine r_aload_n F 0 rfl dX7_best_25 rfl ?_
        refine r_iload F 4 rfl dX7_best_26 ?_
        refine r_iload_n F 1 rfl dX7_best_28 rfl ?_
        refine k_rH (run_V F cvX7_251 (by decide) (c_X7_ruledBy (xG X) _ N h5 v4 p1) rfl rfl ⟨⟨rfl, rfl⟩, Nat.le_of_ble_eq_true rfl, Nat.le_of_ble_eq_true rfl⟩ (Nat.le_of_ble_eq_true rfl) dX7_best_29) fun o7 h6 hp_o7 => ?_
        refine k_iP (run_V F cvX7_262 hp_o7 (c_X3_allGains (xG X) _ N h6 o7 hp_o7) rfl rfl ⟨⟨rfl, rfl⟩, Nat.le_of_ble_eq_true rfl, Nat.le_of_ble_eq_true rfl⟩ (Nat.le_of_ble_eq_true rfl) dX7_best_32) fun v8 _ => ?_
        refine r_istore F [(5, .int v8), (0, .ref (adr (xG X) 7 0 0)), (1, .int p1), (2, .int v2), (3, .int v3), (4, .int v4)] rfl dX7_best_35 (hS _ (by decide)) ?_
        refine r_iload F 0 rfl dX7_best_37 ?_
        refine r_iload_n F 4 rfl dX7_best_39 rfl ?_
        refine Wt_jn (fun (j49 : Int32 → Int32 → Option (Int32 × Hp)) => ∀ v9 : Int32, ∀ v10 : Int32, Wm X (fun v => some (.int v.1)) (fun v => v.2) (fun _ => True) 49 [(0, .ref (adr (xG X) 7 0 0)), (1, .int p1), (2, .int v9), (3, .int v10), (4, .int v4)] [] h6 (j49 v9 v10)) ?_ fun j49 hj49 => ?_
        · intro v9 v10
          refine r_iinc F (v := 1) 4 rfl (by decide) (fun v11 => [(4, .int v11), (0, .ref (adr (xG X) 7 0 0)), (1, .int p1), (2, .int v9), (3, .int v10)]) (fun _ => rfl) dX7_best_49 (hS _ (by decide)) fun v11 => ?_
          refine r_goto F (tgt := 19) dX7_best_52 (by decide) ?_
          exact Wt_pick [1, 2, 3, 4, 0] rfl (ih19 v9 v10 v11 h6)
        refine r_icmple F (tgt := 49) dX7_best_40 (by decide) ?_ ?_
        · skip
          exact Wt_pick [1, 2, 3, 4, 5] rfl (hj49 v2 v3)
        refine r_iload F 0 rfl dX7_best_43 ?_
        refine r_istore_n F [(3, .int v8), (5, .int v8), (0, .ref (adr (xG X) 7 0 0)), (1, .int p1), (2, .int v2), (4, .int v4)] rfl dX7_best_45 rfl (hS _ (by decide)) ?_
        refine r_iload F 5 rfl dX7_best_46 ?_
        refine r_istore_n F [(2, .int v4), (3, .int v8), (5, .int v8), (0, .ref (adr (xG X) 7 0 0)), (1, .int p1), (4, .int v4)] rfl dX7_best_48 rfl (hS _ (by decide)) ?_
        exact Wt_pick [3, 4, 0, 1, 5] rfl (hj49 v4 v8)
    exact Wt_pick [3, 4, 2, 1, 0] rfl (hl19 N 0 (-1) 0 h)
  refine r_iconst F (v := (-1)) dX7_best_10 (by decide) ?_
  exact r_iret F hA rfl rfl trivial dX7_best_11
theorem c_X7_best (G : Gx) (l : Launch) (N : Nat) (h : Hp) (p1 : Int32) : Ctr G l yX7_best (.code yX7_best cX7_best 6 (some .int) :: GT) rmX7_best [.ref (adr G 7 0 0), .int p1] h (f_X7_best N h p1) (fun v => some (.int v.1)) (fun v => v.2) (fun _ => True) :=
  ctr_of (by decide) (Nat.le_of_ble_eq_true rfl) ⟨rfl, rfl⟩ fun X _ e2 hA hL F => by subst e2; exact w_X7_best X F hA hL N h p1
def f_X7_startWays_15 (p1 : Int32) (p2 : Int32) (r15 : Int32 → Hp → Option Hp) (v3 : Int32) (h4 : Hp) : Option Hp :=
  jn (
    some h4) fun (j42 : Option Hp) =>
  if p1 ≤ v3 then
    j42
  else
  if 6 ≤ v3 then
    j42
  else
  grd (inb v3 6) <| lt_ (sA h4 7 0 0 v3.toNatClampNeg p2) fun h5 =>
  lt_ (v3 + 1) fun v6 =>
  r15 v6 h5
def f_X7_startWays (N : Nat) (h : Hp) (p1 : Int32) (p2 : Int32) : Option Hp :=
  grd (inb 0 7) <| lt_ (3 + (0 : Int32).toNatClampNeg) fun o1 =>
  (f_X3_copy h o1 1).bind fun h2 =>
  iter (fun _ _ => none) (f_X7_startWays_15 p1 p2) N 0 h2
abbrev rmX7_startWays : Room := { frames := 2, cells := 0, slots := 0, locals := 39 }
set_option maxRecDepth 100000 in
set_option maxHeartbeats 4000000 in
theorem w_X7_startWays (X : Cx) (F : Fx X cX7_startWays RX7 none rmX7_startWays) (hA : xA X = Aw (xG X)) (hL : xL X = 4) (N : Nat) (h : Hp) (p1 : Int32) (p2 : Int32) : Wm X (fun _ => none) (fun v => v) (fun _ => True) 0 [(0, .ref (adr (xG X) 7 0 0)), (1, .int p1), (2, .int p2)] [] h (f_X7_startWays N h p1 p2) := by
  have hS : ∀ i : Nat, i < 4 → i < xL X := fun i z => by rw [hL]; exact z
  unfold f_X7_startWays
  refine r_aload_n F 0 rfl dX7_startWays_0 rfl ?_
  refine r_getA F frX7_78 (by decide) dX7_startWays_1 ?_
  refine r_iconst F (v := 0) dX7_startWays_4 (by decide) ?_
  refine r_aaload F dX7_startWays_5 fun o1 hp_o1 => ?_
  refine r_aload_n F 0 rfl dX7_startWays_6 rfl ?_
  refine r_getS F frX7_72 (by decide) 1 rfl dX7_startWays_7 ?_
  refine k_vH (run_V F cvX7_109 hp_o1 (c_X3_copy (xG X) _ h o1 hp_o1 1 (by decide)) rfl rfl ⟨⟨rfl, rfl⟩, Nat.le_of_ble_eq_true rfl, Nat.le_of_ble_eq_true rfl⟩ (Nat.le_of_ble_eq_true rfl) dX7_startWays_10) fun h2 => ?_
  refine r_iconst F (v := 0) dX7_startWays_13 (by decide) ?_
  refine r_istore_n F [(3, .int 0), (0, .ref (adr (xG X) 7 0 0)), (1, .int p1), (2, .int p2)] rfl dX7_startWays_14 rfl (hS _ (by decide)) ?_
  have hl15 : ∀ n : Nat, ∀ v3 : Int32, ∀ h4 : Hp, Wm X (fun _ => none) (fun v => v) (fun _ => True) 15 [(0, .ref (adr (xG X) 7 0 0)), (1, .int p1), (2, .int p2), (3, .int v3)] [] h4 (iter (fun _ _ => none) (f_X7_startWays_15 p1 p2) n v3 h4) := by
    intro n
    induction n with
    | zero => intro v3 h4; exact Wt_none
    | succ n ih =>
      revert ih
      show (∀ v3 : Int32, ∀ h4 : Hp, Wm X (fun _ => none) (fun v => v) (fun _ => True) 15 [(0, .ref (adr (xG X) 7 0 0)), (1, .int p1), (2, .int p2), (3, .int v3)] [] h4 (iter (fun _ _ => none) (f_X7_startWays_15 p1 p2) n v3 h4)) → _
      intro ih15 v3 h4
      show Wm X (fun _ => none) (fun v => v) (fun _ => True) 15 [(0, .ref (adr (xG X) 7 0 0)), (1, .int p1), (2, .int p2), (3, .int v3)] [] h4 (f_X7_startWays_15 p1 p2 (iter (fun _ _ => none) (f_X7_startWays_15 p1 p2) n) v3 h4)
      revert ih15
      generalize iter (fun _ _ => none) (f_X7_startWays_15 p1 p2) n = r15
      intro ih15
      unfold f_X7_startWays_15
      refine r_iload_n F 3 rfl dX7_startWays_15 rfl ?_
      refine r_iload_n F 1 rfl dX7_startWays_16 rfl ?_
      refine Wt_jn (fun (j42 : Option Hp) => Wm X (fun _ => none) (fun v => v) (fun _ => True) 42 [] [] h4 (j42)) ?_ fun j42 hj42 => ?_
      · skip
        exact r_vret F hA rfl rfl trivial dX7_startWays_42
      refine r_icmpge F (tgt := 42) dX7_startWays_17 (by decide) ?_ ?_
      · skip
        exact Wt_pick [] rfl (hj42)
      refine r_iload_n F 3 rfl dX7_startWays_20 rfl ?_
      refine r_aload_n F 0 rfl dX7_startWays_21 rfl ?_
      refine r_getA F frX7_37 (by decide) dX7_startWays_22 ?_
      refine r_alen0 F (v := 6) (ar_7_0 0 (by decide)) (by decide) dX7_startWays_25 ?_
      refine r_icmpge F (tgt := 42) dX7_startWays_26 (by decide) ?_ ?_
      · skip
        exact Wt_pick [] rfl (hj42)
      refine r_aload_n F 0 rfl dX7_startWays_29 rfl ?_
      refine r_getA F frX7_37 (by decide) dX7_startWays_30 ?_
      refine r_iload_n F 3 rfl dX7_startWays_33 rfl ?_
      refine r_iload_n F 2 rfl dX7_startWays_34 rfl ?_
      refine r_iastore F (ar_7_0 0 (by decide)) dX7_startWays_35 fun h5 => ?_
      refine r_iinc F (v := 1) 3 rfl (by decide) (fun v6 => [(3, .int v6), (0, .ref (adr (xG X) 7 0 0)), (1, .int p1), (2, .int p2)]) (fun _ => rfl) dX7_startWays_36 (hS _ (by decide)) fun v6 => ?_
      refine r_goto F (tgt := 15) dX7_startWays_39 (by decide) ?_
      exact Wt_pick [1, 2, 3, 0] rfl (ih15 v6 h5)
  exact Wt_pick [1, 2, 3, 0] rfl (hl15 N 0 h2)
theorem c_X7_startWays (G : Gx) (l : Launch) (N : Nat) (h : Hp) (p1 : Int32) (p2 : Int32) : Ctr G l yX7_startWays (.code yX7_startWays cX7_startWays 4 none :: GT) rmX7_startWays [.ref (adr G 7 0 0), .int p1, .int p2] h (f_X7_startWays N h p1 p2) (fun _ => none) (fun v => v) (fun _ => True) :=
  ctr_of (by decide) (Nat.le_of_ble_eq_true rfl) ⟨rfl, rfl⟩ fun X _ e2 hA hL F => by subst e2; exact w_X7_startWays X F hA hL N h p1 p2
def f_X7_power_4 (p0 : Int32) (p1 : Int32) (r4 : Int32 → Int32 → Option Int32) (v1 : Int32) (v2 : Int32) : Option Int32 :=
  if p1 ≤ v2 then
    some v1
  else
  lt_ ((v1 * p0)) fun v3 =>
  lt_ (v2 + 1) fun v4 =>
  r4 v3 v4
def f_X7_power (N : Nat) (p0 : Int32) (p1 : Int32) : Option Int32 :=
  iter (fun _ _ => none) (f_X7_power_4 p0 p1) N 1 0
abbrev rmX7_power : Room := { frames := 0, cells := 0, slots := 0, locals := 0 }
set_option maxRecDepth 100000 in
set_option maxHeartbeats 4000000 in
theorem w_X7_power (X : Cx) (F : Fx X cX7_power RX7 (some .int) rmX7_power) (hA : xA X = Aw (xG X)) (hL : xL X = 4) (h : Hp) (N : Nat) (p0 : Int32) (p1 : Int32) : Wm X (fun v => some (.int v)) (fun _ => h) (fun _ => True) 0 [(0, .int p0), (1, .int p1)] [] h (f_X7_power N p0 p1) := by
  have hS : ∀ i : Nat, i < 4 → i < xL X := fun i z => by rw [hL]; exact z
  unfold f_X7_power
  refine r_iconst F (v := 1) dX7_power_0 (by decide) ?_
  refine r_istore_n F [(2, .int 1), (0, .int p0), (1, .int p1)] rfl dX7_power_1 rfl (hS _ (by decide)) ?_
  refine r_iconst F (v := 0) dX7_power_2 (by decide) ?_
  refine r_istore_n F [(3, .int 0), (2, .int 1), (0, .int p0), (1, .int p1)] rfl dX7_power_3 rfl (hS _ (by decide)) ?_
  have hl4 : ∀ n : Nat, ∀ v1 : Int32, ∀ v2 : Int32, Wm X (fun v => some (.int v)) (fun _ => h) (fun _ => True) 4 [(0, .int p0), (1, .int p1), (2, .int v1), (3, .int v2)] [] h (iter (fun _ _ => none) (f_X7_power_4 p0 p1) n v1 v2) := by
    intro n
    induction n with
    | zero => intro v1 v2; exact Wt_none
    | succ n ih =>
      revert ih
      show (∀ v1 : Int32, ∀ v2 : Int32, Wm X (fun v => some (.int v)) (fun _ => h) (fun _ => True) 4 [(0, .int p0), (1, .int p1), (2, .int v1), (3, .int v2)] [] h (iter (fun _ _ => none) (f_X7_power_4 p0 p1) n v1 v2)) → _
      intro ih4 v1 v2
      show Wm X (fun v => some (.int v)) (fun _ => h) (fun _ => True) 4 [(0, .int p0), (1, .int p1), (2, .int v1), (3, .int v2)] [] h (f_X7_power_4 p0 p1 (iter (fun _ _ => none) (f_X7_power_4 p0 p1) n) v1 v2)
      revert ih4
      generalize iter (fun _ _ => none) (f_X7_power_4 p0 p1) n = r4
      intro ih4
      unfold f_X7_power_4
      refine r_iload_n F 3 rfl dX7_power_4 rfl ?_
      refine r_iload_n F 1 rfl dX7_power_5 rfl ?_
      refine r_icmpge F (tgt := 19) dX7_power_6 (by decide) ?_ ?_
      · skip
        refine r_iload_n F 2 rfl dX7_power_19 rfl ?_
        exact r_iret F hA rfl rfl trivial dX7_power_20
      refine r_iload_n F 2 rfl dX7_power_9 rfl ?_
      refine r_iload_n F 0 rfl dX7_power_10 rfl ?_
      refine r_imul F dX7_power_11 ?_
      refine r_nmI fun v3 => ?_
      refine r_istore_n F [(2, .int v3), (0, .int p0), (1, .int p1), (3, .int v2)] rfl dX7_power_12 rfl (hS _ (by decide)) ?_
      refine r_iinc F (v := 1) 3 rfl (by decide) (fun v4 => [(3, .int v4), (2, .int v3), (0, .int p0), (1, .int p1)]) (fun _ => rfl) dX7_power_13 (hS _ (by decide)) fun v4 => ?_
      refine r_goto F (tgt := 4) dX7_power_16 (by decide) ?_
      exact Wt_pick [2, 3, 1, 0] rfl (ih4 v3 v4)
  exact Wt_pick [2, 3, 1, 0] rfl (hl4 N 1 0)
theorem c_X7_power (G : Gx) (l : Launch) (h : Hp) (N : Nat) (p0 : Int32) (p1 : Int32) : Ctr G l yX7_power (.code yX7_power cX7_power 4 (some .int) :: GT) rmX7_power [.int p0, .int p1] h (f_X7_power N p0 p1) (fun v => some (.int v)) (fun _ => h) (fun _ => True) :=
  ctr_of (by decide) (Nat.le_of_ble_eq_true rfl) ⟨rfl, rfl⟩ fun X _ e2 hA hL F => by subst e2; exact w_X7_power X F hA hL h N p0 p1
def f_X7_nextWay_5 (p2 : Int32) (p3 : Int32) (r5 : Int32 → Hp → Option (Int32 × Hp)) (v2 : Int32) (h3 : Hp) : Option (Int32 × Hp) :=
  if v2 < 0 then
    some (0, h3)
  else
  grd (inb v2 6) <|
  if p3 ≤ (gA h3 7 0 0 v2.toNatClampNeg) then
    grd (inb v2 6) <| lt_ (sA h3 7 0 0 v2.toNatClampNeg p2) fun h4 =>
    lt_ (v2 + (-1)) fun v5 =>
    r5 v5 h4
  else
  grd (inb v2 6) <|
  grd (inb v2 6) <| lt_ (sA h3 7 0 0 v2.toNatClampNeg ((gA h3 7 0 0 v2.toNatClampNeg) + 1)) fun h6 =>
  some (v2, h6)
def f_X7_nextWay (N : Nat) (h : Hp) (p1 : Int32) (p2 : Int32) (p3 : Int32) : Option (Int32 × Hp) :=
  lt_ ((p1 - 1)) fun v1 =>
  iter (fun _ _ => none) (f_X7_nextWay_5 p2 p3) N v1 h
abbrev rmX7_nextWay : Room := { frames := 0, cells := 0, slots := 0, locals := 0 }
set_option maxRecDepth 100000 in
set_option maxHeartbeats 4000000 in
theorem w_X7_nextWay (X : Cx) (F : Fx X cX7_nextWay RX7 (some .int) rmX7_nextWay) (hA : xA X = Aw (xG X)) (hL : xL X = 5) (N : Nat) (h : Hp) (p1 : Int32) (p2 : Int32) (p3 : Int32) : Wm X (fun v => some (.int v.1)) (fun v => v.2) (fun _ => True) 0 [(0, .ref (adr (xG X) 7 0 0)), (1, .int p1), (2, .int p2), (3, .int p3)] [] h (f_X7_nextWay N h p1 p2 p3) := by
  have hS : ∀ i : Nat, i < 5 → i < xL X := fun i z => by rw [hL]; exact z
  unfold f_X7_nextWay
  refine r_iload_n F 1 rfl dX7_nextWay_0 rfl ?_
  refine r_iconst F (v := 1) dX7_nextWay_1 (by decide) ?_
  refine r_isub F dX7_nextWay_2 ?_
  refine r_nmI fun v1 => ?_
  refine r_istore F [(4, .int v1), (0, .ref (adr (xG X) 7 0 0)), (1, .int p1), (2, .int p2), (3, .int p3)] rfl dX7_nextWay_3 (hS _ (by decide)) ?_
  have hl5 : ∀ n : Nat, ∀ v2 : Int32, ∀ h3 : Hp, Wm X (fun v => some (.int v.1)) (fun v => v.2) (fun _ => True) 5 [(0, .ref (adr (xG X) 7 0 0)), (2, .int p2), (3, .int p3), (4, .int v2)] [] h3 (iter (fun _ _ => none) (f_X7_nextWay_5 p2 p3) n v2 h3) := by
    intro n
    induction n with
    | zero => intro v2 h3; exact Wt_none
    | succ n ih =>
      revert ih
      show (∀ v2 : Int32, ∀ h3 : Hp, Wm X (fun v => some (.int v.1)) (fun v => v.2) (fun _ => True) 5 [(0, .ref (adr (xG X) 7 0 0)), (2, .int p2), (3, .int p3), (4, .int v2)] [] h3 (iter (fun _ _ => none) (f_X7_nextWay_5 p2 p3) n v2 h3)) → _
      intro ih5 v2 h3
      show Wm X (fun v => some (.int v.1)) (fun v => v.2) (fun _ => True) 5 [(0, .ref (adr (xG X) 7 0 0)), (2, .int p2), (3, .int p3), (4, .int v2)] [] h3 (f_X7_nextWay_5 p2 p3 (iter (fun _ _ => none) (f_X7_nextWay_5 p2 p3) n) v2 h3)
      revert ih5
      generalize iter (fun _ _ => none) (f_X7_nextWay_5 p2 p3) n = r5
      intro ih5
      unfold f_X7_nextWay_5
      refine r_iload F 3 rfl dX7_nextWay_5 ?_
      refine r_iflt F (tgt := 49) dX7_nextWay_7 (by decide) ?_ ?_
      · skip
        refine r_iconst F (v := 0) dX7_nextWay_49 (by decide) ?_
        exact r_iret F hA rfl rfl trivial dX7_nextWay_50
      refine r_aload_n F 0 rfl dX7_nextWay_10 rfl ?_
      refine r_getA F frX7_37 (by decide) dX7_nextWay_11 ?_
      refine r_iload F 3 rfl dX7_nextWay_14 ?_
      refine r_iaload F (ar_7_0 0 (by decide)) dX7_nextWay_16 ?_
      refine r_iload_n F 2 rfl dX7_nextWay_17 rfl ?_
      refine r_icmpge F (tgt := 35) dX7_nextWay_18 (by decide) ?_ ?_
      · skip
        refine r_aload_n F 0 rfl dX7_nextWay_35 rfl ?_
        refine r_getA F frX7_37 (by decide) dX7_nextWay_36 ?_
        refine r_iload F 3 rfl dX7_nextWay_39 ?_
        refine r_iload_n F 1 rfl dX7_nextWay_41 rfl ?_
        refine r_iastore F (ar_7_0 0 (by decide)) dX7_nextWay_42 fun h4 => ?_
        refine r_iinc F (v := (-1)) 3 rfl (by decide) (fun v5 => [(4, .int v5), (0, .ref (adr (xG X) 7 0 0)), (2, .int p2), (3, .int p3)]) (fun _ => rfl) dX7_nextWay_43 (hS _ (by decide)) fun v5 => ?_
        refine r_goto F (tgt := 5) dX7_nextWay_46 (by decide) ?_
        exact Wt_pick [1, 2, 3, 0] rfl (ih5 v5 h4)
      refine r_aload_n F 0 rfl dX7_nextWay_21 rfl ?_
      refine r_getA F frX7_37 (by decide) dX7_nextWay_22 ?_
      refine r_iload F 3 rfl dX7_nextWay_25 ?_
      refine r_dup2 F rfl rfl dX7_nextWay_27 ?_
      refine r_iaload F (ar_7_0 0 (by decide)) dX7_nextWay_28 ?_
      refine r_iconst F (v := 1) dX7_nextWay_29 (by decide) ?_
      refine r_iadd F dX7_nextWay_30 ?_
      refine r_iastore F (ar_7_0 0 (by decide)) dX7_nextWay_31 fun h6 => ?_
      refine r_iload F 3 rfl dX7_nextWay_32 ?_
      exact r_iret F hA rfl rfl trivial dX7_nextWay_34
  exact Wt_pick [1, 3, 4, 0] rfl (hl5 N v1 h)
theorem c_X7_nextWay (G : Gx) (l : Launch) (N : Nat) (h : Hp) (p1 : Int32) (p2 : Int32) (p3 : Int32) : Ctr G l yX7_nextWay (.code yX7_nextWay cX7_nextWay 5 (some .int) :: GT) rmX7_nextWay [.ref (adr G 7 0 0), .int p1, .int p2, .int p3] h (f_X7_nextWay N h p1 p2 p3) (fun v => some (.int v.1)) (fun v => v.2) (fun _ => True) :=
  ctr_of (by decide) (Nat.le_of_ble_eq_true rfl) ⟨rfl, rfl⟩ fun X _ e2 hA hL F => by subst e2; exact w_X7_nextWay X F hA hL N h p1 p2 p3
def f_X7_planFor_31 (N : Nat) (p1 : Int32) (p2 : Int32) (r21 : Int32 → Int32 → Int32 → Hp → Option (Int32 × Hp)) (v3 : Int32) (v5 : Int32) (r31 : Int32 → Hp → Option (Int32 × Hp)) (v7 : Int32) (h8 : Hp) : Option (Int32 × Hp) :=
  if p2 ≤ v7 then
    grd (inb p2 7) <| lt_ (3 + p2.toNatClampNeg) fun o9 =>
    grd (inb p1 4) <|
    grd (inb p1 4) <|
    lt_ (((gA h8 3 o9 6 p1.toNatClampNeg) - (gA h8 3 1 6 p1.toNatClampNeg))) fun v10 =>
    jn (fun (v11 : Int32) (h12 : Hp) =>
      bd2 (f_X7_nextWay N h12 p2 1 3) fun v14 h13 =>
      lt_ (v5 + 1) fun v15 =>
      r21 v11 v14 v15 h13) fun (j133 : Int32 → Hp → Option (Int32 × Hp)) =>
    if v10 ≤ v3 then
      j133 v3 h8
    else
    grd ((0 ≤ (0 : Int32) ∧ 0 ≤ (0 : Int32) ∧ 0 ≤ p2) ∧ (0 : Int32).toNatClampNeg + p2.toNatClampNeg ≤ 6 ∧ (0 : Int32).toNatClampNeg + p2.toNatClampNeg ≤ 6) <| lt_ (sAf h8 7 0 1 (va_cpy (gA h8 7 0 0) (gA h8 7 0 1) (0 : Int32).toNatClampNeg (0 : Int32).toNatClampNeg p2.toNatClampNeg)) fun h16 =>
    j133 v10 h16
  else
  grd (inb (v7 + 1) 7) <| lt_ (3 + (v7 + 1).toNatClampNeg) fun o17 =>
  grd (inb v7 7) <| lt_ (3 + v7.toNatClampNeg) fun o18 =>
  (f_X3_copy h8 o17 o18).bind fun h19 =>
  grd (inb v7 6) <|
  grd (inb p1 4) <| lt_ (sA h19 3 o17 5 p1.toNatClampNeg (gA h19 7 0 0 v7.toNatClampNeg)) fun h20 =>
  (f_X3_passHour N h20 o17).bind fun h21 =>
  lt_ (v7 + 1) fun v22 =>
  r31 v22 h21
def f_X7_planFor_21 (N : Nat) (p1 : Int32) (p2 : Int32) (v2 : Int32) (r21 : Int32 → Int32 → Int32 → Hp → Option (Int32 × Hp)) (v3 : Int32) (v4 : Int32) (v5 : Int32) (h6 : Hp) : Option (Int32 × Hp) :=
  if v2 ≤ v5 then
    some (v3, h6)
  else
  iter (fun _ _ => none) (f_X7_planFor_31 N p1 p2 r21 v3 v5) N v4 h6
def f_X7_planFor (N : Nat) (h : Hp) (p1 : Int32) (p2 : Int32) : Option (Int32 × Hp) :=
  (f_X7_startWays N h p2 1).bind fun h1 =>
  (f_X7_power N 3 p2).bind fun v2 =>
  iter (fun _ _ _ _ => none) (f_X7_planFor_21 N p1 p2 v2) N (-1) 0 0 h1
abbrev rmX7_planFor : Room := { frames := 5, cells := 0, slots := 0, locals := 126 }
set_option maxRecDepth 100000 in
set_option maxHeartbeats 4000000 in
theorem w_X7_planFor (X : Cx) (F : Fx X cX7_planFor RX7 (some .int) rmX7_planFor) (hA : xA X = Aw (xG X)) (hL : xL X = 9) (N : Nat) (h : Hp) (p1 : Int32) (p2 : Int32) : Wm X (fun v => some (.int v.1)) (fun v => v.2) (fun _ => True) 0 [(0, .ref (adr (xG X) 7 0 0)), (1, .int p1), (2, .int p2)] [] h (f_X7_planFor N h p1 p2) := by
  have hS : ∀ i : Nat, i < 9 → i < xL X := fun i z => by rw [hL]; exact z
  unfold f_X7_planFor
  refine r_aload_n F 0 rfl dX7_planFor_0 rfl ?_
  refine r_iload_n F 2 rfl dX7_planFor_1 rfl ?_
  refine r_iconst F (v := 1) dX7_planFor_2 (by decide) ?_
  refine k_vH (run_V F cvX7_272 (by decide) (c_X7_startWays (xG X) _ N h p2 1) rfl rfl ⟨⟨rfl, rfl⟩, Nat.le_of_ble_eq_true rfl, Nat.le_of_ble_eq_true rfl⟩ (Nat.le_of_ble_eq_true rfl) dX7_planFor_3) fun h1 => ?_
  refine r_iconst F (v := 3) dX7_planFor_6 (by decide) ?_
  refine r_iload_n F 2 rfl dX7_planFor_7 rfl ?_
  refine k_iP (run_S F csX7_275 (c_X7_power (xG X) _ h1 N 3 p2) rfl rfl ⟨⟨rfl, rfl⟩, Nat.le_of_ble_eq_true rfl, Nat.le_of_ble_eq_true rfl⟩ (Nat.le_of_ble_eq_true rfl) dX7_planFor_8) fun v2 _ => ?_
  refine r_istore_n F [(3, .int v2), (0, .ref (adr (xG X) 7 0 0)), (1, .int p1), (2, .int p2)] rfl dX7_planFor_11 rfl (hS _ (by decide)) ?_
  refine r_iconst F (v := (-1)) dX7_planFor_12 (by decide) ?_
  refine r_istore F [(4, .int (-1)), (3, .int v2), (0, .ref (adr (xG X) 7 0 0)), (1, .int p1), (2, .int p2)] rfl dX7_planFor_13 (hS _ (by decide)) ?_
  refine r_iconst F (v := 0) dX7_planFor_15 (by decide) ?_
  refine r_istore F [(5, .int 0), (4, .int (-1)), (3, .int v2), (0, .ref (adr (xG X) 7 0 0)), (1, .int p1), (2, .int p2)] rfl dX7_planFor_16 (hS _ (by decide)) ?_
  refine r_iconst F (v := 0) dX7_planFor_18 (by decide) ?_
  refine r_istore F [(6, .int 0), (5, .int 0), (4, .int (-1)), (3, .int v2), (0, .ref (adr (xG X) 7 0 0)), (1, .int p1), (2, .int p2)] rfl dX7_planFor_19 (hS _ (by decide)) ?_
  have hl21 : ∀ n : Nat, ∀ v3 : Int32, ∀ v4 : Int32, ∀ v5 : Int32, ∀ h6 : Hp, Wm X (fun v => some (.int v.1)) (fun v => v.2) (fun _ => True) 21 [(0, .ref (adr (xG X) 7 0 0)), (1, .int p1), (2, .int p2), (3, .int v2), (4, .int v3), (5, .int v4), (6, .int v5)] [] h6 (iter (fun _ _ _ _ => none) (f_X7_planFor_21 N p1 p2 v2) n v3 v4 v5 h6) := by
    intro n
    induction n with
    | zero => intro v3 v4 v5 h6; exact Wt_none
    | succ n ih =>
      revert ih
      show (∀ v3 : Int32, ∀ v4 : Int32, ∀ v5 : Int32, ∀ h6 : Hp, Wm X (fun v => some (.int v.1)) (fun v => v.2) (fun _ => True) 21 [(0, .ref (adr (xG X) 7 0 0)), (1, .int p1), (2, .int p2), (3, .int v2), (4, .int v3), (5, .int v4), (6, .int v5)] [] h6 (iter (fun _ _ _ _ => none) (f_X7_planFor_21 N p1 p2 v2) n v3 v4 v5 h6)) → _
      intro ih21 v3 v4 v5 h6
      show Wm X (fun v => some (.int v.1)) (fun v => v.2) (fun _ => True) 21 [(0, .ref (adr (xG X) 7 0 0)), (1, .int p1), (2, .int p2), (3, .int v2), (4, .int v3), (5, .int v4), (6, .int v5)] [] h6 (f_X7_planFor_21 N p1 p2 v2 (iter (fun _ _ _ _ => none) (f_X7_planFor_21 N p1 p2 v2) n) v3 v4 v5 h6)
      revert ih21
      generalize iter (fun _ _ _ _ => none) (f_X7_planFor_21 N p1 p2 v2) n = r21
      intro ih21
      unfold f_X7_planFor_21
      refine r_iload F 6 rfl dX7_planFor_21 ?_
      refine r_iload_n F 3 rfl dX7_planFor_23 rfl ?_
      refine r_icmpge F (tgt := 148) dX7_planFor_24 (by decide) ?_ ?_
      · skip
        refine r_iload F 4 rfl dX7_planFor_148 ?_
        exact r_iret F hA rfl rfl trivial dX7_planFor_150
      refine r_iload F 5 rfl dX7_planFor_27 ?_
      refine r_istore F [(7, .int v4), (0, .ref (adr (xG X) 7 0 0)), (1, .int p1), (2, .int p2), (3, .int v2), (4, .int v3), (5, .int v4), (6, .int v5)] rfl dX7_planFor_29 (hS _ (by decide)) ?_
      have hl31 : ∀ n : Nat, ∀ v7 : Int32, ∀ h8 : Hp, Wm X (fun v => some (.int v.1)) (fun v => v.2) (fun _ => True) 31 [(0, .ref (adr (xG X) 7 0 0)), (1, .int p1), (2, .int p2), (3, .int v2), (4, .int v3), (6, .int v5), (7, .int v7)] [] h8 (iter (fun _ _ => none) (f_X7_planFor_31 N p1 p2 r21 v3 v5) n v7 h8) := by
        intro n
        induction n with
        | zero => intro v7 h8; exact Wt_none
        | succ n ih =>
          revert ih
          show (∀ v7 : Int32, ∀ h8 : Hp, Wm X (fun v => some (.int v.1)) (fun v => v.2) (fun _ => True) 31 [(0, .ref (adr (xG X) 7 0 0)), (1, .int p1), (2, .int p2), (3, .int v2), (4, .int v3), (6, .int v5), (7, .int v7)] [] h8 (iter (fun _ _ => none) (f_X7_planFor_31 N p1 p2 r21 v3 v5) n v7 h8)) → _
          intro ih31 v7 h8
          show Wm X (fun v => some (.int v.1)) (fun v => v.2) (fun _ => True) 31 [(0, .ref (adr (xG X) 7 0 0)), (1, .int p1), (2, .int p2), (3, .int v2), (4, .int v3), (6, .int v5), (7, .int v7)] [] h8 (f_X7_planFor_31 N p1 p2 r21 v3 v5 (iter (fun _ _ => none) (f_X7_planFor_31 N p1 p2 r21 v3 v5) n) v7 h8)
          revert ih31
          generalize iter (fun _ _ => none) (f_X7_planFor_31 N p1 p2 r21 v3 v5) n = r31
          intro ih31
          unfold f_X7_planFor_31
          refine r_iload F 6 rfl dX7_planFor_31 ?_
          refine r_iload_n F 2 rfl dX7_planFor_33 rfl ?_
          refine r_icmpge F (tgt := 85) dX7_planFor_34 (by decide) ?_ ?_
          · skip
            refine r_aload_n F 0 rfl dX7_planFor_85 rfl ?_
            refine r_getA F frX7_78 (by decide) dX7_planFor_86 ?_
            refine r_iload_n F 2 rfl dX7_planFor_89 rfl ?_
            refine r_aaload F dX7_planFor_90 fun o9 hp_o9 => ?_
            refine r_getA F frX7_167 hp_o9 dX7_planFor_91 ?_
            refine r_iload_n F 1 rfl dX7_planFor_94 rfl ?_
            refine r_iaload F (ar_3_6 o9 hp_o9) dX7_planFor_95 ?_
            refine r_aload_n F 0 rfl dX7_planFor_96 rfl ?_
            refine r_getS F frX7_72 (by decide) 1 rfl dX7_planFor_97 ?_
            refine r_getA F frX7_167 (by decide) dX7_planFor_100 ?_
            refine r_iload_n F 1 rfl dX7_planFor_103 rfl ?_
            refine r_iaload F (ar_3_6 1 (by decide)) dX7_planFor_104 ?_
            refine r_isub F dX7_planFor_105 ?_
            refine r_nmI fun v10 => ?_
            refine r_istore F [(7, .int v10), (0, .ref (adr (xG X) 7 0 0)), (1, .int p1), (2, .int p2), (3, .int v2), (4, .int v3), (6, .int v5)] rfl dX7_planFor_106 (hS _ (by decide)) ?_
            refine r_iload F 0 rfl dX7_planFor_108 ?_
            refine r_iload F 5 rfl dX7_planFor_110 ?_
            refine Wt_jn (fun (j133 : Int32 → Hp → Option (Int32 × Hp)) => ∀ v11 : Int32, ∀ h12 : Hp, Wm X (fun v => some (.int v.1)) (fun v => v.2) (fun _ => True) 133 [(0, .ref (adr (xG X) 7 0 0)), (1, .int p1), (2, .int p2), (3, .int v2), (4, .int v11), (6, .int v5)] [] h12 (j133 v11 h12)) ?_ fun j133 hj133 => ?_
            · intro v11 h12
              refine r_aload_n F 0 rfl dX7_planFor_133 rfl ?_
              refine r_iload_n F 2 rfl dX7_planFor_134 rfl ?_
              refine r_iconst F (v := 1) dX7_planFor_135 (by decide) ?_
              refine r_iconst F (v := 3) dX7_planFor_136 (by decide) ?_
              refine k_iH (run_V F cvX7_287 (by decide) (c_X7_nextWay (xG X) _ N h12 p2 1 3) rfl rfl ⟨⟨rfl, rfl⟩, Nat.le_of_ble_eq_true rfl, Nat.le_of_ble_eq_true rfl⟩ (Nat.le_of_ble_eq_true rfl) dX7_planFor_137) fun v14 h13 => ?_
              refine r_istore F [(5, .int v14), (0, .ref (adr (xG X) 7 0 0)), (1, .int p1), (2, .int p2), (3, .int v2), (4, .int v11), (6, .int v5)] rfl dX7_planFor_140 (hS _ (by decide)) ?_
              refine r_iinc F (v := 1) 6 rfl (by decide) (fun v15 => [(6, .int v15), (5, .int v14), (0, .ref (adr (xG X) 7 0 0)), (1, .int p1), (2, .int p2), (3, .int v2), (4, .int v11)]) (fun _ => rfl) dX7_planFor_142 (hS _ (by decide)) fun v15 => ?_
              refine r_goto F (tgt := 21) dX7_planFor_145 (by decide) ?_
              exact Wt_pick [2, 3, 4, 5, 6, 1, 0] rfl (ih21 v11 v14 v15 h13)
            refine r_icmple F (tgt := 133) dX7_planFor_112 (by decide) ?_ ?_
            · skip
              exact Wt_pick [1, 2, 3, 4, 5, 6] rfl (hj133 v3 h8)
            refine r_iload F 0 rfl dX7_planFor_115 ?_
            refine r_istore F [(4, .int v10), (7, .int v10), (0, .ref (adr (xG X) 7 0 0)), (1, .int p1), (2, .int p2), (3, .int v2), (6, .int v5)] rfl dX7_planFor_117 (hS _ (by decide)) ?_
            refine r_aload_n F 2 rfl dX7_planFor_119 rfl ?_
            refine r_getA F frX7_37 (by decide) dX7_planFor_120 ?_
            refine r_iconst F (v := 0) dX7_planFor_123 (by decide) ?_
            refine r_aload_n F 2 rfl dX7_planFor_124 rfl ?_
            refine r_getA F frX7_41 (by decide) dX7_planFor_125 ?_
            refine r_iconst F (v := 0) dX7_planFor_128 (by decide) ?_
            refine r_iload_n F 4 rfl dX7_planFor_129 rfl ?_
            refine r_copy F (ar_7_0 0 (by decide)) (ar_7_1 0 (by decide)) wd_1007 ws_copy ⟨Nat.le_of_ble_eq_true rfl, Nat.le_of_ble_eq_true rfl⟩ dX7_planFor_130 fun h16 => ?_
            exact Wt_pick [2, 3, 4, 5, 0, 6] rfl (hj133 v10 h16)
          refine r_aload_n F 0 rfl dX7_planFor_37 rfl ?_
          refine r_getA F frX7_78 (by decide) dX7_planFor_38 ?_
          refine r_iload F 6 rfl dX7_planFor_41 ?_
          refine r_iconst F (v := 1) dX7_planFor_43 (by decide) ?_
          refine r_iadd F dX7_planFor_44 ?_
          refine r_aaload F dX7_planFor_45 fun o17 hp_o17 => ?_
          refine r_astore F [(8, .ref (adr (xG X) 3 o17 0)), (0, .ref (adr (xG X) 7 0 0)), (1, .int p1), (2, .int p2), (3, .int v2), (4, .int v3), (6, .int v5), (7, .int v7)] rfl dX7_planFor_46 (hS _ (by decide)) ?_
          refine r_aload F 0 rfl dX7_planFor_48 ?_
          refine r_aload_n F 1 rfl dX7_planFor_50 rfl ?_
          refine r_getA F frX7_78 (by decide) dX7_planFor_51 ?_
          refine r_iload F 7 rfl dX7_planFor_54 ?_
          refine r_aaload F dX7_planFor_56 fun o18 hp_o18 => ?_
          refine k_vH (run_V F cvX7_109 hp_o17 (c_X3_copy (xG X) _ h8 o17 hp_o17 o18 hp_o18) rfl rfl ⟨⟨rfl, rfl⟩, Nat.le_of_ble_eq_true rfl, Nat.le_of_ble_eq_true rfl⟩ (Nat.le_of_ble_eq_true rfl) dX7_planFor_57) fun h19 => ?_
          refine r_aload F 0 rfl dX7_planFor_60 ?_
          refine r_getA F frX7_164 hp_o17 dX7_planFor_62 ?_
          refine r_iload_n F 2 rfl dX7_planFor_65 rfl ?_
          refine r_aload_n F 1 rfl dX7_planFor_66 rfl ?_
          refine r_getA F frX7_37 (by decide) dX7_planFor_67 ?_
          refine r_iload F 7 rfl dX7_planFor_70 ?_
          refine r_iaload F (ar_7_0 0 (by decide)) dX7_planFor_72 ?_
          refine r_iastore F (ar_3_5 o17 hp_o17) dX7_planFor_73 fun h20 => ?_
          refine r_aload F 0 rfl dX7_planFor_74 ?_
          refine k_vH (run_V F cvX7_278 hp_o17 (c_X3_passHour (xG X) _ N h20 o17 hp_o17) rfl rfl ⟨⟨rfl, rfl⟩, Nat.le_of_ble_eq_true rfl, Nat.le_of_ble_eq_true rfl⟩ (Nat.le_of_ble_eq_true rfl) dX7_planFor_76) fun h21 => ?_
          refine r_iinc F (v := 1) 7 rfl (by decide) (fun v22 => [(7, .int v22), (8, .ref (adr (xG X) 3 o17 0)), (0, .ref (adr (xG X) 7 0 0)), (1, .int p1), (2, .int p2), (3, .int v2), (4, .int v3), (6, .int v5)]) (fun _ => rfl) dX7_planFor_79 (hS _ (by decide)) fun v22 => ?_
          refine r_goto F (tgt := 31) dX7_planFor_82 (by decide) ?_
          exact Wt_pick [2, 3, 4, 5, 6, 7, 0] rfl (ih31 v22 h21)
      exact Wt_pick [1, 2, 3, 4, 5, 7, 0] rfl (hl31 N v4 h6)
  exact Wt_pick [4, 5, 6, 3, 2, 1, 0] rfl (hl21 N (-1) 0 0 h1)
theorem c_X7_planFor (G : Gx) (l : Launch) (N : Nat) (h : Hp) (p1 : Int32) (p2 : Int32) : Ctr G l yX7_planFor (.code yX7_planFor cX7_planFor 9 (some .int) :: GT) rmX7_planFor [.ref (adr G 7 0 0), .int p1, .int p2] h (f_X7_planFor N h p1 p2) (fun v => some (.int v.1)) (fun v => v.2) (fun _ => True) :=
  ctr_of (by decide) (Nat.le_of_ble_eq_true rfl) ⟨rfl, rfl⟩ fun X _ e2 hA hL F => by subst e2; exact w_X7_planFor X F hA hL N h p1 p2
def f_X7_plan (N : Nat) (h : Hp) (p1 : Int32) (p2 : Int32) : Option (Int32 × Hp) :=
  (f_X7_isCroft h p1).bind fun v1 =>
  jn (fun (v2 : Int32) (h3 : Hp) =>
    some (v2, h3)) fun (j28 : Int32 → Hp → Option (Int32 × Hp)) =>
  jn (
    j28 (-1) h) fun (j27 : Option (Int32 × Hp)) =>
  if (b2i v1) = 0 then
    j27
  else
  (f_X7_isIn p2 1 6).bind fun v4 =>
  if (b2i v4) = 0 then
    j27
  else
  bd2 (f_X7_planFor N h p1 p2) fun v6 h5 =>
  j28 v6 h5
abbrev rmX7_plan : Room := { frames := 6, cells := 0, slots := 0, locals := 154 }
set_option maxRecDepth 100000 in
set_option maxHeartbeats 4000000 in
theorem w_X7_plan (X : Cx) (F : Fx X cX7_plan RX7 (some .int) rmX7_plan) (hA : xA X = Aw (xG X)) (hL : xL X = 3) (N : Nat) (h : Hp) (p1 : Int32) (p2 : Int32) : Wm X (fun v => some (.int v.1)) (fun v => v.2) (fun _ => True) 0 [(0, .ref (adr (xG X) 7 0 0)), (1, .int p1), (2, .int p2)] [] h (f_X7_plan N h p1 p2) := by
  have hS : ∀ i : Nat, i < 3 → i < xL X := fun i z => by rw [hL]; exact z
  unfold f_X7_plan
  refine r_aload_n F 0 rfl dX7_plan_0 rfl ?_
  refine r_iload_n F 1 rfl dX7_plan_1 rfl ?_
  refine k_zP (run_V F cvX7_152 (by decide) (c_X7_isCroft (xG X) _ h p1) rfl rfl ⟨⟨rfl, rfl⟩, Nat.le_of_ble_eq_true rfl, Nat.le_of_ble_eq_true rfl⟩ (Nat.le_of_ble_eq_true rfl) dX7_plan_2) fun v1 _ => ?_
  refine Wt_jn (fun (j28 : Int32 → Hp → Option (Int32 × Hp)) => ∀ v2 : Int32, ∀ h3 : Hp, Wm X (fun v => some (.int v.1)) (fun v => v.2) (fun _ => True) 28 [] [.int v2] h3 (j28 v2 h3)) ?_ fun j28 hj28 => ?_
  · intro v2 h3
    exact r_iret F hA rfl rfl trivial dX7_plan_28
  refine Wt_jn (fun (j27 : Option (Int32 × Hp)) => Wm X (fun v => some (.int v.1)) (fun v => v.2) (fun _ => True) 27 [] [] h (j27)) ?_ fun j27 hj27 => ?_
  · skip
    refine r_iconst F (v := (-1)) dX7_plan_27 (by decide) ?_
    exact Wt_pick [] rfl (hj28 (-1) h)
  refine r_ifeq F (tgt := 27) dX7_plan_5 (by decide) ?_ ?_
  · skip
    exact Wt_pick [] rfl (hj27)
  refine r_iload_n F 2 rfl dX7_plan_8 rfl ?_
  refine r_iconst F (v := 1) dX7_plan_9 (by decide) ?_
  refine r_bipush F (v := 6) dX7_plan_10 (by decide) ?_
  refine k_zP (run_S F csX7_247 (c_X7_isIn (xG X) _ h p2 1 6) rfl rfl ⟨⟨rfl, rfl⟩, Nat.le_of_ble_eq_true rfl, Nat.le_of_ble_eq_true rfl⟩ (Nat.le_of_ble_eq_true rfl) dX7_plan_12) fun v4 _ => ?_
  refine r_ifeq F (tgt := 27) dX7_plan_15 (by decide) ?_ ?_
  · skip
    exact Wt_pick [] rfl (hj27)
  refine r_aload_n F 0 rfl dX7_plan_18 rfl ?_
  refine r_iload_n F 1 rfl dX7_plan_19 rfl ?_
  refine r_iload_n F 2 rfl dX7_plan_20 rfl ?_
  refine k_iH (run_V F cvX7_268 (by decide) (c_X7_planFor (xG X) _ N h p1 p2) rfl rfl ⟨⟨rfl, rfl⟩, Nat.le_of_ble_eq_true rfl, Nat.le_of_ble_eq_true rfl⟩ (Nat.le_of_ble_eq_true rfl) dX7_plan_21) fun v6 h5 => ?_
  refine r_goto F (tgt := 28) dX7_plan_24 (by decide) ?_
  exact Wt_pick [] rfl (hj28 v6 h5)
theorem c_X7_plan (G : Gx) (l : Launch) (N : Nat) (h : Hp) (p1 : Int32) (p2 : Int32) : Ctr G l yX7_plan (.code yX7_plan cX7_plan 3 (some .int) :: GT) rmX7_plan [.ref (adr G 7 0 0), .int p1, .int p2] h (f_X7_plan N h p1 p2) (fun v => some (.int v.1)) (fun v => v.2) (fun _ => True) :=
  ctr_of (by decide) (Nat.le_of_ble_eq_true rfl) ⟨rfl, rfl⟩ fun X _ e2 hA hL F => by subst e2; exact w_X7_plan X F hA hL N h p1 p2
def f_X7_planned (N : Nat) (h : Hp) (p1 : Int32) (p2 : Int32) (p3 : Int32) : Option (Int32 × Hp) :=
  (f_X7_isCroft h p1).bind fun v1 =>
  jn (
    some ((-1), h)) fun (j22 : Option (Int32 × Hp)) =>
  if (b2i v1) = 0 then
    j22
  else
  (f_X7_isIn p2 1 6).bind fun v2 =>
  if (b2i v2) = 0 then
    j22
  else
  if 0 ≤ p3 then
    if p3 < p2 then
      bd2 (f_X7_planFor N h p1 p2) fun v4 h3 =>
      grd (inb p3 6) <|
      some ((gA h3 7 0 1 p3.toNatClampNeg), h3)
    else
    some ((-2), h)
  else
  j22
abbrev rmX7_planned : Room := { frames := 6, cells := 0, slots := 0, locals := 154 }
set_option maxRecDepth 100000 in
set_option maxHeartbeats 4000000 in
theorem w_X7_planned (X : Cx) (F : Fx X cX7_planned RX7 (some .int) rmX7_planned) (hA : xA X = Aw (xG X)) (hL : xL X = 4) (N : Nat) (h : Hp) (p1 : Int32) (p2 : Int32) (p3 : Int32) : Wm X (fun v => some (.int v.1)) (fun v => v.2) (fun _ => True) 0 [(0, .ref (adr (xG X) 7 0 0)), (1, .int p1), (2, .int p2), (3, .int p3)] [] h (f_X7_planned N h p1 p2 p3) := by
  have hS : ∀ i : Nat, i < 4 → i < xL X := fun i z => by rw [hL]; exact z
  unfold f_X7_planned
  refine r_aload_n F 0 rfl dX7_planned_0 rfl ?_
  refine r_iload_n F 1 rfl dX7_planned_1 rfl ?_
  refine k_zP (run_V F cvX7_152 (by decide) (c_X7_isCroft (xG X) _ h p1) rfl rfl ⟨⟨rfl, rfl⟩, Nat.le_of_ble_eq_true rfl, Nat.le_of_ble_eq_true rfl⟩ (Nat.le_of_ble_eq_true rfl) dX7_planned_2) fun v1 _ => ?_
  refine Wt_jn (fun (j22 : Option (Int32 × Hp)) => Wm X (fun v => some (.int v.1)) (fun v => v.2) (fun _ => True) 22 [] [] h (j22)) ?_ fun j22 hj22 => ?_
  · skip
    refine r_iconst F (v := (-1)) dX7_planned_22 (by decide) ?_
    exact r_iret F hA rfl rfl trivial dX7_planned_23
  refine r_ifeq F (tgt := 22) dX7_planned_5 (by decide) ?_ ?_
  · skip
    exact Wt_pick [] rfl (hj22)
  refine r_iload_n F 2 rfl dX7_planned_8 rfl ?_
  refine r_iconst F (v := 1) dX7_planned_9 (by decide) ?_
  refine r_bipush F (v := 6) dX7_planned_10 (by decide) ?_
  refine k_zP (run_S F csX7_247 (c_X7_isIn (xG X) _ h p2 1 6) rfl rfl ⟨⟨rfl, rfl⟩, Nat.le_of_ble_eq_true rfl, Nat.le_of_ble_eq_true rfl⟩ (Nat.le_of_ble_eq_true rfl) dX7_planned_12) fun v2 _ => ?_
  refine r_ifeq F (tgt := 22) dX7_planned_15 (by decide) ?_ ?_
  · skip
    exact Wt_pick [] rfl (hj22)
  refine r_iload_n F 3 rfl dX7_planned_18 rfl ?_
  refine r_ifge F (tgt := 24) dX7_planned_19 (by decide) ?_ ?_
  · skip
    refine r_iload_n F 3 rfl dX7_planned_24 rfl ?_
    refine r_iload_n F 2 rfl dX7_planned_25 rfl ?_
    refine r_icmplt F (tgt := 32) dX7_planned_26 (by decide) ?_ ?_
    · skip
      refine r_aload_n F 0 rfl dX7_planned_32 rfl ?_
      refine r_iload_n F 1 rfl dX7_planned_33 rfl ?_
      refine r_iload_n F 2 rfl dX7_planned_34 rfl ?_
      refine k_iH (run_V F cvX7_268 (by decide) (c_X7_planFor (xG X) _ N h p1 p2) rfl rfl ⟨⟨rfl, rfl⟩, Nat.le_of_ble_eq_true rfl, Nat.le_of_ble_eq_true rfl⟩ (Nat.le_of_ble_eq_true rfl) dX7_planned_35) fun v4 h3 => ?_
      refine r_pop F rfl dX7_planned_38 ?_
      refine r_aload_n F 0 rfl dX7_planned_39 rfl ?_
      refine r_getA F frX7_41 (by decide) dX7_planned_40 ?_
      refine r_iload_n F 3 rfl dX7_planned_43 rfl ?_
      refine r_iaload F (ar_7_1 0 (by decide)) dX7_planned_44 ?_
      exact r_iret F hA rfl rfl trivial dX7_planned_45
    refine r_bipush F (v := (-2)) dX7_planned_29 (by decide) ?_
    exact r_iret F hA rfl rfl trivial dX7_planned_31
  exact Wt_pick [] rfl (hj22)
theorem c_X7_planned (G : Gx) (l : Launch) (N : Nat) (h : Hp) (p1 : Int32) (p2 : Int32) (p3 : Int32) : Ctr G l yX7_planned (.code yX7_planned cX7_planned 4 (some .int) :: GT) rmX7_planned [.ref (adr G 7 0 0), .int p1, .int p2, .int p3] h (f_X7_planned N h p1 p2 p3) (fun v => some (.int v.1)) (fun v => v.2) (fun _ => True) :=
  ctr_of (by decide) (Nat.le_of_ble_eq_true rfl) ⟨rfl, rfl⟩ fun X _ e2 hA hL F => by subst e2; exact w_X7_planned X F hA hL N h p1 p2 p3
def f_X7_mayCome (h : Hp) (p1 : Int32) (p2 : Int32) (p3 : Int32) : Option Bool :=
  (f_X7_isCroft h p1).bind fun v1 =>
  jn (fun (v2 : Bool) =>
    some v2) fun (j74 : Bool → Option Bool) =>
  jn (
    j74 false) fun (j73 : Option Bool) =>
  if (b2i v1) = 0 then
    j73
  else
  (f_X7_isCroft h p2).bind fun v3 =>
  if (b2i v3) = 0 then
    j73
  else
  if p1 = p2 then
    j73
  else
  (f_X7_isIn p3 1 99).bind fun v4 =>
  if (b2i v4) = 0 then
    j73
  else
  grd (inb p1 4) <|
  if (gA h 3 1 4 p1.toNatClampNeg) ≤ (gI h 3 1 11) then
    j73
  else
  grd (inb p2 4) <|
  if (gA h 3 1 4 p2.toNatClampNeg) ≤ (gI h 3 1 11) then
    j73
  else
  j74 true
abbrev rmX7_mayCome : Room := { frames := 1, cells := 0, slots := 0, locals := 22 }
set_option maxRecDepth 100000 in
set_option maxHeartbeats 4000000 in
theorem w_X7_mayCome (X : Cx) (F : Fx X cX7_mayCome RX7 (some .boolean) rmX7_mayCome) (hA : xA X = Aw (xG X)) (hL : xL X = 4) (h : Hp) (p1 : Int32) (p2 : Int32) (p3 : Int32) : Wm X (fun v => some (.int (b2i v))) (fun _ => h) (fun _ => True) 0 [(0, .ref (adr (xG X) 7 0 0)), (1, .int p1), (2, .int p2), (3, .int p3)] [] h (f_X7_mayCome h p1 p2 p3) := by
  have hS : ∀ i : Nat, i < 4 → i < xL X := fun i z => by rw [hL]; exact z
  unfold f_X7_mayCome
  refine r_aload_n F 0 rfl dX7_mayCome_0 rfl ?_
  refine r_iload_n F 1 rfl dX7_mayCome_1 rfl ?_
  refine k_zP (run_V F cvX7_152 (by decide) (c_X7_isCroft (xG X) _ h p1) rfl rfl ⟨⟨rfl, rfl⟩, Nat.le_of_ble_eq_true rfl, Nat.le_of_ble_eq_true rfl⟩ (Nat.le_of_ble_eq_true rfl) dX7_mayCome_2) fun v1 _ => ?_
  refine Wt_jn (fun (j74 : Bool → Option Bool) => ∀ v2 : Bool, Wm X (fun v => some (.int (b2i v))) (fun _ => h) (fun _ => True) 74 [] [.int (b2i v2)] h (j74 v2)) ?_ fun j74 hj74 => ?_
  · intro v2
    exact r_zret F hA v2 rfl rfl rfl trivial dX7_mayCome_74
  refine Wt_jn (fun (j73 : Option Bool) => Wm X (fun v => some (.int (b2i v))) (fun _ => h) (fun _ => True) 73 [] [] h (j73)) ?_ fun j73 hj73 => ?_
  · skip
    refine r_iconst F (v := 0) dX7_mayCome_73 (by decide) ?_
    exact Wt_pick [] rfl (hj74 false)
  refine r_ifeq F (tgt := 73) dX7_mayCome_5 (by decide) ?_ ?_
  · skip
    exact Wt_pick [] rfl (hj73)
  refine r_aload_n F 0 rfl dX7_mayCome_8 rfl ?_
  refine r_iload_n F 2 rfl dX7_mayCome_9 rfl ?_
  refine k_zP (run_V F cvX7_152 (by decide) (c_X7_isCroft (xG X) _ h p2) rfl rfl ⟨⟨rfl, rfl⟩, Nat.le_of_ble_eq_true rfl, Nat.le_of_ble_eq_true rfl⟩ (Nat.le_of_ble_eq_true rfl) dX7_mayCome_10) fun v3 _ => ?_
  refine r_ifeq F (tgt := 73) dX7_mayCome_13 (by decide) ?_ ?_
  · skip
    exact Wt_pick [] rfl (hj73)
  refine r_iload_n F 1 rfl dX7_mayCome_16 rfl ?_
  refine r_iload_n F 2 rfl dX7_mayCome_17 rfl ?_
  refine r_icmpeq F (tgt := 73) dX7_mayCome_18 (by decide) ?_ ?_
  · skip
    exact Wt_pick [] rfl (hj73)
  refine r_iload_n F 3 rfl dX7_mayCome_21 rfl ?_
  refine r_iconst F (v := 1) dX7_mayCome_22 (by decide) ?_
  refine r_bipush F (v := 99) dX7_mayCome_23 (by decide) ?_
  refine k_zP (run_S F csX7_247 (c_X7_isIn (xG X) _ h p3 1 99) rfl rfl ⟨⟨rfl, rfl⟩, Nat.le_of_ble_eq_true rfl, Nat.le_of_ble_eq_true rfl⟩ (Nat.le_of_ble_eq_true rfl) dX7_mayCome_25) fun v4 _ => ?_
  refine r_ifeq F (tgt := 73) dX7_mayCome_28 (by decide) ?_ ?_
  · skip
    exact Wt_pick [] rfl (hj73)
  refine r_aload_n F 0 rfl dX7_mayCome_31 rfl ?_
  refine r_getS F frX7_72 (by decide) 1 rfl dX7_mayCome_32 ?_
  refine r_getA F frX7_161 (by decide) dX7_mayCome_35 ?_
  refine r_iload_n F 1 rfl dX7_mayCome_38 rfl ?_
  refine r_iaload F (ar_3_4 1 (by decide)) dX7_mayCome_39 ?_
  refine r_aload_n F 0 rfl dX7_mayCome_40 rfl ?_
  refine r_getS F frX7_72 (by decide) 1 rfl dX7_mayCome_41 ?_
  refine r_getI F frX7_241 (by decide) dX7_mayCome_44 ?_
  refine r_icmple F (tgt := 73) dX7_mayCome_47 (by decide) ?_ ?_
  · skip
    exact Wt_pick [] rfl (hj73)
  refine r_aload_n F 0 rfl dX7_mayCome_50 rfl ?_
  refine r_getS F frX7_72 (by decide) 1 rfl dX7_mayCome_51 ?_
  refine r_getA F frX7_161 (by decide) dX7_mayCome_54 ?_
  refine r_iload_n F 2 rfl dX7_mayCome_57 rfl ?_
  refine r_iaload F (ar_3_4 1 (by decide)) dX7_mayCome_58 ?_
  refine r_aload_n F 0 rfl dX7_mayCome_59 rfl ?_
  refine r_getS F frX7_72 (by decide) 1 rfl dX7_mayCome_60 ?_
  refine r_getI F frX7_241 (by decide) dX7_mayCome_63 ?_
  refine r_icmple F (tgt := 73) dX7_mayCome_66 (by decide) ?_ ?_
  · skip
    exact Wt_pick [] rfl (hj73)
  refine r_iconst F (v := 1) dX7_mayCome_69 (by decide) ?_
  refine r_goto F (tgt := 74) dX7_mayCome_70 (by decide) ?_
  exact Wt_pick [] rfl (hj74 true)
theorem c_X7_mayCome (G : Gx) (l : Launch) (h : Hp) (p1 : Int32) (p2 : Int32) (p3 : Int32) : Ctr G l yX7_mayCome (.code yX7_mayCome cX7_mayCome 4 (some .boolean) :: GT) rmX7_mayCome [.ref (adr G 7 0 0), .int p1, .int p2, .int p3] h (f_X7_mayCome h p1 p2 p3) (fun v => some (.int (b2i v))) (fun _ => h) (fun _ => True) :=
  ctr_of (by decide) (Nat.le_of_ble_eq_true rfl) ⟨rfl, rfl⟩ fun X _ e2 hA hL F => by subst e2; exact w_X7_mayCome X F hA hL h p1 p2 p3
