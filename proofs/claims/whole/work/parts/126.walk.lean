theorem dX8_best_0 : decode cX8_best 0 = .ok (.aload_n 0, 1) := by decide +kernel
theorem dX8_best_1 : decode cX8_best 1 = .ok (.iconst 0, 1) := by decide +kernel
theorem dX8_best_2 : decode cX8_best 2 = .ok (.putfield 163, 3) := by decide +kernel
theorem dX8_best_5 : decode cX8_best 5 = .ok (.iload_n 1, 1) := by decide +kernel
theorem dX8_best_6 : decode cX8_best 6 = .ok (.iconst 0, 1) := by decide +kernel
theorem dX8_best_7 : decode cX8_best 7 = .ok (.bipush 99, 2) := by decide +kernel
theorem dX8_best_9 : decode cX8_best 9 = .ok (.invokestatic 208, 3) := by decide +kernel
theorem dX8_best_12 : decode cX8_best 12 = .ok (.ifCond .ne 5, 3) := by decide +kernel
theorem dX8_best_15 : decode cX8_best 15 = .ok (.iconst (-1), 1) := by decide +kernel
theorem dX8_best_16 : decode cX8_best 16 = .ok (.ireturn, 1) := by decide +kernel
theorem dX8_best_17 : decode cX8_best 17 = .ok (.iconst 0, 1) := by decide +kernel
theorem dX8_best_18 : decode cX8_best 18 = .ok (.istore_n 2, 1) := by decide +kernel
theorem dX8_best_19 : decode cX8_best 19 = .ok (.iconst (-1), 1) := by decide +kernel
theorem dX8_best_20 : decode cX8_best 20 = .ok (.istore_n 3, 1) := by decide +kernel
theorem dX8_best_21 : decode cX8_best 21 = .ok (.iconst 0, 1) := by decide +kernel
theorem dX8_best_22 : decode cX8_best 22 = .ok (.istore 4, 2) := by decide +kernel
theorem dX8_best_24 : decode cX8_best 24 = .ok (.iload 4, 2) := by decide +kernel
theorem dX8_best_26 : decode cX8_best 26 = .ok (.iconst 3, 1) := by decide +kernel
theorem dX8_best_27 : decode cX8_best 27 = .ok (.if_icmp .ge 37, 3) := by decide +kernel
theorem dX8_best_30 : decode cX8_best 30 = .ok (.aload_n 0, 1) := by decide +kernel
theorem dX8_best_31 : decode cX8_best 31 = .ok (.iload 4, 2) := by decide +kernel
theorem dX8_best_33 : decode cX8_best 33 = .ok (.iload_n 1, 1) := by decide +kernel
theorem dX8_best_34 : decode cX8_best 34 = .ok (.invokevirtual 491, 3) := by decide +kernel
theorem dX8_best_37 : decode cX8_best 37 = .ok (.aload_n 0, 1) := by decide +kernel
theorem dX8_best_38 : decode cX8_best 38 = .ok (.iconst 1, 1) := by decide +kernel
theorem dX8_best_39 : decode cX8_best 39 = .ok (.invokevirtual 497, 3) := by decide +kernel
theorem dX8_best_42 : decode cX8_best 42 = .ok (.iload_n 3, 1) := by decide +kernel
theorem dX8_best_43 : decode cX8_best 43 = .ok (.if_icmp .gt 6, 3) := by decide +kernel
theorem dX8_best_46 : decode cX8_best 46 = .ok (.goto 12, 3) := by decide +kernel
theorem dX8_best_49 : decode cX8_best 49 = .ok (.iload 4, 2) := by decide +kernel
theorem dX8_best_51 : decode cX8_best 51 = .ok (.istore_n 2, 1) := by decide +kernel
theorem dX8_best_52 : decode cX8_best 52 = .ok (.aload_n 0, 1) := by decide +kernel
theorem dX8_best_53 : decode cX8_best 53 = .ok (.iconst 1, 1) := by decide +kernel
theorem dX8_best_54 : decode cX8_best 54 = .ok (.invokevirtual 497, 3) := by decide +kernel
theorem dX8_best_57 : decode cX8_best 57 = .ok (.istore_n 3, 1) := by decide +kernel
theorem dX8_best_58 : decode cX8_best 58 = .ok (.iinc 4 1, 3) := by decide +kernel
theorem dX8_best_61 : decode cX8_best 61 = .ok (.goto (-37), 3) := by decide +kernel
theorem dX8_best_64 : decode cX8_best 64 = .ok (.iload_n 2, 1) := by decide +kernel
theorem dX8_best_65 : decode cX8_best 65 = .ok (.ireturn, 1) := by decide +kernel
theorem dX8_powerOf_0 : decode cX8_powerOf 0 = .ok (.iconst 1, 1) := by decide +kernel
theorem dX8_powerOf_1 : decode cX8_powerOf 1 = .ok (.istore_n 2, 1) := by decide +kernel
theorem dX8_powerOf_2 : decode cX8_powerOf 2 = .ok (.iconst 0, 1) := by decide +kernel
theorem dX8_powerOf_3 : decode cX8_powerOf 3 = .ok (.istore_n 3, 1) := by decide +kernel
theorem dX8_powerOf_4 : decode cX8_powerOf 4 = .ok (.iload_n 3, 1) := by decide +kernel
theorem dX8_powerOf_5 : decode cX8_powerOf 5 = .ok (.iload_n 1, 1) := by decide +kernel
theorem dX8_powerOf_6 : decode cX8_powerOf 6 = .ok (.if_icmp .ge 13, 3) := by decide +kernel
theorem dX8_powerOf_9 : decode cX8_powerOf 9 = .ok (.iload_n 2, 1) := by decide +kernel
theorem dX8_powerOf_10 : decode cX8_powerOf 10 = .ok (.iload_n 0, 1) := by decide +kernel
theorem dX8_powerOf_11 : decode cX8_powerOf 11 = .ok (.imul, 1) := by decide +kernel
theorem dX8_powerOf_12 : decode cX8_powerOf 12 = .ok (.istore_n 2, 1) := by decide +kernel
theorem dX8_powerOf_13 : decode cX8_powerOf 13 = .ok (.iinc 3 1, 3) := by decide +kernel
theorem dX8_powerOf_16 : decode cX8_powerOf 16 = .ok (.goto (-12), 3) := by decide +kernel
theorem dX8_powerOf_19 : decode cX8_powerOf 19 = .ok (.iload_n 2, 1) := by decide +kernel
theorem dX8_powerOf_20 : decode cX8_powerOf 20 = .ok (.ireturn, 1) := by decide +kernel
theorem dX8_digitOf_0 : decode cX8_digitOf 0 = .ok (.iload_n 0, 1) := by decide +kernel
theorem dX8_digitOf_1 : decode cX8_digitOf 1 = .ok (.iload_n 1, 1) := by decide +kernel
theorem dX8_digitOf_2 : decode cX8_digitOf 2 = .ok (.iload_n 2, 1) := by decide +kernel
theorem dX8_digitOf_3 : decode cX8_digitOf 3 = .ok (.iconst 1, 1) := by decide +kernel
theorem dX8_digitOf_4 : decode cX8_digitOf 4 = .ok (.isub, 1) := by decide +kernel
theorem dX8_digitOf_5 : decode cX8_digitOf 5 = .ok (.iload_n 3, 1) := by decide +kernel
theorem dX8_digitOf_6 : decode cX8_digitOf 6 = .ok (.isub, 1) := by decide +kernel
theorem dX8_digitOf_7 : decode cX8_digitOf 7 = .ok (.invokestatic 500, 3) := by decide +kernel
theorem dX8_digitOf_10 : decode cX8_digitOf 10 = .ok (.idiv, 1) := by decide +kernel
theorem dX8_digitOf_11 : decode cX8_digitOf 11 = .ok (.iload_n 1, 1) := by decide +kernel
theorem dX8_digitOf_12 : decode cX8_digitOf 12 = .ok (.irem, 1) := by decide +kernel
theorem dX8_digitOf_13 : decode cX8_digitOf 13 = .ok (.ireturn, 1) := by decide +kernel
theorem dX8_layPlan_0 : decode cX8_layPlan 0 = .ok (.aload_n 0, 1) := by decide +kernel
theorem dX8_layPlan_1 : decode cX8_layPlan 1 = .ok (.iconst (-1), 1) := by decide +kernel
theorem dX8_layPlan_2 : decode cX8_layPlan 2 = .ok (.putfield 503, 3) := by decide +kernel
theorem dX8_layPlan_5 : decode cX8_layPlan 5 = .ok (.iconst 0, 1) := by decide +kernel
theorem dX8_layPlan_6 : decode cX8_layPlan 6 = .ok (.istore_n 3, 1) := by decide +kernel
theorem dX8_layPlan_7 : decode cX8_layPlan 7 = .ok (.iload_n 3, 1) := by decide +kernel
theorem dX8_layPlan_8 : decode cX8_layPlan 8 = .ok (.iconst 3, 1) := by decide +kernel
theorem dX8_layPlan_9 : decode cX8_layPlan 9 = .ok (.iload_n 2, 1) := by decide +kernel
theorem dX8_layPlan_10 : decode cX8_layPlan 10 = .ok (.invokestatic 500, 3) := by decide +kernel
theorem dX8_layPlan_13 : decode cX8_layPlan 13 = .ok (.if_icmp .ge 122, 3) := by decide +kernel
theorem dX8_layPlan_16 : decode cX8_layPlan 16 = .ok (.aload_n 0, 1) := by decide +kernel
theorem dX8_layPlan_17 : decode cX8_layPlan 17 = .ok (.invokevirtual 485, 3) := by decide +kernel
theorem dX8_layPlan_20 : decode cX8_layPlan 20 = .ok (.iconst 0, 1) := by decide +kernel
theorem dX8_layPlan_21 : decode cX8_layPlan 21 = .ok (.istore 4, 2) := by decide +kernel
theorem dX8_layPlan_23 : decode cX8_layPlan 23 = .ok (.iload 4, 2) := by decide +kernel
theorem dX8_layPlan_25 : decode cX8_layPlan 25 = .ok (.iload_n 2, 1) := by decide +kernel
theorem dX8_layPlan_26 : decode cX8_layPlan 26 = .ok (.if_icmp .ge 36, 3) := by decide +kernel
theorem dX8_layPlan_29 : decode cX8_layPlan 29 = .ok (.aload_n 0, 1) := by decide +kernel
theorem dX8_layPlan_30 : decode cX8_layPlan 30 = .ok (.getfield 97, 3) := by decide +kernel
theorem dX8_layPlan_33 : decode cX8_layPlan 33 = .ok (.iconst 4, 1) := by decide +kernel
theorem dX8_layPlan_34 : decode cX8_layPlan 34 = .ok (.iload_n 1, 1) := by decide +kernel
theorem dX8_layPlan_35 : decode cX8_layPlan 35 = .ok (.iadd, 1) := by decide +kernel
theorem dX8_layPlan_36 : decode cX8_layPlan 36 = .ok (.iconst 1, 1) := by decide +kernel
theorem dX8_layPlan_37 : decode cX8_layPlan 37 = .ok (.iload_n 3, 1) := by decide +kernel
theorem dX8_layPlan_38 : decode cX8_layPlan 38 = .ok (.iconst 3, 1) := by decide +kernel
theorem dX8_layPlan_39 : decode cX8_layPlan 39 = .ok (.iload_n 2, 1) := by decide +kernel
theorem dX8_layPlan_40 : decode cX8_layPlan 40 = .ok (.iload 4, 2) := by decide +kernel
theorem dX8_layPlan_42 : decode cX8_layPlan 42 = .ok (.invokestatic 506, 3) := by decide +kernel
theorem dX8_layPlan_45 : decode cX8_layPlan 45 = .ok (.iadd, 1) := by decide +kernel
theorem dX8_layPlan_46 : decode cX8_layPlan 46 = .ok (.iastore, 1) := by decide +kernel
theorem dX8_layPlan_47 : decode cX8_layPlan 47 = .ok (.aload_n 0, 1) := by decide +kernel
theorem dX8_layPlan_48 : decode cX8_layPlan 48 = .ok (.iconst 1, 1) := by decide +kernel
theorem dX8_layPlan_49 : decode cX8_layPlan 49 = .ok (.aload_n 0, 1) := by decide +kernel
theorem dX8_layPlan_50 : decode cX8_layPlan 50 = .ok (.getfield 363, 3) := by decide +kernel
theorem dX8_layPlan_53 : decode cX8_layPlan 53 = .ok (.invokevirtual 482, 3) := by decide +kernel
theorem dX8_layPlan_56 : decode cX8_layPlan 56 = .ok (.iinc 4 1, 3) := by decide +kernel
theorem dX8_layPlan_59 : decode cX8_layPlan 59 = .ok (.goto (-36), 3) := by decide +kernel
theorem dX8_layPlan_62 : decode cX8_layPlan 62 = .ok (.aload_n 0, 1) := by decide +kernel
theorem dX8_layPlan_63 : decode cX8_layPlan 63 = .ok (.getfield 100, 3) := by decide +kernel
theorem dX8_layPlan_66 : decode cX8_layPlan 66 = .ok (.iconst 4, 1) := by decide +kernel
theorem dX8_layPlan_67 : decode cX8_layPlan 67 = .ok (.iload_n 1, 1) := by decide +kernel
theorem dX8_layPlan_68 : decode cX8_layPlan 68 = .ok (.iadd, 1) := by decide +kernel
theorem dX8_layPlan_69 : decode cX8_layPlan 69 = .ok (.iaload, 1) := by decide +kernel
theorem dX8_layPlan_70 : decode cX8_layPlan 70 = .ok (.aload_n 0, 1) := by decide +kernel
theorem dX8_layPlan_71 : decode cX8_layPlan 71 = .ok (.getfield 100, 3) := by decide +kernel
theorem dX8_layPlan_74 : decode cX8_layPlan 74 = .ok (.iload_n 1, 1) := by decide +kernel
theorem dX8_layPlan_75 : decode cX8_layPlan 75 = .ok (.iaload, 1) := by decide +kernel
theorem dX8_layPlan_76 : decode cX8_layPlan 76 = .ok (.isub, 1) := by decide +kernel
theorem dX8_layPlan_77 : decode cX8_layPlan 77 = .ok (.istore 4, 2) := by decide +kernel
theorem dX8_layPlan_79 : decode cX8_layPlan 79 = .ok (.iload 4, 2) := by decide +kernel
theorem dX8_layPlan_81 : decode cX8_layPlan 81 = .ok (.aload_n 0, 1) := by decide +kernel
theorem dX8_layPlan_82 : decode cX8_layPlan 82 = .ok (.getfield 503, 3) := by decide +kernel
theorem dX8_layPlan_85 : decode cX8_layPlan 85 = .ok (.if_icmp .gt 6, 3) := by decide +kernel
theorem dX8_layPlan_88 : decode cX8_layPlan 88 = .ok (.goto 41, 3) := by decide +kernel
theorem dX8_layPlan_91 : decode cX8_layPlan 91 = .ok (.aload_n 0, 1) := by decide +kernel
theorem dX8_layPlan_92 : decode cX8_layPlan 92 = .ok (.iload 4, 2) := by decide +kernel
theorem dX8_layPlan_94 : decode cX8_layPlan 94 = .ok (.putfield 503, 3) := by decide +kernel
theorem dX8_layPlan_97 : decode cX8_layPlan 97 = .ok (.iconst 0, 1) := by decide +kernel
theorem dX8_layPlan_98 : decode cX8_layPlan 98 = .ok (.istore 5, 2) := by decide +kernel
theorem dX8_layPlan_100 : decode cX8_layPlan 100 = .ok (.iload 5, 2) := by decide +kernel
theorem dX8_layPlan_102 : decode cX8_layPlan 102 = .ok (.iload_n 2, 1) := by decide +kernel
theorem dX8_layPlan_103 : decode cX8_layPlan 103 = .ok (.if_icmp .ge 26, 3) := by decide +kernel
theorem dX8_layPlan_106 : decode cX8_layPlan 106 = .ok (.aload_n 0, 1) := by decide +kernel
theorem dX8_layPlan_107 : decode cX8_layPlan 107 = .ok (.getfield 121, 3) := by decide +kernel
theorem dX8_layPlan_110 : decode cX8_layPlan 110 = .ok (.iload 5, 2) := by decide +kernel
theorem dX8_layPlan_112 : decode cX8_layPlan 112 = .ok (.iconst 1, 1) := by decide +kernel
theorem dX8_layPlan_113 : decode cX8_layPlan 113 = .ok (.iload_n 3, 1) := by decide +kernel
theorem dX8_layPlan_114 : decode cX8_layPlan 114 = .ok (.iconst 3, 1) := by decide +kernel
theorem dX8_layPlan_115 : decode cX8_layPlan 115 = .ok (.iload_n 2, 1) := by decide +kernel
theorem dX8_layPlan_116 : decode cX8_layPlan 116 = .ok (.iload 5, 2) := by decide +kernel
theorem dX8_layPlan_118 : decode cX8_layPlan 118 = .ok (.invokestatic 506, 3) := by decide +kernel
theorem dX8_layPlan_121 : decode cX8_layPlan 121 = .ok (.iadd, 1) := by decide +kernel
theorem dX8_layPlan_122 : decode cX8_layPlan 122 = .ok (.iastore, 1) := by decide +kernel
theorem dX8_layPlan_123 : decode cX8_layPlan 123 = .ok (.iinc 5 1, 3) := by decide +kernel
theorem dX8_layPlan_126 : decode cX8_layPlan 126 = .ok (.goto (-26), 3) := by decide +kernel
theorem dX8_layPlan_129 : decode cX8_layPlan 129 = .ok (.iinc 3 1, 3) := by decide +kernel
theorem dX8_layPlan_132 : decode cX8_layPlan 132 = .ok (.goto (-125), 3) := by decide +kernel
theorem dX8_layPlan_135 : decode cX8_layPlan 135 = .ok (.return_, 1) := by decide +kernel
theorem dX8_plan_0 : decode cX8_plan 0 = .ok (.aload_n 0, 1) := by decide +kernel
theorem dX8_plan_1 : decode cX8_plan 1 = .ok (.iconst 0, 1) := by decide +kernel
theorem dX8_plan_2 : decode cX8_plan 2 = .ok (.putfield 163, 3) := by decide +kernel
theorem dX8_plan_5 : decode cX8_plan 5 = .ok (.aload_n 0, 1) := by decide +kernel
theorem dX8_plan_6 : decode cX8_plan 6 = .ok (.iload_n 1, 1) := by decide +kernel
theorem dX8_plan_7 : decode cX8_plan 7 = .ok (.invokevirtual 462, 3) := by decide +kernel
theorem dX8_plan_10 : decode cX8_plan 10 = .ok (.ifCond .eq 13, 3) := by decide +kernel
theorem dX8_plan_13 : decode cX8_plan 13 = .ok (.iload_n 2, 1) := by decide +kernel
theorem dX8_plan_14 : decode cX8_plan 14 = .ok (.iconst 1, 1) := by decide +kernel
theorem dX8_plan_15 : decode cX8_plan 15 = .ok (.bipush 6, 2) := by decide +kernel
theorem dX8_plan_17 : decode cX8_plan 17 = .ok (.invokestatic 208, 3) := by decide +kernel
theorem dX8_plan_20 : decode cX8_plan 20 = .ok (.ifCond .ne 5, 3) := by decide +kernel
theorem dX8_plan_23 : decode cX8_plan 23 = .ok (.iconst (-1), 1) := by decide +kernel
theorem dX8_plan_24 : decode cX8_plan 24 = .ok (.ireturn, 1) := by decide +kernel
theorem dX8_plan_25 : decode cX8_plan 25 = .ok (.aload_n 0, 1) := by decide +kernel
theorem dX8_plan_26 : decode cX8_plan 26 = .ok (.iload_n 1, 1) := by decide +kernel
theorem dX8_plan_27 : decode cX8_plan 27 = .ok (.iload_n 2, 1) := by decide +kernel
theorem dX8_plan_28 : decode cX8_plan 28 = .ok (.invokevirtual 510, 3) := by decide +kernel
theorem dX8_plan_31 : decode cX8_plan 31 = .ok (.aload_n 0, 1) := by decide +kernel
theorem dX8_plan_32 : decode cX8_plan 32 = .ok (.getfield 503, 3) := by decide +kernel
theorem dX8_plan_35 : decode cX8_plan 35 = .ok (.ireturn, 1) := by decide +kernel
theorem dX8_planned_0 : decode cX8_planned 0 = .ok (.aload_n 0, 1) := by decide +kernel
theorem dX8_planned_1 : decode cX8_planned 1 = .ok (.iconst 0, 1) := by decide +kernel
theorem dX8_planned_2 : decode cX8_planned 2 = .ok (.putfield 163, 3) := by decide +kernel
theorem dX8_planned_5 : decode cX8_planned 5 = .ok (.aload_n 0, 1) := by decide +kernel
theorem dX8_planned_6 : decode cX8_planned 6 = .ok (.iload_n 1, 1) := by decide +kernel
theorem dX8_planned_7 : decode cX8_planned 7 = .ok (.invokevirtual 462, 3) := by decide +kernel
theorem dX8_planned_10 : decode cX8_planned 10 = .ok (.ifCond .eq 17, 3) := by decide +kernel
theorem dX8_planned_13 : decode cX8_planned 13 = .ok (.iload_n 2, 1) := by decide +kernel
theorem dX8_planned_14 : decode cX8_planned 14 = .ok (.iconst 1, 1) := by decide +kernel
theorem dX8_planned_15 : decode cX8_planned 15 = .ok (.bipush 6, 2) := by decide +kernel
theorem dX8_planned_17 : decode cX8_planned 17 = .ok (.invokestatic 208, 3) := by decide +kernel
theorem dX8_planned_20 : decode cX8_planned 20 = .ok (.ifCond .eq 7, 3) := by decide +kernel
theorem dX8_planned_23 : decode cX8_planned 23 = .ok (.iload_n 3, 1) := by decide +kernel
theorem dX8_planned_24 : decode cX8_planned 24 = .ok (.ifCond .ge 5, 3) := by decide +kernel
theorem dX8_planned_27 : decode cX8_planned 27 = .ok (.iconst (-1), 1) := by decide +kernel
theorem dX8_planned_28 : decode cX8_planned 28 = .ok (.ireturn, 1) := by decide +kernel
theorem dX8_planned_29 : decode cX8_planned 29 = .ok (.iload_n 3, 1) := by decide +kernel
theorem dX8_planned_30 : decode cX8_planned 30 = .ok (.iload_n 2, 1) := by decide +kernel
theorem dX8_planned_31 : decode cX8_planned 31 = .ok (.if_icmp .lt 6, 3) := by decide +kernel
theorem dX8_planned_34 : decode cX8_planned 34 = .ok (.bipush (-2), 2) := by decide +kernel
theorem dX8_planned_36 : decode cX8_planned 36 = .ok (.ireturn, 1) := by decide +kernel
theorem dX8_planned_37 : decode cX8_planned 37 = .ok (.aload_n 0, 1) := by decide +kernel
theorem dX8_planned_38 : decode cX8_planned 38 = .ok (.iload_n 1, 1) := by decide +kernel
theorem dX8_planned_39 : decode cX8_planned 39 = .ok (.iload_n 2, 1) := by decide +kernel
theorem dX8_planned_40 : decode cX8_planned 40 = .ok (.invokevirtual 510, 3) := by decide +kernel
theorem dX8_planned_43 : decode cX8_planned 43 = .ok (.aload_n 0, 1) := by decide +kernel
theorem dX8_planned_44 : decode cX8_planned 44 = .ok (.getfield 121, 3) := by decide +kernel
theorem dX8_planned_47 : decode cX8_planned 47 = .ok (.iload_n 3, 1) := by decide +kernel
theorem dX8_planned_48 : decode cX8_planned 48 = .ok (.iaload, 1) := by decide +kernel
theorem dX8_planned_49 : decode cX8_planned 49 = .ok (.ireturn, 1) := by decide +kernel
theorem dX8_areComing_0 : decode cX8_areComing 0 = .ok (.aload_n 0, 1) := by decide +kernel
theorem dX8_areComing_1 : decode cX8_areComing 1 = .ok (.iload_n 1, 1) := by decide +kernel
theorem dX8_areComing_2 : decode cX8_areComing 2 = .ok (.invokevirtual 462, 3) := by decide +kernel
theorem dX8_areComing_5 : decode cX8_areComing 5 = .ok (.ifCond .eq 60, 3) := by decide +kernel
theorem dX8_areComing_8 : decode cX8_areComing 8 = .ok (.aload_n 0, 1) := by decide +kernel
theorem dX8_areComing_9 : decode cX8_areComing 9 = .ok (.iload_n 2, 1) := by decide +kernel
theorem dX8_areComing_10 : decode cX8_areComing 10 = .ok (.invokevirtual 462, 3) := by decide +kernel
theorem dX8_areComing_13 : decode cX8_areComing 13 = .ok (.ifCond .eq 52, 3) := by decide +kernel
theorem dX8_areComing_16 : decode cX8_areComing 16 = .ok (.iload_n 1, 1) := by decide +kernel
theorem dX8_areComing_17 : decode cX8_areComing 17 = .ok (.iload_n 2, 1) := by decide +kernel
theorem dX8_areComing_18 : decode cX8_areComing 18 = .ok (.if_icmp .eq 47, 3) := by decide +kernel
theorem dX8_areComing_21 : decode cX8_areComing 21 = .ok (.aload_n 0, 1) := by decide +kernel
theorem dX8_areComing_22 : decode cX8_areComing 22 = .ok (.getfield 94, 3) := by decide +kernel
theorem dX8_areComing_25 : decode cX8_areComing 25 = .ok (.iload_n 1, 1) := by decide +kernel
theorem dX8_areComing_26 : decode cX8_areComing 26 = .ok (.iaload, 1) := by decide +kernel
theorem dX8_areComing_27 : decode cX8_areComing 27 = .ok (.aload_n 0, 1) := by decide +kernel
theorem dX8_areComing_28 : decode cX8_areComing 28 = .ok (.getfield 115, 3) := by decide +kernel
theorem dX8_areComing_31 : decode cX8_areComing 31 = .ok (.iconst 0, 1) := by decide +kernel
theorem dX8_areComing_32 : decode cX8_areComing 32 = .ok (.iaload, 1) := by decide +kernel
theorem dX8_areComing_33 : decode cX8_areComing 33 = .ok (.if_icmp .le 32, 3) := by decide +kernel
theorem dX8_areComing_36 : decode cX8_areComing 36 = .ok (.aload_n 0, 1) := by decide +kernel
theorem dX8_areComing_37 : decode cX8_areComing 37 = .ok (.getfield 94, 3) := by decide +kernel
theorem dX8_areComing_40 : decode cX8_areComing 40 = .ok (.iload_n 2, 1) := by decide +kernel
theorem dX8_areComing_41 : decode cX8_areComing 41 = .ok (.iaload, 1) := by decide +kernel
theorem dX8_areComing_42 : decode cX8_areComing 42 = .ok (.aload_n 0, 1) := by decide +kernel
theorem dX8_areComing_43 : decode cX8_areComing 43 = .ok (.getfield 115, 3) := by decide +kernel
theorem dX8_areComing_46 : decode cX8_areComing 46 = .ok (.iconst 0, 1) := by decide +kernel
theorem dX8_areComing_47 : decode cX8_areComing 47 = .ok (.iaload, 1) := by decide +kernel
theorem dX8_areComing_48 : decode cX8_areComing 48 = .ok (.if_icmp .le 17, 3) := by decide +kernel
theorem dX8_areComing_51 : decode cX8_areComing 51 = .ok (.iload_n 3, 1) := by decide +kernel
theorem dX8_areComing_52 : decode cX8_areComing 52 = .ok (.iconst 1, 1) := by decide +kernel
theorem dX8_areComing_53 : decode cX8_areComing 53 = .ok (.bipush 99, 2) := by decide +kernel
theorem dX8_areComing_55 : decode cX8_areComing 55 = .ok (.invokestatic 208, 3) := by decide +kernel
theorem dX8_areComing_58 : decode cX8_areComing 58 = .ok (.ifCond .eq 7, 3) := by decide +kernel
theorem dX8_areComing_61 : decode cX8_areComing 61 = .ok (.iconst 1, 1) := by decide +kernel
theorem dX8_areComing_62 : decode cX8_areComing 62 = .ok (.goto 4, 3) := by decide +kernel
theorem dX8_areComing_65 : decode cX8_areComing 65 = .ok (.iconst 0, 1) := by decide +kernel
theorem dX8_areComing_66 : decode cX8_areComing 66 = .ok (.ireturn, 1) := by decide +kernel
theorem dX8_restAt_0 : decode cX8_restAt 0 = .ok (.iconst 0, 1) := by decide +kernel
theorem dX8_restAt_1 : decode cX8_restAt 1 = .ok (.istore 5, 2) := by decide +kernel
theorem dX8_restAt_3 : decode cX8_restAt 3 = .ok (.iload 5, 2) := by decide +kernel
theorem dX8_restAt_5 : decode cX8_restAt 5 = .ok (.bipush 16, 2) := by decide +kernel
theorem dX8_restAt_7 : decode cX8_restAt 7 = .ok (.if_icmp .ge 104, 3) := by decide +kernel
theorem dX8_restAt_10 : decode cX8_restAt 10 = .ok (.aload_n 0, 1) := by decide +kernel
theorem dX8_restAt_11 : decode cX8_restAt 11 = .ok (.invokevirtual 485, 3) := by decide +kernel
theorem dX8_restAt_14 : decode cX8_restAt 14 = .ok (.aload_n 0, 1) := by decide +kernel
theorem dX8_restAt_15 : decode cX8_restAt 15 = .ok (.getfield 94, 3) := by decide +kernel
theorem dX8_restAt_18 : decode cX8_restAt 18 = .ok (.iconst 4, 1) := by decide +kernel
theorem dX8_restAt_19 : decode cX8_restAt 19 = .ok (.iload_n 1, 1) := by decide +kernel
theorem dX8_restAt_20 : decode cX8_restAt 20 = .ok (.iadd, 1) := by decide +kernel
theorem dX8_restAt_21 : decode cX8_restAt 21 = .ok (.aload_n 0, 1) := by decide +kernel
theorem dX8_restAt_22 : decode cX8_restAt 22 = .ok (.getfield 115, 3) := by decide +kernel
theorem dX8_restAt_25 : decode cX8_restAt 25 = .ok (.iconst 0, 1) := by decide +kernel
theorem dX8_restAt_26 : decode cX8_restAt 26 = .ok (.iaload, 1) := by decide +kernel
theorem dX8_restAt_27 : decode cX8_restAt 27 = .ok (.iload 5, 2) := by decide +kernel
theorem dX8_restAt_29 : decode cX8_restAt 29 = .ok (.iconst 4, 1) := by decide +kernel
theorem dX8_restAt_30 : decode cX8_restAt 30 = .ok (.idiv, 1) := by decide +kernel
theorem dX8_restAt_31 : decode cX8_restAt 31 = .ok (.iadd, 1) := by decide +kernel
theorem dX8_restAt_32 : decode cX8_restAt 32 = .ok (.iastore, 1) := by decide +kernel
theorem dX8_restAt_33 : decode cX8_restAt 33 = .ok (.aload_n 0, 1) := by decide +kernel
theorem dX8_restAt_34 : decode cX8_restAt 34 = .ok (.getfield 94, 3) := by decide +kernel
theorem dX8_restAt_37 : decode cX8_restAt 37 = .ok (.iconst 4, 1) := by decide +kernel
theorem dX8_restAt_38 : decode cX8_restAt 38 = .ok (.iload_n 2, 1) := by decide +kernel
theorem dX8_restAt_39 : decode cX8_restAt 39 = .ok (.iadd, 1) := by decide +kernel
theorem dX8_restAt_40 : decode cX8_restAt 40 = .ok (.aload_n 0, 1) := by decide +kernel
theorem dX8_restAt_41 : decode cX8_restAt 41 = .ok (.getfield 115, 3) := by decide +kernel
theorem dX8_restAt_44 : decode cX8_restAt 44 = .ok (.iconst 0, 1) := by decide +kernel
theorem dX8_restAt_45 : decode cX8_restAt 45 = .ok (.iaload, 1) := by decide +kernel
theorem dX8_restAt_46 : decode cX8_restAt 46 = .ok (.iload 5, 2) := by decide +kernel
theorem dX8_restAt_48 : decode cX8_restAt 48 = .ok (.iconst 4, 1) := by decide +kernel
theorem dX8_restAt_49 : decode cX8_restAt 49 = .ok (.irem, 1) := by decide +kernel
theorem dX8_restAt_50 : decode cX8_restAt 50 = .ok (.iadd, 1) := by decide +kernel
theorem dX8_restAt_51 : decode cX8_restAt 51 = .ok (.iastore, 1) := by decide +kernel
theorem dX8_restAt_52 : decode cX8_restAt 52 = .ok (.aload_n 0, 1) := by decide +kernel
theorem dX8_restAt_53 : decode cX8_restAt 53 = .ok (.iload_n 3, 1) := by decide +kernel
theorem dX8_restAt_54 : decode cX8_restAt 54 = .ok (.aload_n 0, 1) := by decide +kernel
theorem dX8_restAt_55 : decode cX8_restAt 55 = .ok (.getfield 363, 3) := by decide +kernel
theorem dX8_restAt_58 : decode cX8_restAt 58 = .ok (.invokevirtual 488, 3) := by decide +kernel
theorem dX8_restAt_61 : decode cX8_restAt 61 = .ok (.aload_n 0, 1) := by decide +kernel
theorem dX8_restAt_62 : decode cX8_restAt 62 = .ok (.getfield 124, 3) := by decide +kernel
theorem dX8_restAt_65 : decode cX8_restAt 65 = .ok (.iload 5, 2) := by decide +kernel
theorem dX8_restAt_67 : decode cX8_restAt 67 = .ok (.aload_n 0, 1) := by decide +kernel
theorem dX8_restAt_68 : decode cX8_restAt 68 = .ok (.getfield 100, 3) := by decide +kernel
theorem dX8_restAt_71 : decode cX8_restAt 71 = .ok (.iconst 4, 1) := by decide +kernel
theorem dX8_restAt_72 : decode cX8_restAt 72 = .ok (.iload_n 1, 1) := by decide +kernel
theorem dX8_restAt_73 : decode cX8_restAt 73 = .ok (.iadd, 1) := by decide +kernel
theorem dX8_restAt_74 : decode cX8_restAt 74 = .ok (.iaload, 1) := by decide +kernel
theorem dX8_restAt_75 : decode cX8_restAt 75 = .ok (.aload_n 0, 1) := by decide +kernel
theorem dX8_restAt_76 : decode cX8_restAt 76 = .ok (.getfield 100, 3) := by decide +kernel
theorem dX8_restAt_79 : decode cX8_restAt 79 = .ok (.iload_n 1, 1) := by decide +kernel
theorem dX8_restAt_80 : decode cX8_restAt 80 = .ok (.iaload, 1) := by decide +kernel
theorem dX8_restAt_81 : decode cX8_restAt 81 = .ok (.isub, 1) := by decide +kernel
theorem dX8_restAt_82 : decode cX8_restAt 82 = .ok (.iastore, 1) := by decide +kernel
theorem dX8_restAt_83 : decode cX8_restAt 83 = .ok (.aload_n 0, 1) := by decide +kernel
theorem dX8_restAt_84 : decode cX8_restAt 84 = .ok (.getfield 127, 3) := by decide +kernel
theorem dX8_restAt_87 : decode cX8_restAt 87 = .ok (.iload 5, 2) := by decide +kernel
theorem dX8_restAt_89 : decode cX8_restAt 89 = .ok (.aload_n 0, 1) := by decide +kernel
theorem dX8_restAt_90 : decode cX8_restAt 90 = .ok (.getfield 100, 3) := by decide +kernel
theorem dX8_restAt_93 : decode cX8_restAt 93 = .ok (.iconst 4, 1) := by decide +kernel
theorem dX8_restAt_94 : decode cX8_restAt 94 = .ok (.iload_n 2, 1) := by decide +kernel
theorem dX8_restAt_95 : decode cX8_restAt 95 = .ok (.iadd, 1) := by decide +kernel
theorem dX8_restAt_96 : decode cX8_restAt 96 = .ok (.iaload, 1) := by decide +kernel
theorem dX8_restAt_97 : decode cX8_restAt 97 = .ok (.aload_n 0, 1) := by decide +kernel
theorem dX8_restAt_98 : decode cX8_restAt 98 = .ok (.getfield 100, 3) := by decide +kernel
theorem dX8_restAt_101 : decode cX8_restAt 101 = .ok (.iload_n 2, 1) := by decide +kernel
theorem dX8_restAt_102 : decode cX8_restAt 102 = .ok (.iaload, 1) := by decide +kernel
theorem dX8_restAt_103 : decode cX8_restAt 103 = .ok (.isub, 1) := by decide +kernel
theorem dX8_restAt_104 : decode cX8_restAt 104 = .ok (.iastore, 1) := by decide +kernel
theorem dX8_restAt_105 : decode cX8_restAt 105 = .ok (.iinc 5 1, 3) := by decide +kernel
theorem dX8_restAt_108 : decode cX8_restAt 108 = .ok (.goto (-105), 3) := by decide +kernel
theorem dX8_restAt_111 : decode cX8_restAt 111 = .ok (.iconst 0, 1) := by decide +kernel
theorem dX8_restAt_112 : decode cX8_restAt 112 = .ok (.istore 5, 2) := by decide +kernel
theorem dX8_restAt_114 : decode cX8_restAt 114 = .ok (.iconst 0, 1) := by decide +kernel
theorem dX8_restAt_115 : decode cX8_restAt 115 = .ok (.istore 6, 2) := by decide +kernel
theorem dX8_restAt_117 : decode cX8_restAt 117 = .ok (.iload 6, 2) := by decide +kernel
theorem dX8_restAt_119 : decode cX8_restAt 119 = .ok (.bipush 16, 2) := by decide +kernel
theorem dX8_restAt_121 : decode cX8_restAt 121 = .ok (.if_icmp .ge 118, 3) := by decide +kernel
theorem dX8_restAt_124 : decode cX8_restAt 124 = .ok (.iconst 1, 1) := by decide +kernel
theorem dX8_restAt_125 : decode cX8_restAt 125 = .ok (.istore 7, 2) := by decide +kernel
theorem dX8_restAt_127 : decode cX8_restAt 127 = .ok (.iconst 0, 1) := by decide +kernel
theorem dX8_restAt_128 : decode cX8_restAt 128 = .ok (.istore 8, 2) := by decide +kernel
theorem dX8_restAt_130 : decode cX8_restAt 130 = .ok (.iload 8, 2) := by decide +kernel
theorem dX8_restAt_132 : decode cX8_restAt 132 = .ok (.iconst 4, 1) := by decide +kernel
theorem dX8_restAt_133 : decode cX8_restAt 133 = .ok (.if_icmp .ge 69, 3) := by decide +kernel
theorem dX8_restAt_136 : decode cX8_restAt 136 = .ok (.iload 7, 2) := by decide +kernel
theorem dX8_restAt_138 : decode cX8_restAt 138 = .ok (.ifCond .eq 55, 3) := by decide +kernel
theorem dX8_restAt_141 : decode cX8_restAt 141 = .ok (.aload_n 0, 1) := by decide +kernel
theorem dX8_restAt_142 : decode cX8_restAt 142 = .ok (.getfield 124, 3) := by decide +kernel
theorem dX8_restAt_145 : decode cX8_restAt 145 = .ok (.iconst 4, 1) := by decide +kernel
theorem dX8_restAt_146 : decode cX8_restAt 146 = .ok (.iload 8, 2) := by decide +kernel
theorem dX8_restAt_148 : decode cX8_restAt 148 = .ok (.imul, 1) := by decide +kernel
theorem dX8_restAt_149 : decode cX8_restAt 149 = .ok (.iload 6, 2) := by decide +kernel
theorem dX8_restAt_151 : decode cX8_restAt 151 = .ok (.iconst 4, 1) := by decide +kernel
theorem dX8_restAt_152 : decode cX8_restAt 152 = .ok (.irem, 1) := by decide +kernel
theorem dX8_restAt_153 : decode cX8_restAt 153 = .ok (.iadd, 1) := by decide +kernel
theorem dX8_restAt_154 : decode cX8_restAt 154 = .ok (.iaload, 1) := by decide +kernel
theorem dX8_restAt_155 : decode cX8_restAt 155 = .ok (.aload_n 0, 1) := by decide +kernel
theorem dX8_restAt_156 : decode cX8_restAt 156 = .ok (.getfield 124, 3) := by decide +kernel
theorem dX8_restAt_159 : decode cX8_restAt 159 = .ok (.iload 6, 2) := by decide +kernel
theorem dX8_restAt_161 : decode cX8_restAt 161 = .ok (.iaload, 1) := by decide +kernel
theorem dX8_restAt_162 : decode cX8_restAt 162 = .ok (.if_icmp .gt 31, 3) := by decide +kernel
theorem dX8_restAt_165 : decode cX8_restAt 165 = .ok (.aload_n 0, 1) := by decide +kernel
theorem dX8_restAt_166 : decode cX8_restAt 166 = .ok (.getfield 127, 3) := by decide +kernel
theorem dX8_restAt_169 : decode cX8_restAt 169 = .ok (.iload 6, 2) := by decide +kernel
theorem dX8_restAt_171 : decode cX8_restAt 171 = .ok (.iconst 4, 1) := by decide +kernel
theorem dX8_restAt_172 : decode cX8_restAt 172 = .ok (.idiv, 1) := by decide +kernel
theorem dX8_restAt_173 : decode cX8_restAt 173 = .ok (.iconst 4, 1) := by decide +kernel
theorem dX8_restAt_174 : decode cX8_restAt 174 = .ok (.imul, 1) := by decide +kernel
theorem dX8_restAt_175 : decode cX8_restAt 175 = .ok (.iload 8, 2) := by decide +kernel
theorem dX8_restAt_177 : decode cX8_restAt 177 = .ok (.iadd, 1) := by decide +kernel
theorem dX8_restAt_178 : decode cX8_restAt 178 = .ok (.iaload, 1) := by decide +kernel
theorem dX8_restAt_179 : decode cX8_restAt 179 = .ok (.aload_n 0, 1) := by decide +kernel
theorem dX8_restAt_180 : decode cX8_restAt 180 = .ok (.getfield 127, 3) := by decide +kernel
theorem dX8_restAt_183 : decode cX8_restAt 183 = .ok (.iload 6, 2) := by decide +kernel
theorem dX8_restAt_185 : decode cX8_restAt 185 = .ok (.iaload, 1) := by decide +kernel
theorem dX8_restAt_186 : decode cX8_restAt 186 = .ok (.if_icmp .gt 7, 3) := by decide +kernel
theorem dX8_restAt_189 : decode cX8_restAt 189 = .ok (.iconst 1, 1) := by decide +kernel
theorem dX8_restAt_190 : decode cX8_restAt 190 = .ok (.goto 4, 3) := by decide +kernel
theorem dX8_restAt_193 : decode cX8_restAt 193 = .ok (.iconst 0, 1) := by decide +kernel
theorem dX8_restAt_194 : decode cX8_restAt 194 = .ok (.istore 7, 2) := by decide +kernel
theorem dX8_restAt_196 : decode cX8_restAt 196 = .ok (.iinc 8 1, 3) := by decide +kernel
theorem dX8_restAt_199 : decode cX8_restAt 199 = .ok (.goto (-69), 3) := by decide +kernel
theorem dX8_restAt_202 : decode cX8_restAt 202 = .ok (.iload 7, 2) := by decide +kernel
theorem dX8_restAt_204 : decode cX8_restAt 204 = .ok (.ifCond .ne 6, 3) := by decide +kernel
theorem dX8_restAt_207 : decode cX8_restAt 207 = .ok (.goto 26, 3) := by decide +kernel
theorem dX8_restAt_210 : decode cX8_restAt 210 = .ok (.iload 5, 2) := by decide +kernel
theorem dX8_restAt_212 : decode cX8_restAt 212 = .ok (.iload 4, 2) := by decide +kernel
theorem dX8_restAt_214 : decode cX8_restAt 214 = .ok (.if_icmp .ne 16, 3) := by decide +kernel
theorem dX8_restAt_217 : decode cX8_restAt 217 = .ok (.bipush 10, 2) := by decide +kernel
theorem dX8_restAt_219 : decode cX8_restAt 219 = .ok (.iload 6, 2) := by decide +kernel
theorem dX8_restAt_221 : decode cX8_restAt 221 = .ok (.iconst 4, 1) := by decide +kernel
theorem dX8_restAt_222 : decode cX8_restAt 222 = .ok (.idiv, 1) := by decide +kernel
theorem dX8_restAt_223 : decode cX8_restAt 223 = .ok (.imul, 1) := by decide +kernel
theorem dX8_restAt_224 : decode cX8_restAt 224 = .ok (.iload 6, 2) := by decide +kernel
theorem dX8_restAt_226 : decode cX8_restAt 226 = .ok (.iconst 4, 1) := by decide +kernel
theorem dX8_restAt_227 : decode cX8_restAt 227 = .ok (.irem, 1) := by decide +kernel
theorem dX8_restAt_228 : decode cX8_restAt 228 = .ok (.iadd, 1) := by decide +kernel
theorem dX8_restAt_229 : decode cX8_restAt 229 = .ok (.ireturn, 1) := by decide +kernel
theorem dX8_restAt_230 : decode cX8_restAt 230 = .ok (.iinc 5 1, 3) := by decide +kernel
theorem dX8_restAt_233 : decode cX8_restAt 233 = .ok (.iinc 6 1, 3) := by decide +kernel
theorem dX8_restAt_236 : decode cX8_restAt 236 = .ok (.goto (-119), 3) := by decide +kernel
theorem dX8_restAt_239 : decode cX8_restAt 239 = .ok (.iload 4, 2) := by decide +kernel
theorem dX8_restAt_241 : decode cX8_restAt 241 = .ok (.ifCond .ge 8, 3) := by decide +kernel
theorem dX8_restAt_244 : decode cX8_restAt 244 = .ok (.iload 5, 2) := by decide +kernel
theorem dX8_restAt_246 : decode cX8_restAt 246 = .ok (.goto 5, 3) := by decide +kernel
theorem dX8_restAt_249 : decode cX8_restAt 249 = .ok (.bipush (-2), 2) := by decide +kernel
theorem dX8_restAt_251 : decode cX8_restAt 251 = .ok (.ireturn, 1) := by decide +kernel
def f_X8_best_24 (N : Nat) (p1 : Int32) (r24 : Int32 → Int32 → Int32 → Hp → Option (Int32 × Hp)) (v3 : Int32) (v4 : Int32) (v5 : Int32) (h6 : Hp) : Option (Int32 × Hp) :=
  if 3 ≤ v5 then
    some (v3, h6)
  else
  (f_X8_layRule N h6 v5 p1).bind fun h7 =>
  (f_X8_gains N h7 1).bind fun v8 =>
  jn (fun (v9 : Int32) (v10 : Int32) =>
    lt_ (v5 + 1) fun v11 =>
    r24 v9 v10 v11 h7) fun (j58 : Int32 → Int32 → Option (Int32 × Hp)) =>
  if v4 < v8 then
    (f_X8_gains N h7 1).bind fun v12 =>
    j58 v5 v12
  else
  j58 v3 v4
def f_X8_best (N : Nat) (h : Hp) (p1 : Int32) : Option (Int32 × Hp) :=
  lt_ (sI h 8 0 2 0) fun h1 =>
  (f_X8_isIn p1 0 99).bind fun v2 =>
  if ¬ (b2i v2) = 0 then
    iter (fun _ _ _ _ => none) (f_X8_best_24 N p1) N 0 (-1) 0 h1
  else
  some ((-1), h1)
abbrev rmX8_best : Room := { frames := 11, cells := 0, slots := 0, locals := 265 }
set_option maxRecDepth 100000 in
set_option maxHeartbeats 4000000 in
theorem w_X8_best (X : Cx) (F : Fx X cX8_best RX8 (some .int) rmX8_best) (hA : xA X = Aw (xG X)) (hL : xL X = 5) (N : Nat) (h : Hp) (p1 : Int32) : Wm X (fun v => some (.int v.1)) (fun v => v.2) (fun _ => True) 0 [(0, .ref (adr (xG X) 8 0 0)), (1, .int p1)] [] h (f_X8_best N h p1) := by
  have hS : ∀ i : Nat, i < 5 → i < xL X := fun i z => by rw [hL]; exact z
  unfold f_X8_best
  refine r_aload_n F 0 rfl dX8_best_0 rfl ?_
  refine r_iconst F (v := 0) dX8_best_1 (by decide) ?_
  refine r_putI F frX8_163 (by decide) rfl rfl dX8_best_2 fun h1 => ?_
  refine r_iload_n F 1 rfl dX8_best_5 rfl ?_
  refine r_iconst F (v := 0) dX8_best_6 (by decide) ?_
  refine r_bipush F (v := 99) dX8_best_7 (by decide) ?_
  refine k_zP (run_S F csX8_208 (c_X8_isIn (xG X) _ h1 p1 0 99) rfl rfl ⟨⟨rfl, rfl⟩, Nat.le_of_ble_eq_true rfl, Nat.le_of_ble_eq_true rfl⟩ (Nat.le_of_ble_eq_true rfl) dX8_best_9) fun v2 _ => ?_
  refine r_ifne F (tgt := 17) dX8_best_12 (by decide) ?_ ?_
  · skip
    refine r_iconst F (v := 0) dX8_best_17 (by decide) ?_
    refine r_istore_n F [(2, .int 0), (0, .ref (adr (xG X) 8 0 0)), (1, .int p1)] rfl dX8_best_18 rfl (hS _ (by decide)) ?_
    refine r_iconst F (v := (-1)) dX8_best_19 (by decide) ?_
    refine r_istore_n F [(3, .int (-1)), (2, .int 0), (0, .ref (adr (xG X) 8 0 0)), (1, .int p1)] rfl dX8_best_20 rfl (hS _ (by decide)) ?_
    refine r_iconst F (v := 0) dX8_best_21 (by decide) ?_
    refine r_istore F [(4, .int 0), (3, .int (-1)), (2, .int 0), (0, .ref (adr (xG X) 8 0 0)), (1, .int p1)] rfl dX8_best_22 (hS _ (by decide)) ?_
    have hl24 : ∀ n : Nat, ∀ v3 : Int32, ∀ v4 : Int32, ∀ v5 : Int32, ∀ h6 : Hp, Wm X (fun v => some (.int v.1)) (fun v => v.2) (fun _ => True) 24 [(0, .ref (adr (xG X) 8 0 0)), (1, .int p1), (2, .int v3), (3, .int v4), (4, .int v5)] [] h6 (iter (fun _ _ _ _ => none) (f_X8_best_24 N p1) n v3 v4 v5 h6) := by
      intro n
      induction n with
      | zero => intro v3 v4 v5 h6; exact Wt_none
      | succ n ih =>
        revert ih
        show (∀ v3 : Int32, ∀ v4 : Int32, ∀ v5 : Int32, ∀ h6 : Hp, Wm X (fun v => some (.int v.1)) (fun v => v.2) (fun _ => True) 24 [(0, .ref (adr (xG X) 8 0 0)), (1, .int p1), (2, .int v3), (3, .int v4), (4, .int v5)] [] h6 (iter (fun _ _ _ _ => none) (f_X8_best_24 N p1) n v3 v4 v5 h6)) → _
        intro ih24 v3 v4 v5 h6
        show Wm X (fun v => some (.int v.1)) (fun v => v.2) (fun _ => True) 24 [(0, .ref (adr (xG X) 8 0 0)), (1, .int p1), (2, .int v3), (3, .int v4), (4, .int v5)] [] h6 (f_X8_best_24 N p1 (iter (fun _ _ _ _ => none) (f_X8_best_24 N p1) n) v3 v4 v5 h6)
        revert ih24
        generalize iter (fun _ _ _ _ => none) (f_X8_best_24 N p1) n = r24
        intro ih24
        unfold f_X8_best_24
        refine r_iload F 4 rfl dX8_best_24 ?_
        refine r_iconst F (v := 3) dX8_best_26 (by decide) ?_
        refine r_icmpge F (tgt := 64) dX8_best_27 (by decide) ?_ ?_
        · skip
          refine r_iload_n F 2 rfl dX8_best_64 rfl ?_
          exact r_iret F hA rfl rfl trivial dX8_best_65
        refine r_aload_n F 0 rfl dX8_best_30 rfl ?_
        refine r_iload F 4 rfl dX8_best_31 ?_
        refine r_iload_n F 1 rfl dX8_best_33 rfl ?_
        refine k_vH (run_V F cvX8_491 (by decide) (c_X8_layRule (xG X) _ N h6 v5 p1) rfl rfl ⟨⟨rfl, rfl⟩, Nat.le_of_ble_eq_true rfl, Nat.le_of_ble_eq_true rfl⟩ (Nat.le_of_ble_eq_true rfl) dX8_best_34) fun h7 => ?_
        refine r_aload_n F 0 rfl dX8_best_37 rfl ?_
        refine r_iconst F (v := 1) dX8_best_38 (by decide) ?_
        refine k_iP (run_V F cvX8_497 (by decide) (c_X8_gains (xG X) _ N h7 1) rfl rfl ⟨⟨rfl, rfl⟩, Nat.le_of_ble_eq_true rfl, Nat.le_of_ble_eq_true rfl⟩ (Nat.le_of_ble_eq_true rfl) dX8_best_39) fun v8 _ => ?_
        refine r_iload_n F 3 rfl dX8_best_42 rfl ?_
        refine Wt_jn (fun (j58 : Int32 → Int32 → Option (Int32 × Hp)) => ∀ v9 : Int32, ∀ v10 : Int32, Wm X (fun v => some (.int v.1)) (fun v => v.2) (fun _ => True) 58 [(0, .ref (adr (xG X) 8 0 0)), (1, .int p1), (2, .int v9), (3, .int v10), (4, .int v5)] [] h7 (j58 v9 v10)) ?_ fun j58 hj58 => ?_
        · intro v9 v10
          refine r_iinc F (v := 1) 4 rfl (by decide) (fun v11 => [(4, .int v11), (0, .ref (adr (xG X) 8 0 0)), (1, .int p1), (2, .int v9), (3, .int v10)]) (fun _ => rfl) dX8_best_58 (hS _ (by decide)) fun v11 => ?_
          refine r_goto F (tgt := 24) dX8_best_61 (by decide) ?_
          exact Wt_pick [1, 2, 3, 4, 0] rfl (ih24 v9 v10 v11 h7)
        refine r_icmpgt F (tgt := 49) dX8_best_43 (by decide) ?_ ?_
        · skip
          refine r_iload F 4 rfl dX8_best_49 ?_
          refine r_istore_n F [(2, .int v5), (0, .ref (adr (xG X) 8 0 0)), (1, .int p1), (3, .int v4), (4, .int v5)] rfl dX8_best_51 rfl (hS _ (by decide)) ?_
          refine r_aload_n F 1 rfl dX8_best_52 rfl ?_
          refine r_iconst F (v := 1) dX8_best_53 (by decide) ?_
          refine k_iP (run_V F cvX8_497 (by decide) (c_X8_gains (xG X) _ N h7 1) rfl rfl ⟨⟨rfl, rfl⟩, Nat.le_of_ble_eq_true rfl, Nat.le_of_ble_eq_true rfl⟩ (Nat.le_of_ble_eq_true rfl) dX8_best_54) fun v12 _ => ?_
          refine r_istore_n F [(3, .int v12), (2, .int v5), (0, .ref (adr (xG X) 8 0 0)), (1, .int p1), (4, .int v5)] rfl dX8_best_57 rfl (hS _ (by decide)) ?_
          exact Wt_pick [2, 3, 1, 0, 4] rfl (hj58 v5 v12)
        refine r_goto F (tgt := 58) dX8_best_46 (by decide) ?_
        exact Wt_pick [0, 1, 2, 3, 4] rfl (hj58 v3 v4)
    exact Wt_pick [3, 4, 2, 1, 0] rfl (hl24 N 0 (-1) 0 h1)
  refine r_iconst F (v := (-1)) dX8_best_15 (by decide) ?_
  exact r_iret F hA rfl rfl trivial dX8_best_16
theorem c_X8_best (G : Gx) (l : Launch) (N : Nat) (h : Hp) (p1 : Int32) : Ctr G l yX8_best (.code yX8_best cX8_best 5 (some .int) :: GT) rmX8_best [.ref (adr G 8 0 0), .int p1] h (f_X8_best N h p1) (fun v => some (.int v.1)) (fun v => v.2) (fun _ => True) :=
  ctr_of (by decide) (Nat.le_of_ble_eq_true rfl) ⟨rfl, rfl⟩ fun X _ e2 hA hL F => by subst e2; exact w_X8_best X F hA hL N h p1
def f_X8_powerOf_4 (p0 : Int32) (p1 : Int32) (r4 : Int32 → Int32 → Option Int32) (v1 : Int32) (v2 : Int32) : Option Int32 :=
  if p1 ≤ v2 then
    some v1
  else
  lt_ ((v1 * p0)) fun v3 =>
  lt_ (v2 + 1) fun v4 =>
  r4 v3 v4
def f_X8_powerOf (N : Nat) (p0 : Int32) (p1 : Int32) : Option Int32 :=
  iter (fun _ _ => none) (f_X8_powerOf_4 p0 p1) N 1 0
abbrev rmX8_powerOf : Room := { frames := 0, cells := 0, slots := 0, locals := 0 }
set_option maxRecDepth 100000 in
set_option maxHeartbeats 4000000 in
theorem w_X8_powerOf (X : Cx) (F : Fx X cX8_powerOf RX8 (some .int) rmX8_powerOf) (hA : xA X = Aw (xG X)) (hL : xL X = 4) (h : Hp) (N : Nat) (p0 : Int32) (p1 : Int32) : Wm X (fun v => some (.int v)) (fun _ => h) (fun _ => True) 0 [(0, .int p0), (1, .int p1)] [] h (f_X8_powerOf N p0 p1) := by
  have hS : ∀ i : Nat, i < 4 → i < xL X := fun i z => by rw [hL]; exact z
  unfold f_X8_powerOf
  refine r_iconst F (v := 1) dX8_powerOf_0 (by decide) ?_
  refine r_istore_n F [(2, .int 1), (0, .int p0), (1, .int p1)] rfl dX8_powerOf_1 rfl (hS _ (by decide)) ?_
  refine r_iconst F (v := 0) dX8_powerOf_2 (by decide) ?_
  refine r_istore_n F [(3, .int 0), (2, .int 1), (0, .int p0), (1, .int p1)] rfl dX8_powerOf_3 rfl (hS _ (by decide)) ?_
  have hl4 : ∀ n : Nat, ∀ v1 : Int32, ∀ v2 : Int32, Wm X (fun v => some (.int v)) (fun _ => h) (fun _ => True) 4 [(0, .int p0), (1, .int p1), (2, .int v1), (3, .int v2)] [] h (iter (fun _ _ => none) (f_X8_powerOf_4 p0 p1) n v1 v2) := by
    intro n
    induction n with
    | zero => intro v1 v2; exact Wt_none
    | succ n ih =>
      revert ih
      show (∀ v1 : Int32, ∀ v2 : Int32, Wm X (fun v => some (.int v)) (fun _ => h) (fun _ => True) 4 [(0, .int p0), (1, .int p1), (2, .int v1), (3, .int v2)] [] h (iter (fun _ _ => none) (f_X8_powerOf_4 p0 p1) n v1 v2)) → _
      intro ih4 v1 v2
      show Wm X (fun v => some (.int v)) (fun _ => h) (fun _ => True) 4 [(0, .int p0), (1, .int p1), (2, .int v1), (3, .int v2)] [] h (f_X8_powerOf_4 p0 p1 (iter (fun _ _ => none) (f_X8_powerOf_4 p0 p1) n) v1 v2)
      revert ih4
      generalize iter (fun _ _ => none) (f_X8_powerOf_4 p0 p1) n = r4
      intro ih4
      unfold f_X8_powerOf_4
      refine r_iload_n F 3 rfl dX8_powerOf_4 rfl ?_
      refine r_iload_n F 1 rfl dX8_powerOf_5 rfl ?_
      refine r_icmpge F (tgt := 19) dX8_powerOf_6 (by decide) ?_ ?_
      · skip
        refine r_iload_n F 2 rfl dX8_powerOf_19 rfl ?_
        exact r_iret F hA rfl rfl trivial dX8_powerOf_20
      refine r_iload_n F 2 rfl dX8_powerOf_9 rfl ?_
      refine r_iload_n F 0 rfl dX8_powerOf_10 rfl ?_
      refine r_imul F dX8_powerOf_11 ?_
      refine r_nmI fun v3 => ?_
      refine r_istore_n F [(2, .int v3), (0, .int p0), (1, .int p1), (3, .int v2)] rfl dX8_powerOf_12 rfl (hS _ (by decide)) ?_
      refine r_iinc F (v := 1) 3 rfl (by decide) (fun v4 => [(3, .int v4), (2, .int v3), (0, .int p0), (1, .int p1)]) (fun _ => rfl) dX8_powerOf_13 (hS _ (by decide)) fun v4 => ?_
      refine r_goto F (tgt := 4) dX8_powerOf_16 (by decide) ?_
      exact Wt_pick [2, 3, 1, 0] rfl (ih4 v3 v4)
  exact Wt_pick [2, 3, 1, 0] rfl (hl4 N 1 0)
theorem c_X8_powerOf (G : Gx) (l : Launch) (h : Hp) (N : Nat) (p0 : Int32) (p1 : Int32) : Ctr G l yX8_powerOf (.code yX8_powerOf cX8_powerOf 4 (some .int) :: GT) rmX8_powerOf [.int p0, .int p1] h (f_X8_powerOf N p0 p1) (fun v => some (.int v)) (fun _ => h) (fun _ => True) :=
  ctr_of (by decide) (Nat.le_of_ble_eq_true rfl) ⟨rfl, rfl⟩ fun X _ e2 hA hL F => by subst e2; exact w_X8_powerOf X F hA hL h N p0 p1
def f_X8_digitOf (N : Nat) (p0 : Int32) (p1 : Int32) (p2 : Int32) (p3 : Int32) : Option Int32 :=
  (f_X8_powerOf N p1 ((p2 - 1) - p3)).bind fun v1 =>
  grd (¬ v1 = 0) <|
  grd (¬ p1 = 0) <|
  some ((p0 / v1) - (p0 / v1) / p1 * p1)
abbrev rmX8_digitOf : Room := { frames := 1, cells := 0, slots := 0, locals := 23 }
set_option maxRecDepth 100000 in
set_option maxHeartbeats 4000000 in
theorem w_X8_digitOf (X : Cx) (F : Fx X cX8_digitOf RX8 (some .int) rmX8_digitOf) (hA : xA X = Aw (xG X)) (hL : xL X = 4) (h : Hp) (N : Nat) (p0 : Int32) (p1 : Int32) (p2 : Int32) (p3 : Int32) : Wm X (fun v => some (.int v)) (fun _ => h) (fun _ => True) 0 [(0, .int p0), (1, .int p1), (2, .int p2), (3, .int p3)] [] h (f_X8_digitOf N p0 p1 p2 p3) := by
  have hS : ∀ i : Nat, i < 4 → i < xL X := fun i z => by rw [hL]; exact z
  unfold f_X8_digitOf
  refine r_iload_n F 0 rfl dX8_digitOf_0 rfl ?_
  refine r_iload_n F 1 rfl dX8_digitOf_1 rfl ?_
  refine r_iload_n F 2 rfl dX8_digitOf_2 rfl ?_
  refine r_iconst F (v := 1) dX8_digitOf_3 (by decide) ?_
  refine r_isub F dX8_digitOf_4 ?_
  refine r_iload_n F 3 rfl dX8_digitOf_5 rfl ?_
  refine r_isub F dX8_digitOf_6 ?_
  refine k_iP (run_S F csX8_500 (c_X8_powerOf (xG X) _ h N p1 ((p2 - 1) - p3)) rfl rfl ⟨⟨rfl, rfl⟩, Nat.le_of_ble_eq_true rfl, Nat.le_of_ble_eq_true rfl⟩ (Nat.le_of_ble_eq_true rfl) dX8_digitOf_7) fun v1 _ => ?_
  refine r_idiv F dX8_digitOf_10 ?_
  refine r_iload_n F 1 rfl dX8_digitOf_11 rfl ?_
  refine r_irem F dX8_digitOf_12 ?_
  exact r_iret F hA rfl rfl trivial dX8_digitOf_13
theorem c_X8_digitOf (G : Gx) (l : Launch) (h : Hp) (N : Nat) (p0 : Int32) (p1 : Int32) (p2 : Int32) (p3 : Int32) : Ctr G l yX8_digitOf (.code yX8_digitOf cX8_digitOf 4 (some .int) :: GT) rmX8_digitOf [.int p0, .int p1, .int p2, .int p3] h (f_X8_digitOf N p0 p1 p2 p3) (fun v => some (.int v)) (fun _ => h) (fun _ => True) :=
  ctr_of (by decide) (Nat.le_of_ble_eq_true rfl) ⟨rfl, rfl⟩ fun X _ e2 hA hL F => by subst e2; exact w_X8_digitOf X F hA hL h N p0 p1 p2 p3
def f_X8_layPlan_100 (N : Nat) (p2 : Int32) (v2 : Int32) (j129 : Hp → Option Hp) (r100 : Int32 → Hp → Option Hp) (v12 : Int32) (h13 : Hp) : Option Hp :=
  if p2 ≤ v12 then
    j129 h13
  else
  (f_X8_digitOf N v2 3 p2 v12).bind fun v14 =>
  grd (inb v12 6) <| lt_ (sA h13 8 0 34 v12.toNatClampNeg (1 + v14)) fun h15 =>
  lt_ (v12 + 1) fun v16 =>
  r100 v16 h15
def f_X8_layPlan_23 (N : Nat) (p1 : Int32) (p2 : Int32) (r7 : Int32 → Hp → Option Hp) (v2 : Int32) (r23 : Int32 → Hp → Option Hp) (v6 : Int32) (h7 : Hp) : Option Hp :=
  if p2 ≤ v6 then
    grd (inb (4 + p1) 8) <|
    grd (inb p1 8) <|
    lt_ (((gA h7 8 0 28 (4 + p1).toNatClampNeg) - (gA h7 8 0 28 p1.toNatClampNeg))) fun v8 =>
    jn (fun (h9 : Hp) =>
      lt_ (v2 + 1) fun v10 =>
      r7 v10 h9) fun (j129 : Hp → Option Hp) =>
    if (gI h7 8 0 68) < v8 then
      lt_ (sI h7 8 0 68 v8) fun h11 =>
      iter (fun _ _ => none) (f_X8_layPlan_100 N p2 v2 j129) N 0 h11
    else
    j129 h7
  else
  (f_X8_digitOf N v2 3 p2 v6).bind fun v17 =>
  grd (inb (4 + p1) 8) <| lt_ (sA h7 8 0 27 (4 + p1).toNatClampNeg (1 + v17)) fun h18 =>
  (f_X8_goOn N h18 1 (gI h18 8 0 61)).bind fun h19 =>
  lt_ (v6 + 1) fun v20 =>
  r23 v20 h19
def f_X8_layPlan_7 (N : Nat) (p1 : Int32) (p2 : Int32) (r7 : Int32 → Hp → Option Hp) (v2 : Int32) (h3 : Hp) : Option Hp :=
  (f_X8_powerOf N 3 p2).bind fun v4 =>
  if v4 ≤ v2 then
    some h3
  else
  (f_X8_layTried N h3).bind fun h5 =>
  iter (fun _ _ => none) (f_X8_layPlan_23 N p1 p2 r7 v2) N 0 h5
def f_X8_layPlan (N : Nat) (h : Hp) (p1 : Int32) (p2 : Int32) : Option Hp :=
  lt_ (sI h 8 0 68 (-1)) fun h1 =>
  iter (fun _ _ => none) (f_X8_layPlan_7 N p1 p2) N 0 h1
abbrev rmX8_layPlan : Room := { frames := 9, cells := 0, slots := 0, locals := 219 }
set_option maxRecDepth 100000 in
set_option maxHeartbeats 4000000 in
theorem w_X8_layPlan (X : Cx) (F : Fx X cX8_layPlan RX8 none rmX8_layPlan) (hA : xA X = Aw (xG X)) (hL : xL X = 6) (N : Nat) (h : Hp) (p1 : Int32) (p2 : Int32) : Wm X (fun _ => none) (fun v => v) (fun _ => True) 0 [(0, .ref (adr (xG X) 8 0 0)), (1, .int p1), (2, .int p2)] [] h (f_X8_layPlan N h p1 p2) := by
  have hS : ∀ i : Nat, i < 6 → i < xL X := fun i z => by rw [hL]; exact z
  unfold f_X8_layPlan
  refine r_aload_n F 0 rfl dX8_layPlan_0 rfl ?_
  refine r_iconst F (v := (-1)) dX8_layPlan_1 (by decide) ?_
  refine r_putI F frX8_503 (by decide) rfl rfl dX8_layPlan_2 fun h1 => ?_
  refine r_iconst F (v := 0) dX8_layPlan_5 (by decide) ?_
  refine r_istore_n F [(3, .int 0), (0, .ref (adr (xG X) 8 0 0)), (1, .int p1), (2, .int p2)] rfl dX8_layPlan_6 rfl (hS _ (by decide)) ?_
  have hl7 : ∀ n : Nat, ∀ v2 : Int32, ∀ h3 : Hp, Wm X (fun _ => none) (fun v => v) (fun _ => True) 7 [(0, .ref (adr (xG X) 8 0 0)), (1, .int p1), (2, .int p2), (3, .int v2)] [] h3 (iter (fun _ _ => none) (f_X8_layPlan_7 N p1 p2) n v2 h3) := by
    intro n
    induction n with
    | zero => intro v2 h3; exact Wt_none
    | succ n ih =>
      revert ih
      show (∀ v2 : Int32, ∀ h3 : Hp, Wm X (fun _ => none) (fun v => v) (fun _ => True) 7 [(0, .ref (adr (xG X) 8 0 0)), (1, .int p1), (2, .int p2), (3, .int v2)] [] h3 (iter (fun _ _ => none) (f_X8_layPlan_7 N p1 p2) n v2 h3)) → _
      intro ih7 v2 h3
      show Wm X (fun _ => none) (fun v => v) (fun _ => True) 7 [(0, .ref (adr (xG X) 8 0 0)), (1, .int p1), (2, .int p2), (3, .int v2)] [] h3 (f_X8_layPlan_7 N p1 p2 (iter (fun _ _ => none) (f_X8_layPlan_7 N p1 p2) n) v2 h3)
      revert ih7
      generalize iter (fun _ _ => none) (f_X8_layPlan_7 N p1 p2) n = r7
      intro ih7
      unfold f_X8_layPlan_7
      refine r_iload_n F 3 rfl dX8_layPlan_7 rfl ?_
      refine r_iconst F (v := 3) dX8_layPlan_8 (by decide) ?_
      refine r_iload_n F 2 rfl dX8_layPlan_9 rfl ?_
      refine k_iP (run_S F csX8_500 (c_X8_powerOf (xG X) _ h3 N 3 p2) rfl rfl ⟨⟨rfl, rfl⟩, Nat.le_of_ble_eq_true rfl, Nat.le_of_ble_eq_true rfl⟩ (Nat.le_of_ble_eq_true rfl) dX8_layPlan_10) fun v4 _ => ?_
      refine r_icmpge F (tgt := 135) dX8_layPlan_13 (by decide) ?_ ?_
      · skip
        exact r_vret F hA rfl rfl trivial dX8_layPlan_135
      refine r_aload_n F 0 rfl dX8_layPlan_16 rfl ?_
      refine k_vH (run_V F cvX8_485 (by decide) (c_X8_layTried (xG X) _ N h3) rfl rfl ⟨⟨rfl, rfl⟩, Nat.le_of_ble_eq_true rfl, Nat.le_of_ble_eq_true rfl⟩ (Nat.le_of_ble_eq_true rfl) dX8_layPlan_17) fun h5 => ?_
      refine r_iconst F (v := 0) dX8_layPlan_20 (by decide) ?_
      refine r_istore F [(4, .int 0), (0, .ref (adr (xG X) 8 0 0)), (1, .int p1), (2, .int p2), (3, .int v2)] rfl dX8_layPlan_21 (hS _ (by decide)) ?_
      have hl23 : ∀ n : Nat, ∀ v6 : Int32, ∀ h7 : Hp, Wm X (fun _ => none) (fun v => v) (fun _ => True) 23 [(0, .ref (adr (xG X) 8 0 0)), (1, .int p1), (2, .int p2), (3, .int v2), (4, .int v6)] [] h7 (iter (fun _ _ => none) (f_X8_layPlan_23 N p1 p2 r7 v2) n v6 h7) := by
        intro n
        induction n with
        | zero => intro v6 h7; exact Wt_none
        | succ n ih =>
          revert ih
          show (∀ v6 : Int32, ∀ h7 : Hp, Wm X (fun _ => none) (fun v => v) (fun _ => True) 23 [(0, .ref (adr (xG X) 8 0 0)), (1, .int p1), (2, .int p2), (3, .int v2), (4, .int v6)] [] h7 (iter (fun _ _ => none) (f_X8_layPlan_23 N p1 p2 r7 v2) n v6 h7)) → _
          intro ih23 v6 h7
          show Wm X (fun _ => none) (fun v => v) (fun _ => True) 23 [(0, .ref (adr (xG X) 8 0 0)), (1, .int p1), (2, .int p2), (3, .int v2), (4, .int v6)] [] h7 (f_X8_layPlan_23 N p1 p2 r7 v2 (iter (fun _ _ => none) (f_X8_layPlan_23 N p1 p2 r7 v2) n) v6 h7)
          revert ih23
          generalize iter (fun _ _ => none) (f_X8_layPlan_23 N p1 p2 r7 v2) n = r23
          intro ih23
          unfold f_X8_layPlan_23
          refine r_iload F 4 rfl dX8_layPlan_23 ?_
          refine r_iload_n F 2 rfl dX8_layPlan_25 rfl ?_
          refine r_icmpge F (tgt := 62) dX8_layPlan_26 (by decide) ?_ ?_
          · skip
            refine r_aload_n F 0 rfl dX8_layPlan_62 rfl ?_
            refine r_getA F frX8_100 (by decide) dX8_layPlan_63 ?_
            refine r_iconst F (v := 4) dX8_layPlan_66 (by decide) ?_
            refine r_iload_n F 1 rfl dX8_layPlan_67 rfl ?_
            refine r_iadd F dX8_layPlan_68 ?_
            refine r_iaload F (ar_8_28 0 (by decide)) dX8_layPlan_69 ?_
            refine r_aload_n F 0 rfl dX8_layPlan_70 rfl ?_
            refine r_getA F frX8_100 (by decide) dX8_layPlan_71 ?_
            refine r_iload_n F 1 rfl dX8_layPlan_74 rfl ?_
            refine r_iaload F (ar_8_28 0 (by decide)) dX8_layPlan_75 ?_
            refine r_isub F dX8_layPlan_76 ?_
            refine r_nmI fun v8 => ?_
            refine r_istore F [(4, .int v8), (0, .ref (adr (xG X) 8 0 0)), (1, .int p1), (2, .int p2), (3, .int v2)] rfl dX8_layPlan_77 (hS _ (by decide)) ?_
            refine r_iload F 0 rfl dX8_layPlan_79 ?_
            refine r_aload_n F 1 rfl dX8_layPlan_81 rfl ?_
            refine r_getI F frX8_503 (by decide) dX8_layPlan_82 ?_
            refine Wt_jn (fun (j129 : Hp → Option Hp) => ∀ h9 : Hp, Wm X (fun _ => none) (fun v => v) (fun _ => True) 129 [(0, .ref (adr (xG X) 8 0 0)), (1, .int p1), (2, .int p2), (3, .int v2)] [] h9 (j129 h9)) ?_ fun j129 hj129 => ?_
            · intro h9
              refine r_iinc F (v := 1) 3 rfl (by decide) (fun v10 => [(3, .int v10), (0, .ref (adr (xG X) 8 0 0)), (1, .int p1), (2, .int p2)]) (fun _ => rfl) dX8_layPlan_129 (hS _ (by decide)) fun v10 => ?_
              refine r_goto F (tgt := 7) dX8_layPlan_132 (by decide) ?_
              exact Wt_pick [1, 2, 3, 0] rfl (ih7 v10 h9)
            refine r_icmpgt F (tgt := 91) dX8_layPlan_85 (by decide) ?_ ?_
            · skip
              refine r_aload_n F 1 rfl dX8_layPlan_91 rfl ?_
              refine r_iload F 0 rfl dX8_layPlan_92 ?_
              refine r_putI F frX8_503 (by decide) rfl rfl dX8_layPlan_94 fun h11 => ?_
              refine r_iconst F (v := 0) dX8_layPlan_97 (by decide) ?_
              refine r_istore F [(5, .int 0), (4, .int v8), (0, .ref (adr (xG X) 8 0 0)), (1, .int p1), (2, .int p2), (3, .int v2)] rfl dX8_layPlan_98 (hS _ (by decide)) ?_
              have hl100 : ∀ n : Nat, ∀ v12 : Int32, ∀ h13 : Hp, Wm X (fun _ => none) (fun v => v) (fun _ => True) 100 [(0, .ref (adr (xG X) 8 0 0)), (1, .int p1), (2, .int p2), (3, .int v2), (5, .int v12)] [] h13 (iter (fun _ _ => none) (f_X8_layPlan_100 N p2 v2 j129) n v12 h13) := by
                intro n
                induction n with
                | zero => intro v12 h13; exact Wt_none
                | succ n ih =>
                  revert ih
                  show (∀ v12 : Int32, ∀ h13 : Hp, Wm X (fun _ => none) (fun v => v) (fun _ => True) 100 [(0, .ref (adr (xG X) 8 0 0)), (1, .int p1), (2, .int p2), (3, .int v2), (5, .int v12)] [] h13 (iter (fun _ _ => none) (f_X8_layPlan_100 N p2 v2 j129) n v12 h13)) → _
                  intro ih100 v12 h13
                  show Wm X (fun _ => none) (fun v => v) (fun _ => True) 100 [(0, .ref (adr (xG X) 8 0 0)), (1, .int p1), (2, .int p2), (3, .int v2), (5, .int v12)] [] h13 (f_X8_layPlan_100 N p2 v2 j129 (iter (fun _ _ => none) (f_X8_layPlan_100 N p2 v2 j129) n) v12 h13)
                  revert ih100
                  generalize iter (fun _ _ => none) (f_X8_layPlan_100 N p2 v2 j129) n = r100
                  intro ih100
                  unfold f_X8_layPlan_100
                  refine r_iload F 4 rfl dX8_layPlan_100 ?_
                  refine r_iload_n F 2 rfl dX8_layPlan_102 rfl ?_
                  refine r_icmpge F (tgt := 129) dX8_layPlan_103 (by decide) ?_ ?_
                  · skip
                    exact Wt_pick [0, 1, 2, 3] rfl (hj129 h13)
                  refine r_aload_n F 0 rfl dX8_layPlan_106 rfl ?_
                  refine r_getA F frX8_121 (by decide) dX8_layPlan_107 ?_
                  refine r_iload F 4 rfl dX8_layPlan_110 ?_
                  refine r_iconst F (v := 1) dX8_layPlan_112 (by decide) ?_
                  refine r_iload_n F 3 rfl dX8_layPlan_113 rfl ?_
                  refine r_iconst F (v := 3) dX8_layPlan_114 (by decide) ?_
                  refine r_iload_n F 2 rfl dX8_layPlan_115 rfl ?_
                  refine r_iload F 4 rfl dX8_layPlan_116 ?_
                  refine k_iP (run_S F csX8_506 (c_X8_digitOf (xG X) _ h13 N v2 3 p2 v12) rfl rfl ⟨⟨rfl, rfl⟩, Nat.le_of_ble_eq_true rfl, Nat.le_of_ble_eq_true rfl⟩ (Nat.le_of_ble_eq_true rfl) dX8_layPlan_118) fun v14 _ => ?_
                  refine r_iadd F dX8_layPlan_121 ?_
                  refine r_iastore F (ar_8_34 0 (by decide)) dX8_layPlan_122 fun h15 => ?_
                  refine r_iinc F (v := 1) 4 rfl (by decide) (fun v16 => [(5, .int v16), (0, .ref (adr (xG X) 8 0 0)), (1, .int p1), (2, .int p2), (3, .int v2)]) (fun _ => rfl) dX8_layPlan_123 (hS _ (by decide)) fun v16 => ?_
                  refine r_goto F (tgt := 100) dX8_layPlan_126 (by decide) ?_
                  exact Wt_pick [1, 2, 3, 4, 0] rfl (ih100 v16 h15)
              exact Wt_pick [2, 3, 4, 5, 0] rfl (hl100 N 0 h11)
            refine r_goto F (tgt := 129) dX8_layPlan_88 (by decide) ?_
            exact Wt_pick [1, 2, 3, 4] rfl (hj129 h7)
          refine r_aload_n F 0 rfl dX8_layPlan_29 rfl ?_
          refine r_getA F frX8_97 (by decide) dX8_layPlan_30 ?_
          refine r_iconst F (v := 4) dX8_layPlan_33 (by decide) ?_
          refine r_iload_n F 1 rfl dX8_layPlan_34 rfl ?_
          refine r_iadd F dX8_layPlan_35 ?_
          refine r_iconst F (v := 1) dX8_layPlan_36 (by decide) ?_
          refine r_iload_n F 3 rfl dX8_layPlan_37 rfl ?_
          refine r_iconst F (v := 3) dX8_layPlan_38 (by decide) ?_
          refine r_iload_n F 2 rfl dX8_layPlan_39 rfl ?_
          refine r_iload F 4 rfl dX8_layPlan_40 ?_
          refine k_iP (run_S F csX8_506 (c_X8_digitOf (xG X) _ h7 N v2 3 p2 v6) rfl rfl ⟨⟨rfl, rfl⟩, Nat.le_of_ble_eq_true rfl, Nat.le_of_ble_eq_true rfl⟩ (Nat.le_of_ble_eq_true rfl) dX8_layPlan_42) fun v17 _ => ?_
          refine r_iadd F dX8_layPlan_45 ?_
          refine r_iastore F (ar_8_27 0 (by decide)) dX8_layPlan_46 fun h18 => ?_
          refine r_aload_n F 0 rfl dX8_layPlan_47 rfl ?_
          refine r_iconst F (v := 1) dX8_layPlan_48 (by decide) ?_
          refine r_aload_n F 0 rfl dX8_layPlan_49 rfl ?_
          refine r_getI F frX8_363 (by decide) dX8_layPlan_50 ?_
          refine k_vH (run_V F cvX8_482 (by decide) (c_X8_goOn (xG X) _ N h18 1 (gI h18 8 0 61)) rfl rfl ⟨⟨rfl, rfl⟩, Nat.le_of_ble_eq_true rfl, Nat.le_of_ble_eq_true rfl⟩ (Nat.le_of_ble_eq_true rfl) dX8_layPlan_53) fun h19 => ?_
          refine r_iinc F (v := 1) 4 rfl (by decide) (fun v20 => [(4, .int v20), (0, .ref (adr (xG X) 8 0 0)), (1, .int p1), (2, .int p2), (3, .int v2)]) (fun _ => rfl) dX8_layPlan_56 (hS _ (by decide)) fun v20 => ?_
          refine r_goto F (tgt := 23) dX8_layPlan_59 (by decide) ?_
          exact Wt_pick [1, 2, 3, 4, 0] rfl (ih23 v20 h19)
      exact Wt_pick [1, 2, 3, 4, 0] rfl (hl23 N 0 h5)
  exact Wt_pick [1, 2, 3, 0] rfl (hl7 N 0 h1)
theorem c_X8_layPlan (G : Gx) (l : Launch) (N : Nat) (h : Hp) (p1 : Int32) (p2 : Int32) : Ctr G l yX8_layPlan (.code yX8_layPlan cX8_layPlan 6 none :: GT) rmX8_layPlan [.ref (adr G 8 0 0), .int p1, .int p2] h (f_X8_layPlan N h p1 p2) (fun _ => none) (fun v => v) (fun _ => True) :=
  ctr_of (by decide) (Nat.le_of_ble_eq_true rfl) ⟨rfl, rfl⟩ fun X _ e2 hA hL F => by subst e2; exact w_X8_layPlan X F hA hL N h p1 p2
def f_X8_plan (N : Nat) (h : Hp) (p1 : Int32) (p2 : Int32) : Option (Int32 × Hp) :=
  lt_ (sI h 8 0 2 0) fun h1 =>
  (f_X8_isCroft h1 p1).bind fun v2 =>
  jn (
    some ((-1), h1)) fun (j23 : Option (Int32 × Hp)) =>
  if (b2i v2) = 0 then
    j23
  else
  (f_X8_isIn p2 1 6).bind fun v3 =>
  if ¬ (b2i v3) = 0 then
    (f_X8_layPlan N h1 p1 p2).bind fun h4 =>
    some ((gI h4 8 0 68), h4)
  else
  j23
abbrev rmX8_plan : Room := { frames := 10, cells := 0, slots := 0, locals := 244 }
set_option maxRecDepth 100000 in
set_option maxHeartbeats 4000000 in
theorem w_X8_plan (X : Cx) (F : Fx X cX8_plan RX8 (some .int) rmX8_plan) (hA : xA X = Aw (xG X)) (hL : xL X = 3) (N : Nat) (h : Hp) (p1 : Int32) (p2 : Int32) : Wm X (fun v => some (.int v.1)) (fun v => v.2) (fun _ => True) 0 [(0, .ref (adr (xG X) 8 0 0)), (1, .int p1), (2, .int p2)] [] h (f_X8_plan N h p1 p2) := by
  have hS : ∀ i : Nat, i < 3 → i < xL X := fun i z => by rw [hL]; exact z
  unfold f_X8_plan
  refine r_aload_n F 0 rfl dX8_plan_0 rfl ?_
  refine r_iconst F (v := 0) dX8_plan_1 (by decide) ?_
  refine r_putI F frX8_163 (by decide) rfl rfl dX8_plan_2 fun h1 => ?_
  refine r_aload_n F 0 rfl dX8_plan_5 rfl ?_
  refine r_iload_n F 1 rfl dX8_plan_6 rfl ?_
  refine k_zP (run_V F cvX8_462 (by decide) (c_X8_isCroft (xG X) _ h1 p1) rfl rfl ⟨⟨rfl, rfl⟩, Nat.le_of_ble_eq_true rfl, Nat.le_of_ble_eq_true rfl⟩ (Nat.le_of_ble_eq_true rfl) dX8_plan_7) fun v2 _ => ?_
  refine Wt_jn (fun (j23 : Option (Int32 × Hp)) => Wm X (fun v => some (.int v.1)) (fun v => v.2) (fun _ => True) 23 [] [] h1 (j23)) ?_ fun j23 hj23 => ?_
  · skip
    refine r_iconst F (v := (-1)) dX8_plan_23 (by decide) ?_
    exact r_iret F hA rfl rfl trivial dX8_plan_24
  refine r_ifeq F (tgt := 23) dX8_plan_10 (by decide) ?_ ?_
  · skip
    exact Wt_pick [] rfl (hj23)
  refine r_iload_n F 2 rfl dX8_plan_13 rfl ?_
  refine r_iconst F (v := 1) dX8_plan_14 (by decide) ?_
  refine r_bipush F (v := 6) dX8_plan_15 (by decide) ?_
  refine k_zP (run_S F csX8_208 (c_X8_isIn (xG X) _ h1 p2 1 6) rfl rfl ⟨⟨rfl, rfl⟩, Nat.le_of_ble_eq_true rfl, Nat.le_of_ble_eq_true rfl⟩ (Nat.le_of_ble_eq_true rfl) dX8_plan_17) fun v3 _ => ?_
  refine r_ifne F (tgt := 25) dX8_plan_20 (by decide) ?_ ?_
  · skip
    refine r_aload_n F 0 rfl dX8_plan_25 rfl ?_
    refine r_iload_n F 1 rfl dX8_plan_26 rfl ?_
    refine r_iload_n F 2 rfl dX8_plan_27 rfl ?_
    refine k_vH (run_V F cvX8_510 (by decide) (c_X8_layPlan (xG X) _ N h1 p1 p2) rfl rfl ⟨⟨rfl, rfl⟩, Nat.le_of_ble_eq_true rfl, Nat.le_of_ble_eq_true rfl⟩ (Nat.le_of_ble_eq_true rfl) dX8_plan_28) fun h4 => ?_
    refine r_aload_n F 0 rfl dX8_plan_31 rfl ?_
    refine r_getI F frX8_503 (by decide) dX8_plan_32 ?_
    exact r_iret F hA rfl rfl trivial dX8_plan_35
  exact Wt_pick [] rfl (hj23)
theorem c_X8_plan (G : Gx) (l : Launch) (N : Nat) (h : Hp) (p1 : Int32) (p2 : Int32) : Ctr G l yX8_plan (.code yX8_plan cX8_plan 3 (some .int) :: GT) rmX8_plan [.ref (adr G 8 0 0), .int p1, .int p2] h (f_X8_plan N h p1 p2) (fun v => some (.int v.1)) (fun v => v.2) (fun _ => True) :=
  ctr_of (by decide) (Nat.le_of_ble_eq_true rfl) ⟨rfl, rfl⟩ fun X _ e2 hA hL F => by subst e2; exact w_X8_plan X F hA hL N h p1 p2
def f_X8_planned (N : Nat) (h : Hp) (p1 : Int32) (p2 : Int32) (p3 : Int32) : Option (Int32 × Hp) :=
  lt_ (sI h 8 0 2 0) fun h1 =>
  (f_X8_isCroft h1 p1).bind fun v2 =>
  jn (
    some ((-1), h1)) fun (j27 : Option (Int32 × Hp)) =>
  if (b2i v2) = 0 then
    j27
  else
  (f_X8_isIn p2 1 6).bind fun v3 =>
  if (b2i v3) = 0 then
    j27
  else
  if 0 ≤ p3 then
    if p3 < p2 then
      (f_X8_layPlan N h1 p1 p2).bind fun h4 =>
      grd (inb p3 6) <|
      some ((gA h4 8 0 34 p3.toNatClampNeg), h4)
    else
    some ((-2), h1)
  else
  j27
abbrev rmX8_planned : Room := { frames := 10, cells := 0, slots := 0, locals := 244 }
set_option maxRecDepth 100000 in
set_option maxHeartbeats 4000000 in
theorem w_X8_planned (X : Cx) (F : Fx X cX8_planned RX8 (some .int) rmX8_planned) (hA : xA X = Aw (xG X)) (hL : xL X = 4) (N : Nat) (h : Hp) (p1 : Int32) (p2 : Int32) (p3 : Int32) : Wm X (fun v => some (.int v.1)) (fun v => v.2) (fun _ => True) 0 [(0, .ref (adr (xG X) 8 0 0)), (1, .int p1), (2, .int p2), (3, .int p3)] [] h (f_X8_planned N h p1 p2 p3) := by
  have hS : ∀ i : Nat, i < 4 → i < xL X := fun i z => by rw [hL]; exact z
  unfold f_X8_planned
  refine r_aload_n F 0 rfl dX8_planned_0 rfl ?_
  refine r_iconst F (v := 0) dX8_planned_1 (by decide) ?_
  refine r_putI F frX8_163 (by decide) rfl rfl dX8_planned_2 fun h1 => ?_
  refine r_aload_n F 0 rfl dX8_planned_5 rfl ?_
  refine r_iload_n F 1 rfl dX8_planned_6 rfl ?_
  refine k_zP (run_V F cvX8_462 (by decide) (c_X8_isCroft (xG X) _ h1 p1) rfl rfl ⟨⟨rfl, rfl⟩, Nat.le_of_ble_eq_true rfl, Nat.le_of_ble_eq_true rfl⟩ (Nat.le_of_ble_eq_true rfl) dX8_planned_7) fun v2 _ => ?_
  refine Wt_jn (fun (j27 : Option (Int32 × Hp)) => Wm X (fun v => some (.int v.1)) (fun v => v.2) (fun _ => True) 27 [] [] h1 (j27)) ?_ fun j27 hj27 => ?_
  · skip
    refine r_iconst F (v := (-1)) dX8_planned_27 (by decide) ?_
    exact r_iret F hA rfl rfl trivial dX8_planned_28
  refine r_ifeq F (tgt := 27) dX8_planned_10 (by decide) ?_ ?_
  · skip
    exact Wt_pick [] rfl (hj27)
  refine r_iload_n F 2 rfl dX8_planned_13 rfl ?_
  refine r_iconst F (v := 1) dX8_planned_14 (by decide) ?_
  refine r_bipush F (v := 6) dX8_planned_15 (by decide) ?_
  refine k_zP (run_S F csX8_208 (c_X8_isIn (xG X) _ h1 p2 1 6) rfl rfl ⟨⟨rfl, rfl⟩, Nat.le_of_ble_eq_true rfl, Nat.le_of_ble_eq_true rfl⟩ (Nat.le_of_ble_eq_true rfl) dX8_planned_17) fun v3 _ => ?_
  refine r_ifeq F (tgt := 27) dX8_planned_20 (by decide) ?_ ?_
  · skip
    exact Wt_pick [] rfl (hj27)
  refine r_iload_n F 3 rfl dX8_planned_23 rfl ?_
  refine r_ifge F (tgt := 29) dX8_planned_24 (by decide) ?_ ?_
  · skip
    refine r_iload_n F 3 rfl dX8_planned_29 rfl ?_
    refine r_iload_n F 2 rfl dX8_planned_30 rfl ?_
    refine r_icmplt F (tgt := 37) dX8_planned_31 (by decide) ?_ ?_
    · skip
      refine r_aload_n F 0 rfl dX8_planned_37 rfl ?_
      refine r_iload_n F 1 rfl dX8_planned_38 rfl ?_
      refine r_iload_n F 2 rfl dX8_planned_39 rfl ?_
      refine k_vH (run_V F cvX8_510 (by decide) (c_X8_layPlan (xG X) _ N h1 p1 p2) rfl rfl ⟨⟨rfl, rfl⟩, Nat.le_of_ble_eq_true rfl, Nat.le_of_ble_eq_true rfl⟩ (Nat.le_of_ble_eq_true rfl) dX8_planned_40) fun h4 => ?_
      refine r_aload_n F 0 rfl dX8_planned_43 rfl ?_
      refine r_getA F frX8_121 (by decide) dX8_planned_44 ?_
      refine r_iload_n F 3 rfl dX8_planned_47 rfl ?_
      refine r_iaload F (ar_8_34 0 (by decide)) dX8_planned_48 ?_
      exact r_iret F hA rfl rfl trivial dX8_planned_49
    refine r_bipush F (v := (-2)) dX8_planned_34 (by decide) ?_
    exact r_iret F hA rfl rfl trivial dX8_planned_36
  exact Wt_pick [] rfl (hj27)
theorem c_X8_planned (G : Gx) (l : Launch) (N : Nat) (h : Hp) (p1 : Int32) (p2 : Int32) (p3 : Int32) : Ctr G l yX8_planned (.code yX8_planned cX8_planned 4 (some .int) :: GT) rmX8_planned [.ref (adr G 8 0 0), .int p1, .int p2, .int p3] h (f_X8_planned N h p1 p2 p3) (fun v => some (.int v.1)) (fun v => v.2) (fun _ => True) :=
  ctr_of (by decide) (Nat.le_of_ble_eq_true rfl) ⟨rfl, rfl⟩ fun X _ e2 hA hL F => by subst e2; exact w_X8_planned X F hA hL N h p1 p2 p3
def f_X8_areComing (h : Hp) (p1 : Int32) (p2 : Int32) (p3 : Int32) : Option Bool :=
  (f_X8_isCroft h p1).bind fun v1 =>
  jn (fun (v2 : Bool) =>
    some v2) fun (j66 : Bool → Option Bool) =>
  jn (
    j66 false) fun (j65 : Option Bool) =>
  if (b2i v1) = 0 then
    j65
  else
  (f_X8_isCroft h p2).bind fun v3 =>
  if (b2i v3) = 0 then
    j65
  else
  if p1 = p2 then
    j65
  else
  grd (inb p1 8) <|
  grd (inb 0 2) <|
  if (gA h 8 0 26 p1.toNatClampNeg) ≤ (gA h 8 0 33 (0 : Int32).toNatClampNeg) then
    j65
  else
  grd (inb p2 8) <|
  grd (inb 0 2) <|
  if (gA h 8 0 26 p2.toNatClampNeg) ≤ (gA h 8 0 33 (0 : Int32).toNatClampNeg) then
    j65
  else
  (f_X8_isIn p3 1 99).bind fun v4 =>
  if (b2i v4) = 0 then
    j65
  else
  j66 true
abbrev rmX8_areComing : Room := { frames := 1, cells := 0, slots := 0, locals := 22 }
set_option maxRecDepth 100000 in
set_option maxHeartbeats 4000000 in
theorem w_X8_areComing (X : Cx) (F : Fx X cX8_areComing RX8 (some .boolean) rmX8_areComing) (hA : xA X = Aw (xG X)) (hL : xL X = 4) (h : Hp) (p1 : Int32) (p2 : Int32) (p3 : Int32) : Wm X (fun v => some (.int (b2i v))) (fun _ => h) (fun _ => True) 0 [(0, .ref (adr (xG X) 8 0 0)), (1, .int p1), (2, .int p2), (3, .int p3)] [] h (f_X8_areComing h p1 p2 p3) := by
  have hS : ∀ i : Nat, i < 4 → i < xL X := fun i z => by rw [hL]; exact z
  unfold f_X8_areComing
  refine r_aload_n F 0 rfl dX8_areComing_0 rfl ?_
  refine r_iload_n F 1 rfl dX8_areComing_1 rfl ?_
  refine k_zP (run_V F cvX8_462 (by decide) (c_X8_isCroft (xG X) _ h p1) rfl rfl ⟨⟨rfl, rfl⟩, Nat.le_of_ble_eq_true rfl, Nat.le_of_ble_eq_true rfl⟩ (Nat.le_of_ble_eq_true rfl) dX8_areComing_2) fun v1 _ => ?_
  refine Wt_jn (fun (j66 : Bool → Option Bool) => ∀ v2 : Bool, Wm X (fun v => some (.int (b2i v))) (fun _ => h) (fun _ => True) 66 [] [.int (b2i v2)] h (j66 v2)) ?_ fun j66 hj66 => ?_
  · intro v2
    exact r_zret F hA v2 rfl rfl rfl trivial dX8_areComing_66
  refine Wt_jn (fun (j65 : Option Bool) => Wm X (fun v => some (.int (b2i v))) (fun _ => h) (fun _ => True) 65 [] [] h (j65)) ?_ fun j65 hj65 => ?_
  · skip
    refine r_iconst F (v := 0) dX8_areComing_65 (by decide) ?_
    exact Wt_pick [] rfl (hj66 false)
  refine r_ifeq F (tgt := 65) dX8_areComing_5 (by decide) ?_ ?_
  · skip
    exact Wt_pick [] rfl (hj65)
  refine r_aload_n F 0 rfl dX8_areComing_8 rfl ?_
  refine r_iload_n F 2 rfl dX8_areComing_9 rfl ?_
  refine k_zP (run_V F cvX8_462 (by decide) (c_X8_isCroft (xG X) _ h p2) rfl rfl ⟨⟨rfl, rfl⟩, Nat.le_of_ble_eq_true rfl, Nat.le_of_ble_eq_true rfl⟩ (Nat.le_of_ble_eq_true rfl) dX8_areComing_10) fun v3 _ => ?_
  refine r_ifeq F (tgt := 65) dX8_areComing_13 (by decide) ?_ ?_
  · skip
    exact Wt_pick [] rfl (hj65)
  refine r_iload_n F 1 rfl dX8_areComing_16 rfl ?_
  refine r_iload_n F 2 rfl dX8_areComing_17 rfl ?_
  refine r_icmpeq F (tgt := 65) dX8_areComing_18 (by decide) ?_ ?_
  · skip
    exact Wt_pick [] rfl (hj65)
  refine r_aload_n F 0 rfl dX8_areComing_21 rfl ?_
  refine r_getA F frX8_94 (by decide) dX8_areComing_22 ?_
  refine r_iload_n F 1 rfl dX8_areComing_25 rfl ?_
  refine r_iaload F (ar_8_26 0 (by decide)) dX8_areComing_26 ?_
  refine r_aload_n F 0 rfl dX8_areComing_27 rfl ?_
  refine r_getA F frX8_115 (by decide) dX8_areComing_28 ?_
  refine r_iconst F (v := 0) dX8_areComing_31 (by decide) ?_
  refine r_iaload F (ar_8_33 0 (by decide)) dX8_areComing_32 ?_
  refine r_icmple F (tgt := 65) dX8_areComing_33 (by decide) ?_ ?_
  · skip
    exact Wt_pick [] rfl (hj65)
  refine r_aload_n F 0 rfl dX8_areComing_36 rfl ?_
  refine r_getA F frX8_94 (by decide) dX8_areComing_37 ?_
  refine r_iload_n F 2 rfl dX8_areComing_40 rfl ?_
  refine r_iaload F (ar_8_26 0 (by decide)) dX8_areComing_41 ?_
  refine r_aload_n F 0 rfl dX8_areComing_42 rfl ?_
  refine r_getA F frX8_115 (by decide) dX8_areComing_43 ?_
  refine r_iconst F (v := 0) dX8_areComing_46 (by decide) ?_
  refine r_iaload F (ar_8_33 0 (by decide)) dX8_areComing_47 ?_
  refine r_icmple F (tgt := 65) dX8_areComing_48 (by decide) ?_ ?_
  · skip
    exact Wt_pick [] rfl (hj65)
  refine r_iload_n F 3 rfl dX8_areComing_51 rfl ?_
  refine r_iconst F (v := 1) dX8_areComing_52 (by decide) ?_
  refine r_bipush F (v := 99) dX8_areComing_53 (by decide) ?_
  refine k_zP (run_S F csX8_208 (c_X8_isIn (xG X) _ h p3 1 99) rfl rfl ⟨⟨rfl, rfl⟩, Nat.le_of_ble_eq_true rfl, Nat.le_of_ble_eq_true rfl⟩ (Nat.le_of_ble_eq_true rfl) dX8_areComing_55) fun v4 _ => ?_
  refine r_ifeq F (tgt := 65) dX8_areComing_58 (by decide) ?_ ?_
  · skip
    exact Wt_pick [] rfl (hj65)
  refine r_iconst F (v := 1) dX8_areComing_61 (by decide) ?_
  refine r_goto F (tgt := 66) dX8_areComing_62 (by decide) ?_
  exact Wt_pick [] rfl (hj66 true)
theorem c_X8_areComing (G : Gx) (l : Launch) (h : Hp) (p1 : Int32) (p2 : Int32) (p3 : Int32) : Ctr G l yX8_areComing (.code yX8_areComing cX8_areComing 4 (some .boolean) :: GT) rmX8_areComing [.ref (adr G 8 0 0), .int p1, .int p2, .int p3] h (f_X8_areComing h p1 p2 p3) (fun v => some (.int (b2i v))) (fun _ => h) (fun _ => True) :=
  ctr_of (by decide) (Nat.le_of_ble_eq_true rfl) ⟨rfl, rfl⟩ fun X _ e2 hA hL F => by subst e2; exact w_X8_areComing X F hA hL h p1 p2 p3
def f_X8_restAt_130 (p4 : Int32) (h2 : Hp) (r117 : Int32 → Int32 → Option (Int32 × Hp)) (v3 : Int32) (v4 : Int32) (r130 : Bool → Int32 → Option (Int32 × Hp)) (v6 : Bool) (v7 : Int32) : Option (Int32 × Hp) :=
  if 4 ≤ v7 then
    jn (fun (v8 : Int32) =>
      lt_ (v4 + 1) fun v9 =>
      r117 v8 v9) fun (j233 : Int32 → Option (Int32 × Hp)) =>
    if ¬ (b2i v6) = 0 then
      if ¬ v3 = p4 then
        lt_ (v3 + 1) fun v10 =>
        j233 v10
      else
      some (((10 * (v4 / 4)) + (v4 - v4 / 4 * 4)), h2)
    else
    j233 v3
  else
  jn (fun (v11 : Bool) =>
    lt_ (v7 + 1) fun v12 =>
    r130 v11 v12) fun (j194 : Bool → Option (Int32 × Hp)) =>
  jn (
    j194 false) fun (j193 : Option (Int32 × Hp)) =>
  if (b2i v6) = 0 then
    j193
  else
  grd (inb ((4 * v7) + (v4 - v4 / 4 * 4)) 16) <|
  grd (inb v4 16) <|
  if (gA h2 8 0 35 v4.toNatClampNeg) < (gA h2 8 0 35 ((4 * v7) + (v4 - v4 / 4 * 4)).toNatClampNeg) then
    j193
  else
  grd (inb (((v4 / 4) * 4) + v7) 16) <|
  grd (inb v4 16) <|
  if (gA h2 8 0 36 v4.toNatClampNeg) < (gA h2 8 0 36 (((v4 / 4) * 4) + v7).toNatClampNeg) then
    j193
  else
  j194 true
def f_X8_restAt_117 (N : Nat) (p4 : Int32) (h2 : Hp) (r117 : Int32 → Int32 → Option (Int32 × Hp)) (v3 : Int32) (v4 : Int32) : Option (Int32 × Hp) :=
  if 16 ≤ v4 then
    jn (fun (v5 : Int32) =>
      some (v5, h2)) fun (j251 : Int32 → Option (Int32 × Hp)) =>
    if 0 ≤ p4 then
      j251 (-2)
    else
    j251 v3
  else
  iter (fun _ _ => none) (f_X8_restAt_130 p4 h2 r117 v3 v4) N true 0
def f_X8_restAt_3 (N : Nat) (p1 : Int32) (p2 : Int32) (p3 : Int32) (p4 : Int32) (r3 : Int32 → Hp → Option (Int32 × Hp)) (v1 : Int32) (h2 : Hp) : Option (Int32 × Hp) :=
  if 16 ≤ v1 then
    iter (fun _ _ => none) (f_X8_restAt_117 N p4 h2) N 0 0
  else
  (f_X8_layTried N h2).bind fun h13 =>
  grd (inb 0 2) <|
  grd (inb (4 + p1) 8) <| lt_ (sA h13 8 0 26 (4 + p1).toNatClampNeg ((gA h13 8 0 33 (0 : Int32).toNatClampNeg) + (v1 / 4))) fun h14 =>
  grd (inb 0 2) <|
  grd (inb (4 + p2) 8) <| lt_ (sA h14 8 0 26 (4 + p2).toNatClampNeg ((gA h14 8 0 33 (0 : Int32).toNatClampNeg) + (v1 - v1 / 4 * 4))) fun h15 =>
  (f_X8_goTried N h15 p3 (gI h15 8 0 61)).bind fun h16 =>
  grd (inb (4 + p1) 8) <|
  grd (inb p1 8) <|
  grd (inb v1 16) <| lt_ (sA h16 8 0 35 v1.toNatClampNeg ((gA h16 8 0 28 (4 + p1).toNatClampNeg) - (gA h16 8 0 28 p1.toNatClampNeg))) fun h17 =>
  grd (inb (4 + p2) 8) <|
  grd (inb p2 8) <|
  grd (inb v1 16) <| lt_ (sA h17 8 0 36 v1.toNatClampNeg ((gA h17 8 0 28 (4 + p2).toNatClampNeg) - (gA h17 8 0 28 p2.toNatClampNeg))) fun h18 =>
  lt_ (v1 + 1) fun v19 =>
  r3 v19 h18
def f_X8_restAt (N : Nat) (h : Hp) (p1 : Int32) (p2 : Int32) (p3 : Int32) (p4 : Int32) : Option (Int32 × Hp) :=
  iter (fun _ _ => none) (f_X8_restAt_3 N p1 p2 p3 p4) N 0 h
abbrev rmX8_restAt : Room := { frames := 10, cells := 0, slots := 0, locals := 242 }
set_option maxRecDepth 100000 in
set_option maxHeartbeats 4000000 in
theorem w_X8_restAt (X : Cx) (F : Fx X cX8_restAt RX8 (some .int) rmX8_restAt) (hA : xA X = Aw (xG X)) (hL : xL X = 9) (N : Nat) (h : Hp) (p1 : Int32) (p2 : Int32) (p3 : Int32) (p4 : Int32) : Wm X (fun v => some (.int v.1)) (fun v => v.2) (fun _ => True) 0 [(0, .ref (adr (xG X) 8 0 0)), (1, .int p1), (2, .int p2), (3, .int p3), (4, .int p4)] [] h (f_X8_restAt N h p1 p2 p3 p4) := by
  have hS : ∀ i : Nat, i < 9 → i < xL X := fun i z => by rw [hL]; exact z
  unfold f_X8_restAt
  refine r_iconst F (v := 0) dX8_restAt_0 (by decide) ?_
  refine r_istore F [(5, .int 0), (0, .ref (adr (xG X) 8 0 0)), (1, .int p1), (2, .int p2), (3, .int p3), (4, .int p4)] rfl dX8_restAt_1 (hS _ (by decide)) ?_
  have hl3 : ∀ n : Nat, ∀ v1 : Int32, ∀ h2 : Hp, Wm X (fun v => some (.int v.1)) (fun v => v.2) (fun _ => True) 3 [(0, .ref (adr (xG X) 8 0 0)), (1, .int p1), (2, .int p2), (3, .int p3), (4, .int p4), (5, .int v1)] [] h2 (iter (fun _ _ => none) (f_X8_restAt_3 N p1 p2 p3 p4) n v1 h2) := by
    intro n
    induction n with
    | zero => intro v1 h2; exact Wt_none
    | succ n ih =>
      revert ih
      show (∀ v1 : Int32, ∀ h2 : Hp, Wm X (fun v => some (.int v.1)) (fun v => v.2) (fun _ => True) 3 [(0, .ref (adr (xG X) 8 0 0)), (1, .int p1), (2, .int p2), (3, .int p3), (4, .int p4), (5, .int v1)] [] h2 (iter (fun _ _ => none) (f_X8_restAt_3 N p1 p2 p3 p4) n v1 h2)) → _
      intro ih3 v1 h2
      show Wm X (fun v => some (.int v.1)) (fun v => v.2) (fun _ => True) 3 [(0, .ref (adr (xG X) 8 0 0)), (1, .int p1), (2, .int p2), (3, .int p3), (4, .int p4), (5, .int v1)] [] h2 (f_X8_restAt_3 N p1 p2 p3 p4 (iter (fun _ _ => none) (f_X8_restAt_3 N p1 p2 p3 p4) n) v1 h2)
      revert ih3
      generalize iter (fun _ _ => none) (f_X8_restAt_3 N p1 p2 p3 p4) n = r3
      intro ih3
      unfold f_X8_restAt_3
      refine r_iload F 5 rfl dX8_restAt_3 ?_
      refine r_bipush F (v := 16) dX8_restAt_5 (by decide) ?_
      refine r_icmpge F (tgt := 111) dX8_restAt_7 (by decide) ?_ ?_
      · skip
        refine r_iconst F (v := 0) dX8_restAt_111 (by decide) ?_
        refine r_istore F [(5, .int 0), (0, .ref (adr (xG X) 8 0 0)), (1, .int p1), (2, .int p2), (3, .int p3), (4, .int p4)] rfl dX8_restAt_112 (hS _ (by decide)) ?_
        refine r_iconst F (v := 0) dX8_restAt_114 (by decide) ?_
        refine r_istore F [(6, .int 0), (5, .int 0), (0, .ref (adr (xG X) 8 0 0)), (1, .int p1), (2, .int p2), (3, .int p3), (4, .int p4)] rfl dX8_restAt_115 (hS _ (by decide)) ?_
        have hl117 : ∀ n : Nat, ∀ v3 : Int32, ∀ v4 : Int32, Wm X (fun v => some (.int v.1)) (fun v => v.2) (fun _ => True) 117 [(0, .ref (adr (xG X) 8 0 0)), (4, .int p4), (5, .int v3), (6, .int v4)] [] h2 (iter (fun _ _ => none) (f_X8_restAt_117 N p4 h2) n v3 v4) := by
          intro n
          induction n with
          | zero => intro v3 v4; exact Wt_none
          | succ n ih =>
            revert ih
            show (∀ v3 : Int32, ∀ v4 : Int32, Wm X (fun v => some (.int v.1)) (fun v => v.2) (fun _ => True) 117 [(0, .ref (adr (xG X) 8 0 0)), (4, .int p4), (5, .int v3), (6, .int v4)] [] h2 (iter (fun _ _ => none) (f_X8_restAt_117 N p4 h2) n v3 v4)) → _
            intro ih117 v3 v4
            show Wm X (fun v => some (.int v.1)) (fun v => v.2) (fun _ => True) 117 [(0, .ref (adr (xG X) 8 0 0)), (4, .int p4), (5, .int v3), (6, .int v4)] [] h2 (f_X8_restAt_117 N p4 h2 (iter (fun _ _ => none) (f_X8_restAt_117 N p4 h2) n) v3 v4)
            revert ih117
            generalize iter (fun _ _ => none) (f_X8_restAt_117 N p4 h2) n = r117
            intro ih117
            unfold f_X8_restAt_117
            refine r_iload F 3 rfl dX8_restAt_117 ?_
            refine r_bipush F (v := 16) dX8_restAt_119 (by decide) ?_
            refine r_icmpge F (tgt := 239) dX8_restAt_121 (by decide) ?_ ?_
            · skip
              refine r_iload F 1 rfl dX8_restAt_239 ?_
              refine Wt_jn (fun (j251 : Int32 → Option (Int32 × Hp)) => ∀ v5 : Int32, Wm X (fun v => some (.int v.1)) (fun v => v.2) (fun _ => True) 251 [] [.int v5] h2 (j251 v5)) ?_ fun j251 hj251 => ?_
              · intro v5
                exact r_iret F hA rfl rfl trivial dX8_restAt_251
              refine r_ifge F (tgt := 249) dX8_restAt_241 (by decide) ?_ ?_
              · skip
                refine r_bipush F (v := (-2)) dX8_restAt_249 (by decide) ?_
                exact Wt_pick [] rfl (hj251 (-2))
              refine r_iload F 2 rfl dX8_restAt_244 ?_
              refine r_goto F (tgt := 251) dX8_restAt_246 (by decide) ?_
              exact Wt_pick [] rfl (hj251 v3)
            refine r_iconst F (v := 1) dX8_restAt_124 (by decide) ?_
            refine r_istore F [(7, .int 1), (0, .ref (adr (xG X) 8 0 0)), (4, .int p4), (5, .int v3), (6, .int v4)] rfl dX8_restAt_125 (hS _ (by decide)) ?_
            refine r_iconst F (v := 0) dX8_restAt_127 (by decide) ?_
            refine r_istore F [(8, .int 0), (7, .int 1), (0, .ref (adr (xG X) 8 0 0)), (4, .int p4), (5, .int v3), (6, .int v4)] rfl dX8_restAt_128 (hS _ (by decide)) ?_
            have hl130 : ∀ n : Nat, ∀ v6 : Bool, ∀ v7 : Int32, Wm X (fun v => some (.int v.1)) (fun v => v.2) (fun _ => True) 130 [(0, .ref (adr (xG X) 8 0 0)), (4, .int p4), (5, .int v3), (6, .int v4), (7, .int (b2i v6)), (8, .int v7)] [] h2 (iter (fun _ _ => none) (f_X8_restAt_130 p4 h2 r117 v3 v4) n v6 v7) := by
              intro n
              induction n with
              | zero => intro v6 v7; exact Wt_none
              | succ n ih =>
                revert ih
                show (∀ v6 : Bool, ∀ v7 : Int32, Wm X (fun v => some (.int v.1)) (fun v => v.2) (fun _ => True) 130 [(0, .ref (adr (xG X) 8 0 0)), (4, .int p4), (5, .int v3), (6, .int v4), (7, .int (b2i v6)), (8, .int v7)] [] h2 (iter (fun _ _ => none) (f_X8_restAt_130 p4 h2 r117 v3 v4) n v6 v7)) → _
                intro ih130 v6 v7
                show Wm X (fun v => some (.int v.1)) (fun v => v.2) (fun _ => True) 130 [(0, .ref (adr (xG X) 8 0 0)), (4, .int p4), (5, .int v3), (6, .int v4), (7, .int (b2i v6)), (8, .int v7)] [] h2 (f_X8_restAt_130 p4 h2 r117 v3 v4 (iter (fun _ _ => none) (f_X8_restAt_130 p4 h2 r117 v3 v4) n) v6 v7)
                revert ih130
                generalize iter (fun _ _ => none) (f_X8_restAt_130 p4 h2 r117 v3 v4) n = r130
                intro ih130
                unfold f_X8_restAt_130
                refine r_iload F 5 rfl dX8_restAt_130 ?_
                refine r_iconst F (v := 4) dX8_restAt_132 (by decide) ?_
                refine r_icmpge F (tgt := 202) dX8_restAt_133 (by decide) ?_ ?_
                · skip
                  refine r_iload F 4 rfl dX8_restAt_202 ?_
                  refine Wt_jn (fun (j233 : Int32 → Option (Int32 × Hp)) => ∀ v8 : Int32, Wm X (fun v => some (.int v.1)) (fun v => v.2) (fun _ => True) 233 [(0, .ref (adr (xG X) 8 0 0)), (4, .int p4), (5, .int v8), (6, .int v4)] [] h2 (j233 v8)) ?_ fun j233 hj233 => ?_
                  · intro v8
                    refine r_iinc F (v := 1) 3 rfl (by decide) (fun v9 => [(6, .int v9), (0, .ref (adr (xG X) 8 0 0)), (4, .int p4), (5, .int v8)]) (fun _ => rfl) dX8_restAt_233 (hS _ (by decide)) fun v9 => ?_
                    refine r_goto F (tgt := 117) dX8_restAt_236 (by decide) ?_
                    exact Wt_pick [1, 2, 3, 0] rfl (ih117 v8 v9)
                  refine r_ifne F (tgt := 210) dX8_restAt_204 (by decide) ?_ ?_
                  · skip
                    refine r_iload F 2 rfl dX8_restAt_210 ?_
                    refine r_iload F 1 rfl dX8_restAt_212 ?_
                    refine r_icmpne F (tgt := 230) dX8_restAt_214 (by decide) ?_ ?_
                    · skip
                      refine r_iinc F (v := 1) 2 rfl (by decide) (fun v10 => [(5, .int v10), (0, .ref (adr (xG X) 8 0 0)), (4, .int p4), (6, .int v4), (7, .int (b2i v6)), (8, .int v7)]) (fun _ => rfl) dX8_restAt_230 (hS _ (by decide)) fun v10 => ?_
                      exact Wt_pick [1, 2, 0, 3] rfl (hj233 v10)
                    refine r_bipush F (v := 10) dX8_restAt_217 (by decide) ?_
                    refine r_iload F 3 rfl dX8_restAt_219 ?_
                    refine r_iconst F (v := 4) dX8_restAt_221 (by decide) ?_
                    refine r_idivc F (by decide) dX8_restAt_222 ?_
                    refine r_imul F dX8_restAt_223 ?_
                    refine r_iload F 3 rfl dX8_restAt_224 ?_
                    refine r_iconst F (v := 4) dX8_restAt_226 (by decide) ?_
                    refine r_iremc F (by decide) dX8_restAt_227 ?_
                    refine r_iadd F dX8_restAt_228 ?_
                    exact r_iret F hA rfl rfl trivial dX8_restAt_229
                  refine r_goto F (tgt := 233) dX8_restAt_207 (by decide) ?_
                  exact Wt_pick [0, 1, 2, 3] rfl (hj233 v3)
                refine r_iload F 4 rfl dX8_restAt_136 ?_
                refine Wt_jn (fun (j194 : Bool → Option (Int32 × Hp)) => ∀ v11 : Bool, Wm X (fun v => some (.int v.1)) (fun v => v.2) (fun _ => True) 194 [(0, .ref (adr (xG X) 8 0 0)), (4, .int p4), (5, .int v3), (6, .int v4), (8, .int v7)] [.int (b2i v11)] h2 (j194 v11)) ?_ fun j194 hj194 => ?_
                · intro v11
                  refine r_istore F [(7, .int (b2i v11)), (0, .ref (adr (xG X) 8 0 0)), (4, .int p4), (5, .int v3), (6, .int v4), (8, .int v7)] rfl dX8_restAt_194 (hS _ (by decide)) ?_
                  refine r_iinc F (v := 1) 5 rfl (by decide) (fun v12 => [(8, .int v12), (7, .int (b2i v11)), (0, .ref (adr (xG X) 8 0 0)), (4, .int p4), (5, .int v3), (6, .int v4)]) (fun _ => rfl) dX8_restAt_196 (hS _ (by decide)) fun v12 => ?_
                  refine r_goto F (tgt := 130) dX8_restAt_199 (by decide) ?_
                  exact Wt_pick [2, 3, 4, 5, 1, 0] rfl (ih130 v11 v12)
                refine Wt_jn (fun (j193 : Option (Int32 × Hp)) => Wm X (fun v => some (.int v.1)) (fun v => v.2) (fun _ => True) 193 [(0, .ref (adr (xG X) 8 0 0)), (4, .int p4), (5, .int v3), (6, .int v4), (8, .int v7)] [] h2 (j193)) ?_ fun j193 hj193 => ?_
                · skip
                  refine r_iconst F (v := 0) dX8_restAt_193 (by decide) ?_
                  exact Wt_pick [0, 1, 2, 3, 4] rfl (hj194 false)
                refine r_ifeq F (tgt := 193) dX8_restAt_138 (by decide) ?_ ?_
                · skip
                  exact Wt_pick [0, 1, 2, 3, 5] rfl (hj193)
                refine r_aload_n F 0 rfl dX8_restAt_141 rfl ?_
                refine r_getA F frX8_124 (by decide) dX8_restAt_142 ?_
                refine r_iconst F (v := 4) dX8_restAt_145 (by decide) ?_
                refine r_iload F 5 rfl dX8_restAt_146 ?_
                refine r_imul F dX8_restAt_148 ?_
                refine r_iload F 3 rfl dX8_restAt_149 ?_
                refine r_iconst F (v := 4) dX8_restAt_151 (by decide) ?_
                refine r_iremc F (by decide) dX8_restAt_152 ?_
                refine r_iadd F dX8_restAt_153 ?_
                refine r_iaload F (ar_8_35 0 (by decide)) dX8_restAt_154 ?_
                refine r_aload_n F 0 rfl dX8_restAt_155 rfl ?_
                refine r_getA F frX8_124 (by decide) dX8_restAt_156 ?_
                refine r_iload F 3 rfl dX8_restAt_159 ?_
                refine r_iaload F (ar_8_35 0 (by decide)) dX8_restAt_161 ?_
                refine r_icmpgt F (tgt := 193) dX8_restAt_162 (by decide) ?_ ?_
                · skip
                  exact Wt_pick [0, 1, 2, 3, 5] rfl (hj193)
                refine r_aload_n F 0 rfl dX8_restAt_165 rfl ?_
                refine r_getA F frX8_127 (by decide) dX8_restAt_166 ?_
                refine r_iload F 3 rfl dX8_restAt_169 ?_
                refine r_iconst F (v := 4) dX8_restAt_171 (by decide) ?_
                refine r_idivc F (by decide) dX8_restAt_172 ?_
                refine r_iconst F (v := 4) dX8_restAt_173 (by decide) ?_
                refine r_imul F dX8_restAt_174 ?_
                refine r_iload F 5 rfl dX8_restAt_175 ?_
                refine r_iadd F dX8_restAt_177 ?_
                refine r_iaload F (ar_8_36 0 (by decide)) dX8_restAt_178 ?_
                refine r_aload_n F 0 rfl dX8_restAt_179 rfl ?_
                refine r_getA F frX8_127 (by decide) dX8_restAt_180 ?_
                refine r_iload F 3 rfl dX8_restAt_183 ?_
                refine r_iaload F (ar_8_36 0 (by decide)) dX8_restAt_185 ?_
                refine r_icmpgt F (tgt := 193) dX8_restAt_186 (by decide) ?_ ?_
                · skip
                  exact Wt_pick [0, 1, 2, 3, 5] rfl (hj193)
                refine r_iconst F (v := 1) dX8_restAt_189 (by decide) ?_
                refine r_goto F (tgt := 194) dX8_restAt_190 (by decide) ?_
                exact Wt_pick [0, 1, 2, 3, 5] rfl (hj194 true)
            exact Wt_pick [2, 3, 4, 5, 1, 0] rfl (hl130 N true 0)
        exact Wt_pick [2, 6, 1, 0] rfl (hl117 N 0 0)
      refine r_aload_n F 0 rfl dX8_restAt_10 rfl ?_
      refine k_vH (run_V F cvX8_485 (by decide) (c_X8_layTried (xG X) _ N h2) rfl rfl ⟨⟨rfl, rfl⟩, Nat.le_of_ble_eq_true rfl, Nat.le_of_ble_eq_true rfl⟩ (Nat.le_of_ble_eq_true rfl) dX8_restAt_11) fun h13 => ?_
      refine r_aload_n F 0 rfl dX8_restAt_14 rfl ?_
      refine r_getA F frX8_94 (by decide) dX8_restAt_15 ?_
      refine r_iconst F (v := 4) dX8_restAt_18 (by decide) ?_
      refine r_iload_n F 1 rfl dX8_restAt_19 rfl ?_
      refine r_iadd F dX8_restAt_20 ?_
      refine r_aload_n F 0 rfl dX8_restAt_21 rfl ?_
      refine r_getA F frX8_115 (by decide) dX8_restAt_22 ?_
      refine r_iconst F (v := 0) dX8_restAt_25 (by decide) ?_
      refine r_iaload F (ar_8_33 0 (by decide)) dX8_restAt_26 ?_
      refine r_iload F 5 rfl dX8_restAt_27 ?_
      refine r_iconst F (v := 4) dX8_restAt_29 (by decide) ?_
      refine r_idivc F (by decide) dX8_restAt_30 ?_
      refine r_iadd F dX8_restAt_31 ?_
      refine r_iastore F (ar_8_26 0 (by decide)) dX8_restAt_32 fun h14 => ?_
      refine r_aload_n F 0 rfl dX8_restAt_33 rfl ?_
      refine r_getA F frX8_94 (by decide) dX8_restAt_34 ?_
      refine r_iconst F (v := 4) dX8_restAt_37 (by decide) ?_
      refine r_iload_n F 2 rfl dX8_restAt_38 rfl ?_
      refine r_iadd F dX8_restAt_39 ?_
      refine r_aload_n F 0 rfl dX8_restAt_40 rfl ?_
      refine r_getA F frX8_115 (by decide) dX8_restAt_41 ?_
      refine r_iconst F (v := 0) dX8_restAt_44 (by decide) ?_
      refine r_iaload F (ar_8_33 0 (by decide)) dX8_restAt_45 ?_
      refine r_iload F 5 rfl dX8_restAt_46 ?_
      refine r_iconst F (v := 4) dX8_restAt_48 (by decide) ?_
      refine r_iremc F (by decide) dX8_restAt_49 ?_
      refine r_iadd F dX8_restAt_50 ?_
      refine r_iastore F (ar_8_26 0 (by decide)) dX8_restAt_51 fun h15 => ?_
      refine r_aload_n F 0 rfl dX8_restAt_52 rfl ?_
      refine r_iload_n F 3 rfl dX8_restAt_53 rfl ?_
      refine r_aload_n F 0 rfl dX8_restAt_54 rfl ?_
      refine r_getI F frX8_363 (by decide) dX8_restAt_55 ?_
      refine k_vH (run_V F cvX8_488 (by decide) (c_X8_goTried (xG X) _ N h15 p3 (gI h15 8 0 61)) rfl rfl ⟨⟨rfl, rfl⟩, Nat.le_of_ble_eq_true rfl, Nat.le_of_ble_eq_true rfl⟩ (Nat.le_of_ble_eq_true rfl) dX8_restAt_58) fun h16 => ?_
      refine r_aload_n F 0 rfl dX8_restAt_61 rfl ?_
      refine r_getA F frX8_124 (by decide) dX8_restAt_62 ?_
      refine r_iload F 5 rfl dX8_restAt_65 ?_
      refine r_aload_n F 0 rfl dX8_restAt_67 rfl ?_
      refine r_getA F frX8_100 (by decide) dX8_restAt_68 ?_
      refine r_iconst F (v := 4) dX8_restAt_71 (by decide) ?_
      refine r_iload_n F 1 rfl dX8_restAt_72 rfl ?_
      refine r_iadd F dX8_restAt_73 ?_
      refine r_iaload F (ar_8_28 0 (by decide)) dX8_restAt_74 ?_
      refine r_aload_n F 0 rfl dX8_restAt_75 rfl ?_
      refine r_getA F frX8_100 (by decide) dX8_restAt_76 ?_
      refine r_iload_n F 1 rfl dX8_restAt_79 rfl ?_
      refine r_iaload F (ar_8_28 0 (by decide)) dX8_restAt_80 ?_
      refine r_isub F dX8_restAt_81 ?_
      refine r_iastore F (ar_8_35 0 (by decide)) dX8_restAt_82 fun h17 => ?_
      refine r_aload_n F 0 rfl dX8_restAt_83 rfl ?_
      refine r_getA F frX8_127 (by decide) dX8_restAt_84 ?_
      refine r_iload F 5 rfl dX8_restAt_87 ?_
      refine r_aload_n F 0 rfl dX8_restAt_89 rfl ?_
      refine r_getA F frX8_100 (by decide) dX8_restAt_90 ?_
      refine r_iconst F (v := 4) dX8_restAt_93 (by decide) ?_
      refine r_iload_n F 2 rfl dX8_restAt_94 rfl ?_
      refine r_iadd F dX8_restAt_95 ?_
      refine r_iaload F (ar_8_28 0 (by decide)) dX8_restAt_96 ?_
      refine r_aload_n F 0 rfl dX8_restAt_97 rfl ?_
      refine r_getA F frX8_100 (by decide) dX8_restAt_98 ?_
      refine r_iload_n F 2 rfl dX8_restAt_101 rfl ?_
      refine r_iaload F (ar_8_28 0 (by decide)) dX8_restAt_102 ?_
      refine r_isub F dX8_restAt_103 ?_
      refine r_iastore F (ar_8_36 0 (by decide)) dX8_restAt_104 fun h18 => ?_
      refine r_iinc F (v := 1) 5 rfl (by decide) (fun v19 => [(5, .int v19), (0, .ref (adr (xG X) 8 0 0)), (1, .int p1), (2, .int p2), (3, .int p3), (4, .int p4)]) (fun _ => rfl) dX8_restAt_105 (hS _ (by decide)) fun v19 => ?_
      refine r_goto F (tgt := 3) dX8_restAt_108 (by decide) ?_
      exact Wt_pick [1, 2, 3, 4, 5, 0] rfl (ih3 v19 h18)
  exact Wt_pick [1, 2, 3, 4, 5, 0] rfl (hl3 N 0 h)
theorem c_X8_restAt (G : Gx) (l : Launch) (N : Nat) (h : Hp) (p1 : Int32) (p2 : Int32) (p3 : Int32) (p4 : Int32) : Ctr G l yX8_restAt (.code yX8_restAt cX8_restAt 9 (some .int) :: GT) rmX8_restAt [.ref (adr G 8 0 0), .int p1, .int p2, .int p3, .int p4] h (f_X8_restAt N h p1 p2 p3 p4) (fun v => some (.int v.1)) (fun v => v.2) (fun _ => True) :=
  ctr_of (by decide) (Nat.le_of_ble_eq_true rfl) ⟨rfl, rfl⟩ fun X _ e2 hA hL F => by subst e2; exact w_X8_restAt X F hA hL N h p1 p2 p3 p4
