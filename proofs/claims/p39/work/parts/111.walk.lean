theorem dX7_plan_0 : decode cX7_plan 0 = .ok (.aload_n 0, 1) := by decide +kernel
theorem dX7_plan_1 : decode cX7_plan 1 = .ok (.iload_n 1, 1) := by decide +kernel
theorem dX7_plan_2 : decode cX7_plan 2 = .ok (.invokevirtual 152, 3) := by decide +kernel
theorem dX7_plan_5 : decode cX7_plan 5 = .ok (.ifCond .eq 22, 3) := by decide +kernel
theorem dX7_plan_8 : decode cX7_plan 8 = .ok (.iload_n 2, 1) := by decide +kernel
theorem dX7_plan_9 : decode cX7_plan 9 = .ok (.iconst 1, 1) := by decide +kernel
theorem dX7_plan_10 : decode cX7_plan 10 = .ok (.bipush 6, 2) := by decide +kernel
theorem dX7_plan_12 : decode cX7_plan 12 = .ok (.invokestatic 247, 3) := by decide +kernel
theorem dX7_plan_15 : decode cX7_plan 15 = .ok (.ifCond .eq 12, 3) := by decide +kernel
theorem dX7_plan_18 : decode cX7_plan 18 = .ok (.aload_n 0, 1) := by decide +kernel
theorem dX7_plan_19 : decode cX7_plan 19 = .ok (.iload_n 1, 1) := by decide +kernel
theorem dX7_plan_20 : decode cX7_plan 20 = .ok (.iload_n 2, 1) := by decide +kernel
theorem dX7_plan_21 : decode cX7_plan 21 = .ok (.invokevirtual 268, 3) := by decide +kernel
theorem dX7_plan_24 : decode cX7_plan 24 = .ok (.goto 4, 3) := by decide +kernel
theorem dX7_plan_27 : decode cX7_plan 27 = .ok (.iconst (-1), 1) := by decide +kernel
theorem dX7_plan_28 : decode cX7_plan 28 = .ok (.ireturn, 1) := by decide +kernel
theorem dX7_planned_0 : decode cX7_planned 0 = .ok (.aload_n 0, 1) := by decide +kernel
theorem dX7_planned_1 : decode cX7_planned 1 = .ok (.iload_n 1, 1) := by decide +kernel
theorem dX7_planned_2 : decode cX7_planned 2 = .ok (.invokevirtual 152, 3) := by decide +kernel
theorem dX7_planned_5 : decode cX7_planned 5 = .ok (.ifCond .eq 17, 3) := by decide +kernel
theorem dX7_planned_8 : decode cX7_planned 8 = .ok (.iload_n 2, 1) := by decide +kernel
theorem dX7_planned_9 : decode cX7_planned 9 = .ok (.iconst 1, 1) := by decide +kernel
theorem dX7_planned_10 : decode cX7_planned 10 = .ok (.bipush 6, 2) := by decide +kernel
theorem dX7_planned_12 : decode cX7_planned 12 = .ok (.invokestatic 247, 3) := by decide +kernel
theorem dX7_planned_15 : decode cX7_planned 15 = .ok (.ifCond .eq 7, 3) := by decide +kernel
theorem dX7_planned_18 : decode cX7_planned 18 = .ok (.iload_n 3, 1) := by decide +kernel
theorem dX7_planned_19 : decode cX7_planned 19 = .ok (.ifCond .ge 5, 3) := by decide +kernel
theorem dX7_planned_22 : decode cX7_planned 22 = .ok (.iconst (-1), 1) := by decide +kernel
theorem dX7_planned_23 : decode cX7_planned 23 = .ok (.ireturn, 1) := by decide +kernel
theorem dX7_planned_24 : decode cX7_planned 24 = .ok (.iload_n 3, 1) := by decide +kernel
theorem dX7_planned_25 : decode cX7_planned 25 = .ok (.iload_n 2, 1) := by decide +kernel
theorem dX7_planned_26 : decode cX7_planned 26 = .ok (.if_icmp .lt 6, 3) := by decide +kernel
theorem dX7_planned_29 : decode cX7_planned 29 = .ok (.bipush (-2), 2) := by decide +kernel
theorem dX7_planned_31 : decode cX7_planned 31 = .ok (.ireturn, 1) := by decide +kernel
theorem dX7_planned_32 : decode cX7_planned 32 = .ok (.aload_n 0, 1) := by decide +kernel
theorem dX7_planned_33 : decode cX7_planned 33 = .ok (.iload_n 1, 1) := by decide +kernel
theorem dX7_planned_34 : decode cX7_planned 34 = .ok (.iload_n 2, 1) := by decide +kernel
theorem dX7_planned_35 : decode cX7_planned 35 = .ok (.invokevirtual 268, 3) := by decide +kernel
theorem dX7_planned_38 : decode cX7_planned 38 = .ok (.pop, 1) := by decide +kernel
theorem dX7_planned_39 : decode cX7_planned 39 = .ok (.aload_n 0, 1) := by decide +kernel
theorem dX7_planned_40 : decode cX7_planned 40 = .ok (.getfield 41, 3) := by decide +kernel
theorem dX7_planned_43 : decode cX7_planned 43 = .ok (.iload_n 3, 1) := by decide +kernel
theorem dX7_planned_44 : decode cX7_planned 44 = .ok (.iaload, 1) := by decide +kernel
theorem dX7_planned_45 : decode cX7_planned 45 = .ok (.ireturn, 1) := by decide +kernel
theorem dX7_mayCome_0 : decode cX7_mayCome 0 = .ok (.aload_n 0, 1) := by decide +kernel
theorem dX7_mayCome_1 : decode cX7_mayCome 1 = .ok (.iload_n 1, 1) := by decide +kernel
theorem dX7_mayCome_2 : decode cX7_mayCome 2 = .ok (.invokevirtual 152, 3) := by decide +kernel
theorem dX7_mayCome_5 : decode cX7_mayCome 5 = .ok (.ifCond .eq 68, 3) := by decide +kernel
theorem dX7_mayCome_8 : decode cX7_mayCome 8 = .ok (.aload_n 0, 1) := by decide +kernel
theorem dX7_mayCome_9 : decode cX7_mayCome 9 = .ok (.iload_n 2, 1) := by decide +kernel
theorem dX7_mayCome_10 : decode cX7_mayCome 10 = .ok (.invokevirtual 152, 3) := by decide +kernel
theorem dX7_mayCome_13 : decode cX7_mayCome 13 = .ok (.ifCond .eq 60, 3) := by decide +kernel
theorem dX7_mayCome_16 : decode cX7_mayCome 16 = .ok (.iload_n 1, 1) := by decide +kernel
theorem dX7_mayCome_17 : decode cX7_mayCome 17 = .ok (.iload_n 2, 1) := by decide +kernel
theorem dX7_mayCome_18 : decode cX7_mayCome 18 = .ok (.if_icmp .eq 55, 3) := by decide +kernel
theorem dX7_mayCome_21 : decode cX7_mayCome 21 = .ok (.iload_n 3, 1) := by decide +kernel
theorem dX7_mayCome_22 : decode cX7_mayCome 22 = .ok (.iconst 1, 1) := by decide +kernel
theorem dX7_mayCome_23 : decode cX7_mayCome 23 = .ok (.bipush 99, 2) := by decide +kernel
theorem dX7_mayCome_25 : decode cX7_mayCome 25 = .ok (.invokestatic 247, 3) := by decide +kernel
theorem dX7_mayCome_28 : decode cX7_mayCome 28 = .ok (.ifCond .eq 45, 3) := by decide +kernel
theorem dX7_mayCome_31 : decode cX7_mayCome 31 = .ok (.aload_n 0, 1) := by decide +kernel
theorem dX7_mayCome_32 : decode cX7_mayCome 32 = .ok (.getfield 72, 3) := by decide +kernel
theorem dX7_mayCome_35 : decode cX7_mayCome 35 = .ok (.getfield 161, 3) := by decide +kernel
theorem dX7_mayCome_38 : decode cX7_mayCome 38 = .ok (.iload_n 1, 1) := by decide +kernel
theorem dX7_mayCome_39 : decode cX7_mayCome 39 = .ok (.iaload, 1) := by decide +kernel
theorem dX7_mayCome_40 : decode cX7_mayCome 40 = .ok (.aload_n 0, 1) := by decide +kernel
theorem dX7_mayCome_41 : decode cX7_mayCome 41 = .ok (.getfield 72, 3) := by decide +kernel
theorem dX7_mayCome_44 : decode cX7_mayCome 44 = .ok (.getfield 241, 3) := by decide +kernel
theorem dX7_mayCome_47 : decode cX7_mayCome 47 = .ok (.if_icmp .le 26, 3) := by decide +kernel
theorem dX7_mayCome_50 : decode cX7_mayCome 50 = .ok (.aload_n 0, 1) := by decide +kernel
theorem dX7_mayCome_51 : decode cX7_mayCome 51 = .ok (.getfield 72, 3) := by decide +kernel
theorem dX7_mayCome_54 : decode cX7_mayCome 54 = .ok (.getfield 161, 3) := by decide +kernel
theorem dX7_mayCome_57 : decode cX7_mayCome 57 = .ok (.iload_n 2, 1) := by decide +kernel
theorem dX7_mayCome_58 : decode cX7_mayCome 58 = .ok (.iaload, 1) := by decide +kernel
theorem dX7_mayCome_59 : decode cX7_mayCome 59 = .ok (.aload_n 0, 1) := by decide +kernel
theorem dX7_mayCome_60 : decode cX7_mayCome 60 = .ok (.getfield 72, 3) := by decide +kernel
theorem dX7_mayCome_63 : decode cX7_mayCome 63 = .ok (.getfield 241, 3) := by decide +kernel
theorem dX7_mayCome_66 : decode cX7_mayCome 66 = .ok (.if_icmp .le 7, 3) := by decide +kernel
theorem dX7_mayCome_69 : decode cX7_mayCome 69 = .ok (.iconst 1, 1) := by decide +kernel
theorem dX7_mayCome_70 : decode cX7_mayCome 70 = .ok (.goto 4, 3) := by decide +kernel
theorem dX7_mayCome_73 : decode cX7_mayCome 73 = .ok (.iconst 0, 1) := by decide +kernel
theorem dX7_mayCome_74 : decode cX7_mayCome 74 = .ok (.ireturn, 1) := by decide +kernel
theorem dX7_workOutComing_0 : decode cX7_workOutComing 0 = .ok (.aload_n 0, 1) := by decide +kernel
theorem dX7_workOutComing_1 : decode cX7_workOutComing 1 = .ok (.getfield 78, 3) := by decide +kernel
theorem dX7_workOutComing_4 : decode cX7_workOutComing 4 = .ok (.iconst 0, 1) := by decide +kernel
theorem dX7_workOutComing_5 : decode cX7_workOutComing 5 = .ok (.aaload, 1) := by decide +kernel
theorem dX7_workOutComing_6 : decode cX7_workOutComing 6 = .ok (.astore 4, 2) := by decide +kernel
theorem dX7_workOutComing_8 : decode cX7_workOutComing 8 = .ok (.iconst 0, 1) := by decide +kernel
theorem dX7_workOutComing_9 : decode cX7_workOutComing 9 = .ok (.istore 5, 2) := by decide +kernel
theorem dX7_workOutComing_11 : decode cX7_workOutComing 11 = .ok (.iload 5, 2) := by decide +kernel
theorem dX7_workOutComing_13 : decode cX7_workOutComing 13 = .ok (.aload_n 0, 1) := by decide +kernel
theorem dX7_workOutComing_14 : decode cX7_workOutComing 14 = .ok (.getfield 44, 3) := by decide +kernel
theorem dX7_workOutComing_17 : decode cX7_workOutComing 17 = .ok (.arraylength, 1) := by decide +kernel
theorem dX7_workOutComing_18 : decode cX7_workOutComing 18 = .ok (.if_icmp .ge 90, 3) := by decide +kernel
theorem dX7_workOutComing_21 : decode cX7_workOutComing 21 = .ok (.aload 4, 2) := by decide +kernel
theorem dX7_workOutComing_23 : decode cX7_workOutComing 23 = .ok (.aload_n 0, 1) := by decide +kernel
theorem dX7_workOutComing_24 : decode cX7_workOutComing 24 = .ok (.getfield 72, 3) := by decide +kernel
theorem dX7_workOutComing_27 : decode cX7_workOutComing 27 = .ok (.invokevirtual 109, 3) := by decide +kernel
theorem dX7_workOutComing_30 : decode cX7_workOutComing 30 = .ok (.aload 4, 2) := by decide +kernel
theorem dX7_workOutComing_32 : decode cX7_workOutComing 32 = .ok (.getfield 161, 3) := by decide +kernel
theorem dX7_workOutComing_35 : decode cX7_workOutComing 35 = .ok (.iload_n 1, 1) := by decide +kernel
theorem dX7_workOutComing_36 : decode cX7_workOutComing 36 = .ok (.aload_n 0, 1) := by decide +kernel
theorem dX7_workOutComing_37 : decode cX7_workOutComing 37 = .ok (.getfield 72, 3) := by decide +kernel
theorem dX7_workOutComing_40 : decode cX7_workOutComing 40 = .ok (.getfield 241, 3) := by decide +kernel
theorem dX7_workOutComing_43 : decode cX7_workOutComing 43 = .ok (.iload 5, 2) := by decide +kernel
theorem dX7_workOutComing_45 : decode cX7_workOutComing 45 = .ok (.iconst 4, 1) := by decide +kernel
theorem dX7_workOutComing_46 : decode cX7_workOutComing 46 = .ok (.idiv, 1) := by decide +kernel
theorem dX7_workOutComing_47 : decode cX7_workOutComing 47 = .ok (.iadd, 1) := by decide +kernel
theorem dX7_workOutComing_48 : decode cX7_workOutComing 48 = .ok (.iastore, 1) := by decide +kernel
theorem dX7_workOutComing_49 : decode cX7_workOutComing 49 = .ok (.aload 4, 2) := by decide +kernel
theorem dX7_workOutComing_51 : decode cX7_workOutComing 51 = .ok (.getfield 161, 3) := by decide +kernel
theorem dX7_workOutComing_54 : decode cX7_workOutComing 54 = .ok (.iload_n 2, 1) := by decide +kernel
theorem dX7_workOutComing_55 : decode cX7_workOutComing 55 = .ok (.aload_n 0, 1) := by decide +kernel
theorem dX7_workOutComing_56 : decode cX7_workOutComing 56 = .ok (.getfield 72, 3) := by decide +kernel
theorem dX7_workOutComing_59 : decode cX7_workOutComing 59 = .ok (.getfield 241, 3) := by decide +kernel
theorem dX7_workOutComing_62 : decode cX7_workOutComing 62 = .ok (.iload 5, 2) := by decide +kernel
theorem dX7_workOutComing_64 : decode cX7_workOutComing 64 = .ok (.iconst 4, 1) := by decide +kernel
theorem dX7_workOutComing_65 : decode cX7_workOutComing 65 = .ok (.irem, 1) := by decide +kernel
theorem dX7_workOutComing_66 : decode cX7_workOutComing 66 = .ok (.iadd, 1) := by decide +kernel
theorem dX7_workOutComing_67 : decode cX7_workOutComing 67 = .ok (.iastore, 1) := by decide +kernel
theorem dX7_workOutComing_68 : decode cX7_workOutComing 68 = .ok (.aload 4, 2) := by decide +kernel
theorem dX7_workOutComing_70 : decode cX7_workOutComing 70 = .ok (.iload_n 3, 1) := by decide +kernel
theorem dX7_workOutComing_71 : decode cX7_workOutComing 71 = .ok (.invokevirtual 265, 3) := by decide +kernel
theorem dX7_workOutComing_74 : decode cX7_workOutComing 74 = .ok (.aload_n 0, 1) := by decide +kernel
theorem dX7_workOutComing_75 : decode cX7_workOutComing 75 = .ok (.getfield 44, 3) := by decide +kernel
theorem dX7_workOutComing_78 : decode cX7_workOutComing 78 = .ok (.iload 5, 2) := by decide +kernel
theorem dX7_workOutComing_80 : decode cX7_workOutComing 80 = .ok (.aload 4, 2) := by decide +kernel
theorem dX7_workOutComing_82 : decode cX7_workOutComing 82 = .ok (.getfield 167, 3) := by decide +kernel
theorem dX7_workOutComing_85 : decode cX7_workOutComing 85 = .ok (.iload_n 1, 1) := by decide +kernel
theorem dX7_workOutComing_86 : decode cX7_workOutComing 86 = .ok (.iaload, 1) := by decide +kernel
theorem dX7_workOutComing_87 : decode cX7_workOutComing 87 = .ok (.iastore, 1) := by decide +kernel
theorem dX7_workOutComing_88 : decode cX7_workOutComing 88 = .ok (.aload_n 0, 1) := by decide +kernel
theorem dX7_workOutComing_89 : decode cX7_workOutComing 89 = .ok (.getfield 47, 3) := by decide +kernel
theorem dX7_workOutComing_92 : decode cX7_workOutComing 92 = .ok (.iload 5, 2) := by decide +kernel
theorem dX7_workOutComing_94 : decode cX7_workOutComing 94 = .ok (.aload 4, 2) := by decide +kernel
theorem dX7_workOutComing_96 : decode cX7_workOutComing 96 = .ok (.getfield 167, 3) := by decide +kernel
theorem dX7_workOutComing_99 : decode cX7_workOutComing 99 = .ok (.iload_n 2, 1) := by decide +kernel
theorem dX7_workOutComing_100 : decode cX7_workOutComing 100 = .ok (.iaload, 1) := by decide +kernel
theorem dX7_workOutComing_101 : decode cX7_workOutComing 101 = .ok (.iastore, 1) := by decide +kernel
theorem dX7_workOutComing_102 : decode cX7_workOutComing 102 = .ok (.iinc 5 1, 3) := by decide +kernel
theorem dX7_workOutComing_105 : decode cX7_workOutComing 105 = .ok (.goto (-94), 3) := by decide +kernel
theorem dX7_workOutComing_108 : decode cX7_workOutComing 108 = .ok (.return_, 1) := by decide +kernel
theorem dX7_isRest_0 : decode cX7_isRest 0 = .ok (.iload_n 1, 1) := by decide +kernel
theorem dX7_isRest_1 : decode cX7_isRest 1 = .ok (.iconst 4, 1) := by decide +kernel
theorem dX7_isRest_2 : decode cX7_isRest 2 = .ok (.idiv, 1) := by decide +kernel
theorem dX7_isRest_3 : decode cX7_isRest 3 = .ok (.istore_n 2, 1) := by decide +kernel
theorem dX7_isRest_4 : decode cX7_isRest 4 = .ok (.iload_n 1, 1) := by decide +kernel
theorem dX7_isRest_5 : decode cX7_isRest 5 = .ok (.iconst 4, 1) := by decide +kernel
theorem dX7_isRest_6 : decode cX7_isRest 6 = .ok (.irem, 1) := by decide +kernel
theorem dX7_isRest_7 : decode cX7_isRest 7 = .ok (.istore_n 3, 1) := by decide +kernel
theorem dX7_isRest_8 : decode cX7_isRest 8 = .ok (.iconst 0, 1) := by decide +kernel
theorem dX7_isRest_9 : decode cX7_isRest 9 = .ok (.istore 4, 2) := by decide +kernel
theorem dX7_isRest_11 : decode cX7_isRest 11 = .ok (.iload 4, 2) := by decide +kernel
theorem dX7_isRest_13 : decode cX7_isRest 13 = .ok (.iconst 4, 1) := by decide +kernel
theorem dX7_isRest_14 : decode cX7_isRest 14 = .ok (.if_icmp .ge 51, 3) := by decide +kernel
theorem dX7_isRest_17 : decode cX7_isRest 17 = .ok (.aload_n 0, 1) := by decide +kernel
theorem dX7_isRest_18 : decode cX7_isRest 18 = .ok (.getfield 44, 3) := by decide +kernel
theorem dX7_isRest_21 : decode cX7_isRest 21 = .ok (.iload 4, 2) := by decide +kernel
theorem dX7_isRest_23 : decode cX7_isRest 23 = .ok (.iconst 4, 1) := by decide +kernel
theorem dX7_isRest_24 : decode cX7_isRest 24 = .ok (.imul, 1) := by decide +kernel
theorem dX7_isRest_25 : decode cX7_isRest 25 = .ok (.iload_n 3, 1) := by decide +kernel
theorem dX7_isRest_26 : decode cX7_isRest 26 = .ok (.iadd, 1) := by decide +kernel
theorem dX7_isRest_27 : decode cX7_isRest 27 = .ok (.iaload, 1) := by decide +kernel
theorem dX7_isRest_28 : decode cX7_isRest 28 = .ok (.aload_n 0, 1) := by decide +kernel
theorem dX7_isRest_29 : decode cX7_isRest 29 = .ok (.getfield 44, 3) := by decide +kernel
theorem dX7_isRest_32 : decode cX7_isRest 32 = .ok (.iload_n 1, 1) := by decide +kernel
theorem dX7_isRest_33 : decode cX7_isRest 33 = .ok (.iaload, 1) := by decide +kernel
theorem dX7_isRest_34 : decode cX7_isRest 34 = .ok (.if_icmp .gt 23, 3) := by decide +kernel
theorem dX7_isRest_37 : decode cX7_isRest 37 = .ok (.aload_n 0, 1) := by decide +kernel
theorem dX7_isRest_38 : decode cX7_isRest 38 = .ok (.getfield 47, 3) := by decide +kernel
theorem dX7_isRest_41 : decode cX7_isRest 41 = .ok (.iload_n 2, 1) := by decide +kernel
theorem dX7_isRest_42 : decode cX7_isRest 42 = .ok (.iconst 4, 1) := by decide +kernel
theorem dX7_isRest_43 : decode cX7_isRest 43 = .ok (.imul, 1) := by decide +kernel
theorem dX7_isRest_44 : decode cX7_isRest 44 = .ok (.iload 4, 2) := by decide +kernel
theorem dX7_isRest_46 : decode cX7_isRest 46 = .ok (.iadd, 1) := by decide +kernel
theorem dX7_isRest_47 : decode cX7_isRest 47 = .ok (.iaload, 1) := by decide +kernel
theorem dX7_isRest_48 : decode cX7_isRest 48 = .ok (.aload_n 0, 1) := by decide +kernel
theorem dX7_isRest_49 : decode cX7_isRest 49 = .ok (.getfield 47, 3) := by decide +kernel
theorem dX7_isRest_52 : decode cX7_isRest 52 = .ok (.iload_n 1, 1) := by decide +kernel
theorem dX7_isRest_53 : decode cX7_isRest 53 = .ok (.iaload, 1) := by decide +kernel
theorem dX7_isRest_54 : decode cX7_isRest 54 = .ok (.if_icmp .le 5, 3) := by decide +kernel
theorem dX7_isRest_57 : decode cX7_isRest 57 = .ok (.iconst 0, 1) := by decide +kernel
theorem dX7_isRest_58 : decode cX7_isRest 58 = .ok (.ireturn, 1) := by decide +kernel
theorem dX7_isRest_59 : decode cX7_isRest 59 = .ok (.iinc 4 1, 3) := by decide +kernel
theorem dX7_isRest_62 : decode cX7_isRest 62 = .ok (.goto (-51), 3) := by decide +kernel
theorem dX7_isRest_65 : decode cX7_isRest 65 = .ok (.iconst 1, 1) := by decide +kernel
theorem dX7_isRest_66 : decode cX7_isRest 66 = .ok (.ireturn, 1) := by decide +kernel
theorem dX7_rests_0 : decode cX7_rests 0 = .ok (.aload_n 0, 1) := by decide +kernel
theorem dX7_rests_1 : decode cX7_rests 1 = .ok (.iload_n 1, 1) := by decide +kernel
theorem dX7_rests_2 : decode cX7_rests 2 = .ok (.iload_n 2, 1) := by decide +kernel
theorem dX7_rests_3 : decode cX7_rests 3 = .ok (.iload_n 3, 1) := by decide +kernel
theorem dX7_rests_4 : decode cX7_rests 4 = .ok (.invokevirtual 291, 3) := by decide +kernel
theorem dX7_rests_7 : decode cX7_rests 7 = .ok (.ifCond .ne 5, 3) := by decide +kernel
theorem dX7_rests_10 : decode cX7_rests 10 = .ok (.iconst (-1), 1) := by decide +kernel
theorem dX7_rests_11 : decode cX7_rests 11 = .ok (.ireturn, 1) := by decide +kernel
theorem dX7_rests_12 : decode cX7_rests 12 = .ok (.aload_n 0, 1) := by decide +kernel
theorem dX7_rests_13 : decode cX7_rests 13 = .ok (.iload_n 1, 1) := by decide +kernel
theorem dX7_rests_14 : decode cX7_rests 14 = .ok (.iload_n 2, 1) := by decide +kernel
theorem dX7_rests_15 : decode cX7_rests 15 = .ok (.iload_n 3, 1) := by decide +kernel
theorem dX7_rests_16 : decode cX7_rests 16 = .ok (.invokevirtual 294, 3) := by decide +kernel
theorem dX7_rests_19 : decode cX7_rests 19 = .ok (.iconst 0, 1) := by decide +kernel
theorem dX7_rests_20 : decode cX7_rests 20 = .ok (.istore 4, 2) := by decide +kernel
theorem dX7_rests_22 : decode cX7_rests 22 = .ok (.iconst 0, 1) := by decide +kernel
theorem dX7_rests_23 : decode cX7_rests 23 = .ok (.istore 5, 2) := by decide +kernel
theorem dX7_rests_25 : decode cX7_rests 25 = .ok (.iload 5, 2) := by decide +kernel
theorem dX7_rests_27 : decode cX7_rests 27 = .ok (.aload_n 0, 1) := by decide +kernel
theorem dX7_rests_28 : decode cX7_rests 28 = .ok (.getfield 44, 3) := by decide +kernel
theorem dX7_rests_31 : decode cX7_rests 31 = .ok (.arraylength, 1) := by decide +kernel
theorem dX7_rests_32 : decode cX7_rests 32 = .ok (.if_icmp .ge 21, 3) := by decide +kernel
theorem dX7_rests_35 : decode cX7_rests 35 = .ok (.aload_n 0, 1) := by decide +kernel
theorem dX7_rests_36 : decode cX7_rests 36 = .ok (.iload 5, 2) := by decide +kernel
theorem dX7_rests_38 : decode cX7_rests 38 = .ok (.invokevirtual 297, 3) := by decide +kernel
theorem dX7_rests_41 : decode cX7_rests 41 = .ok (.ifCond .eq 6, 3) := by decide +kernel
theorem dX7_rests_44 : decode cX7_rests 44 = .ok (.iinc 4 1, 3) := by decide +kernel
theorem dX7_rests_47 : decode cX7_rests 47 = .ok (.iinc 5 1, 3) := by decide +kernel
theorem dX7_rests_50 : decode cX7_rests 50 = .ok (.goto (-25), 3) := by decide +kernel
theorem dX7_rests_53 : decode cX7_rests 53 = .ok (.iload 4, 2) := by decide +kernel
theorem dX7_rests_55 : decode cX7_rests 55 = .ok (.ireturn, 1) := by decide +kernel
theorem dX7_rest_0 : decode cX7_rest 0 = .ok (.aload_n 0, 1) := by decide +kernel
theorem dX7_rest_1 : decode cX7_rest 1 = .ok (.iload_n 1, 1) := by decide +kernel
theorem dX7_rest_2 : decode cX7_rest 2 = .ok (.iload_n 2, 1) := by decide +kernel
theorem dX7_rest_3 : decode cX7_rest 3 = .ok (.iload_n 3, 1) := by decide +kernel
theorem dX7_rest_4 : decode cX7_rest 4 = .ok (.invokevirtual 291, 3) := by decide +kernel
theorem dX7_rest_7 : decode cX7_rest 7 = .ok (.ifCond .eq 8, 3) := by decide +kernel
theorem dX7_rest_10 : decode cX7_rest 10 = .ok (.iload 4, 2) := by decide +kernel
theorem dX7_rest_12 : decode cX7_rest 12 = .ok (.ifCond .ge 5, 3) := by decide +kernel
theorem dX7_rest_15 : decode cX7_rest 15 = .ok (.iconst (-1), 1) := by decide +kernel
theorem dX7_rest_16 : decode cX7_rest 16 = .ok (.ireturn, 1) := by decide +kernel
theorem dX7_rest_17 : decode cX7_rest 17 = .ok (.aload_n 0, 1) := by decide +kernel
theorem dX7_rest_18 : decode cX7_rest 18 = .ok (.iload_n 1, 1) := by decide +kernel
theorem dX7_rest_19 : decode cX7_rest 19 = .ok (.iload_n 2, 1) := by decide +kernel
theorem dX7_rest_20 : decode cX7_rest 20 = .ok (.iload_n 3, 1) := by decide +kernel
theorem dX7_rest_21 : decode cX7_rest 21 = .ok (.invokevirtual 294, 3) := by decide +kernel
theorem dX7_rest_24 : decode cX7_rest 24 = .ok (.iconst 0, 1) := by decide +kernel
theorem dX7_rest_25 : decode cX7_rest 25 = .ok (.istore 5, 2) := by decide +kernel
theorem dX7_rest_27 : decode cX7_rest 27 = .ok (.iconst 0, 1) := by decide +kernel
theorem dX7_rest_28 : decode cX7_rest 28 = .ok (.istore 6, 2) := by decide +kernel
theorem dX7_rest_30 : decode cX7_rest 30 = .ok (.iload 6, 2) := by decide +kernel
theorem dX7_rest_32 : decode cX7_rest 32 = .ok (.aload_n 0, 1) := by decide +kernel
theorem dX7_rest_33 : decode cX7_rest 33 = .ok (.getfield 44, 3) := by decide +kernel
theorem dX7_rest_36 : decode cX7_rest 36 = .ok (.arraylength, 1) := by decide +kernel
theorem dX7_rest_37 : decode cX7_rest 37 = .ok (.if_icmp .ge 41, 3) := by decide +kernel
theorem dX7_rest_40 : decode cX7_rest 40 = .ok (.aload_n 0, 1) := by decide +kernel
theorem dX7_rest_41 : decode cX7_rest 41 = .ok (.iload 6, 2) := by decide +kernel
theorem dX7_rest_43 : decode cX7_rest 43 = .ok (.invokevirtual 297, 3) := by decide +kernel
theorem dX7_rest_46 : decode cX7_rest 46 = .ok (.ifCond .eq 26, 3) := by decide +kernel
theorem dX7_rest_49 : decode cX7_rest 49 = .ok (.iload 5, 2) := by decide +kernel
theorem dX7_rest_51 : decode cX7_rest 51 = .ok (.iload 4, 2) := by decide +kernel
theorem dX7_rest_53 : decode cX7_rest 53 = .ok (.if_icmp .ne 16, 3) := by decide +kernel
theorem dX7_rest_56 : decode cX7_rest 56 = .ok (.bipush 10, 2) := by decide +kernel
theorem dX7_rest_58 : decode cX7_rest 58 = .ok (.iload 6, 2) := by decide +kernel
theorem dX7_rest_60 : decode cX7_rest 60 = .ok (.iconst 4, 1) := by decide +kernel
theorem dX7_rest_61 : decode cX7_rest 61 = .ok (.idiv, 1) := by decide +kernel
theorem dX7_rest_62 : decode cX7_rest 62 = .ok (.imul, 1) := by decide +kernel
theorem dX7_rest_63 : decode cX7_rest 63 = .ok (.iload 6, 2) := by decide +kernel
theorem dX7_rest_65 : decode cX7_rest 65 = .ok (.iconst 4, 1) := by decide +kernel
theorem dX7_rest_66 : decode cX7_rest 66 = .ok (.irem, 1) := by decide +kernel
theorem dX7_rest_67 : decode cX7_rest 67 = .ok (.iadd, 1) := by decide +kernel
theorem dX7_rest_68 : decode cX7_rest 68 = .ok (.ireturn, 1) := by decide +kernel
theorem dX7_rest_69 : decode cX7_rest 69 = .ok (.iinc 5 1, 3) := by decide +kernel
theorem dX7_rest_72 : decode cX7_rest 72 = .ok (.iinc 6 1, 3) := by decide +kernel
theorem dX7_rest_75 : decode cX7_rest 75 = .ok (.goto (-45), 3) := by decide +kernel
theorem dX7_rest_78 : decode cX7_rest 78 = .ok (.bipush (-2), 2) := by decide +kernel
theorem dX7_rest_80 : decode cX7_rest 80 = .ok (.ireturn, 1) := by decide +kernel
theorem dX7_unlike_0 : decode cX7_unlike 0 = .ok (.aload_n 0, 1) := by decide +kernel
theorem dX7_unlike_1 : decode cX7_unlike 1 = .ok (.getfield 72, 3) := by decide +kernel
theorem dX7_unlike_4 : decode cX7_unlike 4 = .ok (.invokevirtual 300, 3) := by decide +kernel
theorem dX7_unlike_7 : decode cX7_unlike 7 = .ok (.ireturn, 1) := by decide +kernel
theorem dX7_findSwap_0 : decode cX7_findSwap 0 = .ok (.aload_n 0, 1) := by decide +kernel
theorem dX7_findSwap_1 : decode cX7_findSwap 1 = .ok (.getfield 78, 3) := by decide +kernel
theorem dX7_findSwap_4 : decode cX7_findSwap 4 = .ok (.iconst 0, 1) := by decide +kernel
theorem dX7_findSwap_5 : decode cX7_findSwap 5 = .ok (.aaload, 1) := by decide +kernel
theorem dX7_findSwap_6 : decode cX7_findSwap 6 = .ok (.astore_n 1, 1) := by decide +kernel
theorem dX7_findSwap_7 : decode cX7_findSwap 7 = .ok (.aload_n 1, 1) := by decide +kernel
theorem dX7_findSwap_8 : decode cX7_findSwap 8 = .ok (.aload_n 0, 1) := by decide +kernel
theorem dX7_findSwap_9 : decode cX7_findSwap 9 = .ok (.getfield 72, 3) := by decide +kernel
theorem dX7_findSwap_12 : decode cX7_findSwap 12 = .ok (.invokevirtual 109, 3) := by decide +kernel
theorem dX7_findSwap_15 : decode cX7_findSwap 15 = .ok (.aload_n 0, 1) := by decide +kernel
theorem dX7_findSwap_16 : decode cX7_findSwap 16 = .ok (.getfield 72, 3) := by decide +kernel
theorem dX7_findSwap_19 : decode cX7_findSwap 19 = .ok (.invokevirtual 300, 3) := by decide +kernel
theorem dX7_findSwap_22 : decode cX7_findSwap 22 = .ok (.istore_n 2, 1) := by decide +kernel
theorem dX7_findSwap_23 : decode cX7_findSwap 23 = .ok (.iconst 0, 1) := by decide +kernel
theorem dX7_findSwap_24 : decode cX7_findSwap 24 = .ok (.istore_n 3, 1) := by decide +kernel
theorem dX7_findSwap_25 : decode cX7_findSwap 25 = .ok (.iconst 0, 1) := by decide +kernel
theorem dX7_findSwap_26 : decode cX7_findSwap 26 = .ok (.istore 4, 2) := by decide +kernel
theorem dX7_findSwap_28 : decode cX7_findSwap 28 = .ok (.iload 4, 2) := by decide +kernel
theorem dX7_findSwap_30 : decode cX7_findSwap 30 = .ok (.aload_n 0, 1) := by decide +kernel
theorem dX7_findSwap_31 : decode cX7_findSwap 31 = .ok (.getfield 56, 3) := by decide +kernel
theorem dX7_findSwap_34 : decode cX7_findSwap 34 = .ok (.getfield 307, 3) := by decide +kernel
theorem dX7_findSwap_37 : decode cX7_findSwap 37 = .ok (.if_icmp .ge 142, 3) := by decide +kernel
theorem dX7_findSwap_40 : decode cX7_findSwap 40 = .ok (.iload 4, 2) := by decide +kernel
theorem dX7_findSwap_42 : decode cX7_findSwap 42 = .ok (.iconst 1, 1) := by decide +kernel
theorem dX7_findSwap_43 : decode cX7_findSwap 43 = .ok (.iadd, 1) := by decide +kernel
theorem dX7_findSwap_44 : decode cX7_findSwap 44 = .ok (.istore 5, 2) := by decide +kernel
theorem dX7_findSwap_46 : decode cX7_findSwap 46 = .ok (.iload 5, 2) := by decide +kernel
theorem dX7_findSwap_48 : decode cX7_findSwap 48 = .ok (.aload_n 0, 1) := by decide +kernel
theorem dX7_findSwap_49 : decode cX7_findSwap 49 = .ok (.getfield 56, 3) := by decide +kernel
theorem dX7_findSwap_52 : decode cX7_findSwap 52 = .ok (.getfield 307, 3) := by decide +kernel
theorem dX7_findSwap_55 : decode cX7_findSwap 55 = .ok (.if_icmp .ge 118, 3) := by decide +kernel
theorem dX7_findSwap_58 : decode cX7_findSwap 58 = .ok (.aload_n 1, 1) := by decide +kernel
theorem dX7_findSwap_59 : decode cX7_findSwap 59 = .ok (.getfield 149, 3) := by decide +kernel
theorem dX7_findSwap_62 : decode cX7_findSwap 62 = .ok (.iload 4, 2) := by decide +kernel
theorem dX7_findSwap_64 : decode cX7_findSwap 64 = .ok (.aload_n 0, 1) := by decide +kernel
theorem dX7_findSwap_65 : decode cX7_findSwap 65 = .ok (.getfield 72, 3) := by decide +kernel
theorem dX7_findSwap_68 : decode cX7_findSwap 68 = .ok (.getfield 149, 3) := by decide +kernel
theorem dX7_findSwap_71 : decode cX7_findSwap 71 = .ok (.iload 5, 2) := by decide +kernel
theorem dX7_findSwap_73 : decode cX7_findSwap 73 = .ok (.iaload, 1) := by decide +kernel
theorem dX7_findSwap_74 : decode cX7_findSwap 74 = .ok (.iastore, 1) := by decide +kernel
theorem dX7_findSwap_75 : decode cX7_findSwap 75 = .ok (.aload_n 1, 1) := by decide +kernel
theorem dX7_findSwap_76 : decode cX7_findSwap 76 = .ok (.getfield 149, 3) := by decide +kernel
theorem dX7_findSwap_79 : decode cX7_findSwap 79 = .ok (.iload 5, 2) := by decide +kernel
theorem dX7_findSwap_81 : decode cX7_findSwap 81 = .ok (.aload_n 0, 1) := by decide +kernel
theorem dX7_findSwap_82 : decode cX7_findSwap 82 = .ok (.getfield 72, 3) := by decide +kernel
theorem dX7_findSwap_85 : decode cX7_findSwap 85 = .ok (.getfield 149, 3) := by decide +kernel
theorem dX7_findSwap_88 : decode cX7_findSwap 88 = .ok (.iload 4, 2) := by decide +kernel
theorem dX7_findSwap_90 : decode cX7_findSwap 90 = .ok (.iaload, 1) := by decide +kernel
theorem dX7_findSwap_91 : decode cX7_findSwap 91 = .ok (.iastore, 1) := by decide +kernel
theorem dX7_findSwap_92 : decode cX7_findSwap 92 = .ok (.aload_n 1, 1) := by decide +kernel
theorem dX7_findSwap_93 : decode cX7_findSwap 93 = .ok (.invokevirtual 300, 3) := by decide +kernel
theorem dX7_findSwap_96 : decode cX7_findSwap 96 = .ok (.istore 6, 2) := by decide +kernel
theorem dX7_findSwap_98 : decode cX7_findSwap 98 = .ok (.aload_n 1, 1) := by decide +kernel
theorem dX7_findSwap_99 : decode cX7_findSwap 99 = .ok (.getfield 149, 3) := by decide +kernel
theorem dX7_findSwap_102 : decode cX7_findSwap 102 = .ok (.iload 4, 2) := by decide +kernel
theorem dX7_findSwap_104 : decode cX7_findSwap 104 = .ok (.aload_n 0, 1) := by decide +kernel
theorem dX7_findSwap_105 : decode cX7_findSwap 105 = .ok (.getfield 72, 3) := by decide +kernel
theorem dX7_findSwap_108 : decode cX7_findSwap 108 = .ok (.getfield 149, 3) := by decide +kernel
theorem dX7_findSwap_111 : decode cX7_findSwap 111 = .ok (.iload 4, 2) := by decide +kernel
theorem dX7_findSwap_113 : decode cX7_findSwap 113 = .ok (.iaload, 1) := by decide +kernel
theorem dX7_findSwap_114 : decode cX7_findSwap 114 = .ok (.iastore, 1) := by decide +kernel
theorem dX7_findSwap_115 : decode cX7_findSwap 115 = .ok (.aload_n 1, 1) := by decide +kernel
theorem dX7_findSwap_116 : decode cX7_findSwap 116 = .ok (.getfield 149, 3) := by decide +kernel
theorem dX7_findSwap_119 : decode cX7_findSwap 119 = .ok (.iload 5, 2) := by decide +kernel
theorem dX7_findSwap_121 : decode cX7_findSwap 121 = .ok (.aload_n 0, 1) := by decide +kernel
theorem dX7_findSwap_122 : decode cX7_findSwap 122 = .ok (.getfield 72, 3) := by decide +kernel
theorem dX7_findSwap_125 : decode cX7_findSwap 125 = .ok (.getfield 149, 3) := by decide +kernel
theorem dX7_findSwap_128 : decode cX7_findSwap 128 = .ok (.iload 5, 2) := by decide +kernel
theorem dX7_findSwap_130 : decode cX7_findSwap 130 = .ok (.iaload, 1) := by decide +kernel
theorem dX7_findSwap_131 : decode cX7_findSwap 131 = .ok (.iastore, 1) := by decide +kernel
theorem dX7_findSwap_132 : decode cX7_findSwap 132 = .ok (.iload 6, 2) := by decide +kernel
theorem dX7_findSwap_134 : decode cX7_findSwap 134 = .ok (.iload_n 2, 1) := by decide +kernel
theorem dX7_findSwap_135 : decode cX7_findSwap 135 = .ok (.if_icmp .ge 32, 3) := by decide +kernel
theorem dX7_findSwap_138 : decode cX7_findSwap 138 = .ok (.iload 6, 2) := by decide +kernel
theorem dX7_findSwap_140 : decode cX7_findSwap 140 = .ok (.istore_n 2, 1) := by decide +kernel
theorem dX7_findSwap_141 : decode cX7_findSwap 141 = .ok (.iconst 1, 1) := by decide +kernel
theorem dX7_findSwap_142 : decode cX7_findSwap 142 = .ok (.istore_n 3, 1) := by decide +kernel
theorem dX7_findSwap_143 : decode cX7_findSwap 143 = .ok (.aload_n 0, 1) := by decide +kernel
theorem dX7_findSwap_144 : decode cX7_findSwap 144 = .ok (.getfield 50, 3) := by decide +kernel
theorem dX7_findSwap_147 : decode cX7_findSwap 147 = .ok (.iconst 0, 1) := by decide +kernel
theorem dX7_findSwap_148 : decode cX7_findSwap 148 = .ok (.iload 4, 2) := by decide +kernel
theorem dX7_findSwap_150 : decode cX7_findSwap 150 = .ok (.iastore, 1) := by decide +kernel
theorem dX7_findSwap_151 : decode cX7_findSwap 151 = .ok (.aload_n 0, 1) := by decide +kernel
theorem dX7_findSwap_152 : decode cX7_findSwap 152 = .ok (.getfield 50, 3) := by decide +kernel
theorem dX7_findSwap_155 : decode cX7_findSwap 155 = .ok (.iconst 1, 1) := by decide +kernel
theorem dX7_findSwap_156 : decode cX7_findSwap 156 = .ok (.iload 5, 2) := by decide +kernel
theorem dX7_findSwap_158 : decode cX7_findSwap 158 = .ok (.iastore, 1) := by decide +kernel
theorem dX7_findSwap_159 : decode cX7_findSwap 159 = .ok (.aload_n 0, 1) := by decide +kernel
theorem dX7_findSwap_160 : decode cX7_findSwap 160 = .ok (.getfield 50, 3) := by decide +kernel
theorem dX7_findSwap_163 : decode cX7_findSwap 163 = .ok (.iconst 2, 1) := by decide +kernel
theorem dX7_findSwap_164 : decode cX7_findSwap 164 = .ok (.iload 6, 2) := by decide +kernel
theorem dX7_findSwap_166 : decode cX7_findSwap 166 = .ok (.iastore, 1) := by decide +kernel
theorem dX7_findSwap_167 : decode cX7_findSwap 167 = .ok (.iinc 5 1, 3) := by decide +kernel
theorem dX7_findSwap_170 : decode cX7_findSwap 170 = .ok (.goto (-124), 3) := by decide +kernel
theorem dX7_findSwap_173 : decode cX7_findSwap 173 = .ok (.iinc 4 1, 3) := by decide +kernel
theorem dX7_findSwap_176 : decode cX7_findSwap 176 = .ok (.goto (-148), 3) := by decide +kernel
theorem dX7_findSwap_179 : decode cX7_findSwap 179 = .ok (.iload_n 3, 1) := by decide +kernel
theorem dX7_findSwap_180 : decode cX7_findSwap 180 = .ok (.ireturn, 1) := by decide +kernel
def f_X7_plan (N : Nat) (h : Hp) (p1 : Int32) (p2 : Int32) : Option (Int32 × Hp) :=
  (f_X7_isCroft h p1).bind fun v1 =>
  jn (fun (v2 : Int32) (h3 : Hp) =>
    some (v2, h3)) fun (j28 : Int32 → Hp → Option (Int32 × Hp)) =>
  jn (
    j28 (-1) h) fun (j27 : Option (Int32 × Hp)) =>
  if (b2i v1) = 0 then
    j27
  else
  (f_X7_isIn p2 1 6).bind fun v4 =>
  if (b2i v4) = 0 then
    j27
  else
  bd2 (f_X7_planFor N h p1 p2) fun v6 h5 =>
  j28 v6 h5
abbrev rmX7_plan : Room := { frames := 6, cells := 0, slots := 0, locals := 154 }
set_option maxRecDepth 100000 in
set_option maxHeartbeats 4000000 in
theorem w_X7_plan (X : Cx) (F : Fx X cX7_plan RX7 (some .int) rmX7_plan) (hA : xA X = Aw (xG X)) (hL : xL X = 3) (N : Nat) (h : Hp) (p1 : Int32) (p2 : Int32) : Wm X (fun v => some (.int v.1)) (fun v => v.2) (fun _ => True) 0 [(0, .ref (adr (xG X) 7 0 0)), (1, .int p1), (2, .int p2)] [] h (f_X7_plan N h p1 p2) := by
  have hS : ∀ i : Nat, i < 3 → i < xL X := fun i z => by rw [hL]; exact z
  unfold f_X7_plan
  refine r_aload_n F 0 rfl dX7_plan_0 rfl ?_
  refine r_iload_n F 1 rfl dX7_plan_1 rfl ?_
  refine k_zP (run_V F cvX7_152 (by decide) (c_X7_isCroft (xG X) _ h p1) rfl rfl ⟨⟨rfl, rfl⟩, Nat.le_of_ble_eq_true rfl, Nat.le_of_ble_eq_true rfl⟩ (Nat.le_of_ble_eq_true rfl) dX7_plan_2) fun v1 _ => ?_
  refine Wt_jn (fun (j28 : Int32 → Hp → Option (Int32 × Hp)) => ∀ v2 : Int32, ∀ h3 : Hp, Wm X (fun v => some (.int v.1)) (fun v => v.2) (fun _ => True) 28 [] [.int v2] h3 (j28 v2 h3)) ?_ fun j28 hj28 => ?_
  · intro v2 h3
    exact r_iret F hA rfl rfl trivial dX7_plan_28
  refine Wt_jn (fun (j27 : Option (Int32 × Hp)) => Wm X (fun v => some (.int v.1)) (fun v => v.2) (fun _ => True) 27 [] [] h (j27)) ?_ fun j27 hj27 => ?_
  · skip
    refine r_iconst F (v := (-1)) dX7_plan_27 (by decide) ?_
    exact Wt_pick [] rfl (hj28 (-1) h)
  refine r_ifeq F (tgt := 27) dX7_plan_5 (by decide) ?_ ?_
  · skip
    exact Wt_pick [] rfl (hj27)
  refine r_iload_n F 2 rfl dX7_plan_8 rfl ?_
  refine r_iconst F (v := 1) dX7_plan_9 (by decide) ?_
  refine r_bipush F (v := 6) dX7_plan_10 (by decide) ?_
  refine k_zP (run_S F csX7_247 (c_X7_isIn (xG X) _ h p2 1 6) rfl rfl ⟨⟨rfl, rfl⟩, Nat.le_of_ble_eq_true rfl, Nat.le_of_ble_eq_true rfl⟩ (Nat.le_of_ble_eq_true rfl) dX7_plan_12) fun v4 _ => ?_
  refine r_ifeq F (tgt := 27) dX7_plan_15 (by decide) ?_ ?_
  · skip
    exact Wt_pick [] rfl (hj27)
  refine r_aload_n F 0 rfl dX7_plan_18 rfl ?_
  refine r_iload_n F 1 rfl dX7_plan_19 rfl ?_
  refine r_iload_n F 2 rfl dX7_plan_20 rfl ?_
  refine k_iH (run_V F cvX7_268 (by decide) (c_X7_planFor (xG X) _ N h p1 p2) rfl rfl ⟨⟨rfl, rfl⟩, Nat.le_of_ble_eq_true rfl, Nat.le_of_ble_eq_true rfl⟩ (Nat.le_of_ble_eq_true rfl) dX7_plan_21) fun v6 h5 => ?_
  refine r_goto F (tgt := 28) dX7_plan_24 (by decide) ?_
  exact Wt_pick [] rfl (hj28 v6 h5)
theorem c_X7_plan (G : Gx) (l : Launch) (N : Nat) (h : Hp) (p1 : Int32) (p2 : Int32) : Ctr G l yX7_plan (.code yX7_plan cX7_plan 3 (some .int) :: GT) rmX7_plan [.ref (adr G 7 0 0), .int p1, .int p2] h (f_X7_plan N h p1 p2) (fun v => some (.int v.1)) (fun v => v.2) (fun _ => True) :=
  ctr_of (by decide) (Nat.le_of_ble_eq_true rfl) ⟨rfl, rfl⟩ fun X _ e2 hA hL F => by subst e2; exact w_X7_plan X F hA hL N h p1 p2
def f_X7_planned (N : Nat) (h : Hp) (p1 : Int32) (p2 : Int32) (p3 : Int32) : Option (Int32 × Hp) :=
  (f_X7_isCroft h p1).bind fun v1 =>
  jn (
    some ((-1), h)) fun (j22 : Option (Int32 × Hp)) =>
  if (b2i v1) = 0 then
    j22
  else
  (f_X7_isIn p2 1 6).bind fun v2 =>
  if (b2i v2) = 0 then
    j22
  else
  if 0 ≤ p3 then
    if p3 < p2 then
      bd2 (f_X7_planFor N h p1 p2) fun v4 h3 =>
      grd (inb p3 6) <|
      some ((gA h3 7 0 1 p3.toNatClampNeg), h3)
    else
    some ((-2), h)
  else
  j22
abbrev rmX7_planned : Room := { frames := 6, cells := 0, slots := 0, locals := 154 }
set_option maxRecDepth 100000 in
set_option maxHeartbeats 4000000 in
theorem w_X7_planned (X : Cx) (F : Fx X cX7_planned RX7 (some .int) rmX7_planned) (hA : xA X = Aw (xG X)) (hL : xL X = 4) (N : Nat) (h : Hp) (p1 : Int32) (p2 : Int32) (p3 : Int32) : Wm X (fun v => some (.int v.1)) (fun v => v.2) (fun _ => True) 0 [(0, .ref (adr (xG X) 7 0 0)), (1, .int p1), (2, .int p2), (3, .int p3)] [] h (f_X7_planned N h p1 p2 p3) := by
  have hS : ∀ i : Nat, i < 4 → i < xL X := fun i z => by rw [hL]; exact z
  unfold f_X7_planned
  refine r_aload_n F 0 rfl dX7_planned_0 rfl ?_
  refine r_iload_n F 1 rfl dX7_planned_1 rfl ?_
  refine k_zP (run_V F cvX7_152 (by decide) (c_X7_isCroft (xG X) _ h p1) rfl rfl ⟨⟨rfl, rfl⟩, Nat.le_of_ble_eq_true rfl, Nat.le_of_ble_eq_true rfl⟩ (Nat.le_of_ble_eq_true rfl) dX7_planned_2) fun v1 _ => ?_
  refine Wt_jn (fun (j22 : Option (Int32 × Hp)) => Wm X (fun v => some (.int v.1)) (fun v => v.2) (fun _ => True) 22 [] [] h (j22)) ?_ fun j22 hj22 => ?_
  · skip
    refine r_iconst F (v := (-1)) dX7_planned_22 (by decide) ?_
    exact r_iret F hA rfl rfl trivial dX7_planned_23
  refine r_ifeq F (tgt := 22) dX7_planned_5 (by decide) ?_ ?_
  · skip
    exact Wt_pick [] rfl (hj22)
  refine r_iload_n F 2 rfl dX7_planned_8 rfl ?_
  refine r_iconst F (v := 1) dX7_planned_9 (by decide) ?_
  refine r_bipush F (v := 6) dX7_planned_10 (by decide) ?_
  refine k_zP (run_S F csX7_247 (c_X7_isIn (xG X) _ h p2 1 6) rfl rfl ⟨⟨rfl, rfl⟩, Nat.le_of_ble_eq_true rfl, Nat.le_of_ble_eq_true rfl⟩ (Nat.le_of_ble_eq_true rfl) dX7_planned_12) fun v2 _ => ?_
  refine r_ifeq F (tgt := 22) dX7_planned_15 (by decide) ?_ ?_
  · skip
    exact Wt_pick [] rfl (hj22)
  refine r_iload_n F 3 rfl dX7_planned_18 rfl ?_
  refine r_ifge F (tgt := 24) dX7_planned_19 (by decide) ?_ ?_
  · skip
    refine r_iload_n F 3 rfl dX7_planned_24 rfl ?_
    refine r_iload_n F 2 rfl dX7_planned_25 rfl ?_
    refine r_icmplt F (tgt := 32) dX7_planned_26 (by decide) ?_ ?_
    · skip
      refine r_aload_n F 0 rfl dX7_planned_32 rfl ?_
      refine r_iload_n F 1 rfl dX7_planned_33 rfl ?_
      refine r_iload_n F 2 rfl dX7_planned_34 rfl ?_
      refine k_iH (run_V F cvX7_268 (by decide) (c_X7_planFor (xG X) _ N h p1 p2) rfl rfl ⟨⟨rfl, rfl⟩, Nat.le_of_ble_eq_true rfl, Nat.le_of_ble_eq_true rfl⟩ (Nat.le_of_ble_eq_true rfl) dX7_planned_35) fun v4 h3 => ?_
      refine r_pop F rfl dX7_planned_38 ?_
      refine r_aload_n F 0 rfl dX7_planned_39 rfl ?_
      refine r_getA F frX7_41 (by decide) dX7_planned_40 ?_
      refine r_iload_n F 3 rfl dX7_planned_43 rfl ?_
      refine r_iaload F (ar_7_1 0 (by decide)) dX7_planned_44 ?_
      exact r_iret F hA rfl rfl trivial dX7_planned_45
    refine r_bipush F (v := (-2)) dX7_planned_29 (by decide) ?_
    exact r_iret F hA rfl rfl trivial dX7_planned_31
  exact Wt_pick [] rfl (hj22)
theorem c_X7_planned (G : Gx) (l : Launch) (N : Nat) (h : Hp) (p1 : Int32) (p2 : Int32) (p3 : Int32) : Ctr G l yX7_planned (.code yX7_planned cX7_planned 4 (some .int) :: GT) rmX7_planned [.ref (adr G 7 0 0), .int p1, .int p2, .int p3] h (f_X7_planned N h p1 p2 p3) (fun v => some (.int v.1)) (fun v => v.2) (fun _ => True) :=
  ctr_of (by decide) (Nat.le_of_ble_eq_true rfl) ⟨rfl, rfl⟩ fun X _ e2 hA hL F => by subst e2; exact w_X7_planned X F hA hL N h p1 p2 p3
def f_X7_mayCome (h : Hp) (p1 : Int32) (p2 : Int32) (p3 : Int32) : Option Bool :=
  (f_X7_isCroft h p1).bind fun v1 =>
  jn (fun (v2 : Bool) =>
    some v2) fun (j74 : Bool → Option Bool) =>
  jn (
    j74 false) fun (j73 : Option Bool) =>
  if (b2i v1) = 0 then
    j73
  else
  (f_X7_isCroft h p2).bind fun v3 =>
  if (b2i v3) = 0 then
    j73
  else
  if p1 = p2 then
    j73
  else
  (f_X7_isIn p3 1 99).bind fun v4 =>
  if (b2i v4) = 0 then
    j73
  else
  grd (inb p1 4) <|
  if (gA h 3 1 4 p1.toNatClampNeg) ≤ (gI h 3 1 11) then
    j73
  else
  grd (inb p2 4) <|
  if (gA h 3 1 4 p2.toNatClampNeg) ≤ (gI h 3 1 11) then
    j73
  else
  j74 true
abbrev rmX7_mayCome : Room := { frames := 1, cells := 0, slots := 0, locals := 22 }
set_option maxRecDepth 100000 in
set_option maxHeartbeats 4000000 in
theorem w_X7_mayCome (X : Cx) (F : Fx X cX7_mayCome RX7 (some .boolean) rmX7_mayCome) (hA : xA X = Aw (xG X)) (hL : xL X = 4) (h : Hp) (p1 : Int32) (p2 : Int32) (p3 : Int32) : Wm X (fun v => some (.int (b2i v))) (fun _ => h) (fun _ => True) 0 [(0, .ref (adr (xG X) 7 0 0)), (1, .int p1), (2, .int p2), (3, .int p3)] [] h (f_X7_mayCome h p1 p2 p3) := by
  have hS : ∀ i : Nat, i < 4 → i < xL X := fun i z => by rw [hL]; exact z
  unfold f_X7_mayCome
  refine r_aload_n F 0 rfl dX7_mayCome_0 rfl ?_
  refine r_iload_n F 1 rfl dX7_mayCome_1 rfl ?_
  refine k_zP (run_V F cvX7_152 (by decide) (c_X7_isCroft (xG X) _ h p1) rfl rfl ⟨⟨rfl, rfl⟩, Nat.le_of_ble_eq_true rfl, Nat.le_of_ble_eq_true rfl⟩ (Nat.le_of_ble_eq_true rfl) dX7_mayCome_2) fun v1 _ => ?_
  refine Wt_jn (fun (j74 : Bool → Option Bool) => ∀ v2 : Bool, Wm X (fun v => some (.int (b2i v))) (fun _ => h) (fun _ => True) 74 [] [.int (b2i v2)] h (j74 v2)) ?_ fun j74 hj74 => ?_
  · intro v2
    exact r_zret F hA v2 rfl rfl rfl trivial dX7_mayCome_74
  refine Wt_jn (fun (j73 : Option Bool) => Wm X (fun v => some (.int (b2i v))) (fun _ => h) (fun _ => True) 73 [] [] h (j73)) ?_ fun j73 hj73 => ?_
  · skip
    refine r_iconst F (v := 0) dX7_mayCome_73 (by decide) ?_
    exact Wt_pick [] rfl (hj74 false)
  refine r_ifeq F (tgt := 73) dX7_mayCome_5 (by decide) ?_ ?_
  · skip
    exact Wt_pick [] rfl (hj73)
  refine r_aload_n F 0 rfl dX7_mayCome_8 rfl ?_
  refine r_iload_n F 2 rfl dX7_mayCome_9 rfl ?_
  refine k_zP (run_V F cvX7_152 (by decide) (c_X7_isCroft (xG X) _ h p2) rfl rfl ⟨⟨rfl, rfl⟩, Nat.le_of_ble_eq_true rfl, Nat.le_of_ble_eq_true rfl⟩ (Nat.le_of_ble_eq_true rfl) dX7_mayCome_10) fun v3 _ => ?_
  refine r_ifeq F (tgt := 73) dX7_mayCome_13 (by decide) ?_ ?_
  · skip
    exact Wt_pick [] rfl (hj73)
  refine r_iload_n F 1 rfl dX7_mayCome_16 rfl ?_
  refine r_iload_n F 2 rfl dX7_mayCome_17 rfl ?_
  refine r_icmpeq F (tgt := 73) dX7_mayCome_18 (by decide) ?_ ?_
  · skip
    exact Wt_pick [] rfl (hj73)
  refine r_iload_n F 3 rfl dX7_mayCome_21 rfl ?_
  refine r_iconst F (v := 1) dX7_mayCome_22 (by decide) ?_
  refine r_bipush F (v := 99) dX7_mayCome_23 (by decide) ?_
  refine k_zP (run_S F csX7_247 (c_X7_isIn (xG X) _ h p3 1 99) rfl rfl ⟨⟨rfl, rfl⟩, Nat.le_of_ble_eq_true rfl, Nat.le_of_ble_eq_true rfl⟩ (Nat.le_of_ble_eq_true rfl) dX7_mayCome_25) fun v4 _ => ?_
  refine r_ifeq F (tgt := 73) dX7_mayCome_28 (by decide) ?_ ?_
  · skip
    exact Wt_pick [] rfl (hj73)
  refine r_aload_n F 0 rfl dX7_mayCome_31 rfl ?_
  refine r_getS F frX7_72 (by decide) 1 rfl dX7_mayCome_32 ?_
  refine r_getA F frX7_161 (by decide) dX7_mayCome_35 ?_
  refine r_iload_n F 1 rfl dX7_mayCome_38 rfl ?_
  refine r_iaload F (ar_3_4 1 (by decide)) dX7_mayCome_39 ?_
  refine r_aload_n F 0 rfl dX7_mayCome_40 rfl ?_
  refine r_getS F frX7_72 (by decide) 1 rfl dX7_mayCome_41 ?_
  refine r_getI F frX7_241 (by decide) dX7_mayCome_44 ?_
  refine r_icmple F (tgt := 73) dX7_mayCome_47 (by decide) ?_ ?_
  · skip
    exact Wt_pick [] rfl (hj73)
  refine r_aload_n F 0 rfl dX7_mayCome_50 rfl ?_
  refine r_getS F frX7_72 (by decide) 1 rfl dX7_mayCome_51 ?_
  refine r_getA F frX7_161 (by decide) dX7_mayCome_54 ?_
  refine r_iload_n F 2 rfl dX7_mayCome_57 rfl ?_
  refine r_iaload F (ar_3_4 1 (by decide)) dX7_mayCome_58 ?_
  refine r_aload_n F 0 rfl dX7_mayCome_59 rfl ?_
  refine r_getS F frX7_72 (by decide) 1 rfl dX7_mayCome_60 ?_
  refine r_getI F frX7_241 (by decide) dX7_mayCome_63 ?_
  refine r_icmple F (tgt := 73) dX7_mayCome_66 (by decide) ?_ ?_
  · skip
    exact Wt_pick [] rfl (hj73)
  refine r_iconst F (v := 1) dX7_mayCome_69 (by decide) ?_
  refine r_goto F (tgt := 74) dX7_mayCome_70 (by decide) ?_
  exact Wt_pick [] rfl (hj74 true)
theorem c_X7_mayCome (G : Gx) (l : Launch) (h : Hp) (p1 : Int32) (p2 : Int32) (p3 : Int32) : Ctr G l yX7_mayCome (.code yX7_mayCome cX7_mayCome 4 (some .boolean) :: GT) rmX7_mayCome [.ref (adr G 7 0 0), .int p1, .int p2, .int p3] h (f_X7_mayCome h p1 p2 p3) (fun v => some (.int (b2i v))) (fun _ => h) (fun _ => True) :=
  ctr_of (by decide) (Nat.le_of_ble_eq_true rfl) ⟨rfl, rfl⟩ fun X _ e2 hA hL F => by subst e2; exact w_X7_mayCome X F hA hL h p1 p2 p3
def f_X7_workOutComing_11 (N : Nat) (p1 : Int32) (p2 : Int32) (p3 : Int32) (o1 : Nat) (r11 : Int32 → Hp → Option Hp) (v2 : Int32) (h3 : Hp) : Option Hp :=
  if 16 ≤ v2 then
    some h3
  else
  (f_X3_copy h3 o1 1).bind fun h4 =>
  grd (inb p1 4) <| lt_ (sA h4 3 o1 4 p1.toNatClampNeg ((gI h4 3 1 11) + (v2 / 4))) fun h5 =>
  grd (inb p2 4) <| lt_ (sA h5 3 o1 4 p2.toNatClampNeg ((gI h5 3 1 11) + (v2 - v2 / 4 * 4))) fun h6 =>
  (f_X3_passHours N h6 o1 p3).bind fun h7 =>
  grd (inb p1 4) <|
  grd (inb v2 16) <| lt_ (sA h7 7 0 2 v2.toNatClampNeg (gA h7 3 o1 6 p1.toNatClampNeg)) fun h8 =>
  grd (inb p2 4) <|
  grd (inb v2 16) <| lt_ (sA h8 7 0 3 v2.toNatClampNeg (gA h8 3 o1 6 p2.toNatClampNeg)) fun h9 =>
  lt_ (v2 + 1) fun v10 =>
  r11 v10 h9
def f_X7_workOutComing (N : Nat) (h : Hp) (p1 : Int32) (p2 : Int32) (p3 : Int32) : Option Hp :=
  grd (inb 0 7) <| lt_ (3 + (0 : Int32).toNatClampNeg) fun o1 =>
  iter (fun _ _ => none) (f_X7_workOutComing_11 N p1 p2 p3 o1) N 0 h
abbrev rmX7_workOutComing : Room := { frames := 6, cells := 0, slots := 0, locals := 148 }
set_option maxRecDepth 100000 in
set_option maxHeartbeats 4000000 in
theorem w_X7_workOutComing (X : Cx) (F : Fx X cX7_workOutComing RX7 none rmX7_workOutComing) (hA : xA X = Aw (xG X)) (hL : xL X = 6) (N : Nat) (h : Hp) (p1 : Int32) (p2 : Int32) (p3 : Int32) : Wm X (fun _ => none) (fun v => v) (fun _ => True) 0 [(0, .ref (adr (xG X) 7 0 0)), (1, .int p1), (2, .int p2), (3, .int p3)] [] h (f_X7_workOutComing N h p1 p2 p3) := by
  have hS : ∀ i : Nat, i < 6 → i < xL X := fun i z => by rw [hL]; exact z
  unfold f_X7_workOutComing
  refine r_aload_n F 0 rfl dX7_workOutComing_0 rfl ?_
  refine r_getA F frX7_78 (by decide) dX7_workOutComing_1 ?_
  refine r_iconst F (v := 0) dX7_workOutComing_4 (by decide) ?_
  refine r_aaload F dX7_workOutComing_5 fun o1 hp_o1 => ?_
  refine r_astore F [(4, .ref (adr (xG X) 3 o1 0)), (0, .ref (adr (xG X) 7 0 0)), (1, .int p1), (2, .int p2), (3, .int p3)] rfl dX7_workOutComing_6 (hS _ (by decide)) ?_
  refine r_iconst F (v := 0) dX7_workOutComing_8 (by decide) ?_
  refine r_istore F [(5, .int 0), (4, .ref (adr (xG X) 3 o1 0)), (0, .ref (adr (xG X) 7 0 0)), (1, .int p1), (2, .int p2), (3, .int p3)] rfl dX7_workOutComing_9 (hS _ (by decide)) ?_
  have hl11 : ∀ n : Nat, ∀ v2 : Int32, ∀ h3 : Hp, Wm X (fun _ => none) (fun v => v) (fun _ => True) 11 [(0, .ref (adr (xG X) 7 0 0)), (1, .int p1), (2, .int p2), (3, .int p3), (4, .ref (adr (xG X) 3 o1 0)), (5, .int v2)] [] h3 (iter (fun _ _ => none) (f_X7_workOutComing_11 N p1 p2 p3 o1) n v2 h3) := by
    intro n
    induction n with
    | zero => intro v2 h3; exact Wt_none
    | succ n ih =>
      revert ih
      show (∀ v2 : Int32, ∀ h3 : Hp, Wm X (fun _ => none) (fun v => v) (fun _ => True) 11 [(0, .ref (adr (xG X) 7 0 0)), (1, .int p1), (2, .int p2), (3, .int p3), (4, .ref (adr (xG X) 3 o1 0)), (5, .int v2)] [] h3 (iter (fun _ _ => none) (f_X7_workOutComing_11 N p1 p2 p3 o1) n v2 h3)) → _
      intro ih11 v2 h3
      show Wm X (fun _ => none) (fun v => v) (fun _ => True) 11 [(0, .ref (adr (xG X) 7 0 0)), (1, .int p1), (2, .int p2), (3, .int p3), (4, .ref (adr (xG X) 3 o1 0)), (5, .int v2)] [] h3 (f_X7_workOutComing_11 N p1 p2 p3 o1 (iter (fun _ _ => none) (f_X7_workOutComing_11 N p1 p2 p3 o1) n) v2 h3)
      revert ih11
      generalize iter (fun _ _ => none) (f_X7_workOutComing_11 N p1 p2 p3 o1) n = r11
      intro ih11
      unfold f_X7_workOutComing_11
      refine r_iload F 5 rfl dX7_workOutComing_11 ?_
      refine r_aload_n F 0 rfl dX7_workOutComing_13 rfl ?_
      refine r_getA F frX7_44 (by decide) dX7_workOutComing_14 ?_
      refine r_alen0 F (v := 16) (ar_7_2 0 (by decide)) (by decide) dX7_workOutComing_17 ?_
      refine r_icmpge F (tgt := 108) dX7_workOutComing_18 (by decide) ?_ ?_
      · skip
        exact r_vret F hA rfl rfl trivial dX7_workOutComing_108
      refine r_aload F 4 rfl dX7_workOutComing_21 ?_
      refine r_aload_n F 0 rfl dX7_workOutComing_23 rfl ?_
      refine r_getS F frX7_72 (by decide) 1 rfl dX7_workOutComing_24 ?_
      refine k_vH (run_V F cvX7_109 hp_o1 (c_X3_copy (xG X) _ h3 o1 hp_o1 1 (by decide)) rfl rfl ⟨⟨rfl, rfl⟩, Nat.le_of_ble_eq_true rfl, Nat.le_of_ble_eq_true rfl⟩ (Nat.le_of_ble_eq_true rfl) dX7_workOutComing_27) fun h4 => ?_
      refine r_aload F 4 rfl dX7_workOutComing_30 ?_
      refine r_getA F frX7_161 hp_o1 dX7_workOutComing_32 ?_
      refine r_iload_n F 1 rfl dX7_workOutComing_35 rfl ?_
      refine r_aload_n F 0 rfl dX7_workOutComing_36 rfl ?_
      refine r_getS F frX7_72 (by decide) 1 rfl dX7_workOutComing_37 ?_
      refine r_getI F frX7_241 (by decide) dX7_workOutComing_40 ?_
      refine r_iload F 5 rfl dX7_workOutComing_43 ?_
      refine r_iconst F (v := 4) dX7_workOutComing_45 (by decide) ?_
      refine r_idivc F (by decide) dX7_workOutComing_46 ?_
      refine r_iadd F dX7_workOutComing_47 ?_
      refine r_iastore F (ar_3_4 o1 hp_o1) dX7_workOutComing_48 fun h5 => ?_
      refine r_aload F 4 rfl dX7_workOutComing_49 ?_
      refine r_getA F frX7_161 hp_o1 dX7_workOutComing_51 ?_
      refine r_iload_n F 2 rfl dX7_workOutComing_54 rfl ?_
      refine r_aload_n F 0 rfl dX7_workOutComing_55 rfl ?_
      refine r_getS F frX7_72 (by decide) 1 rfl dX7_workOutComing_56 ?_
      refine r_getI F frX7_241 (by decide) dX7_workOutComing_59 ?_
      refine r_iload F 5 rfl dX7_workOutComing_62 ?_
      refine r_iconst F (v := 4) dX7_workOutComing_64 (by decide) ?_
      refine r_iremc F (by decide) dX7_workOutComing_65 ?_
      refine r_iadd F dX7_workOutComing_66 ?_
      refine r_iastore F (ar_3_4 o1 hp_o1) dX7_workOutComing_67 fun h6 => ?_
      refine r_aload F 4 rfl dX7_workOutComing_68 ?_
      refine r_iload_n F 3 rfl dX7_workOutComing_70 rfl ?_
      refine k_vH (run_V F cvX7_265 hp_o1 (c_X3_passHours (xG X) _ N h6 o1 hp_o1 p3) rfl rfl ⟨⟨rfl, rfl⟩, Nat.le_of_ble_eq_true rfl, Nat.le_of_ble_eq_true rfl⟩ (Nat.le_of_ble_eq_true rfl) dX7_workOutComing_71) fun h7 => ?_
      refine r_aload_n F 0 rfl dX7_workOutComing_74 rfl ?_
      refine r_getA F frX7_44 (by decide) dX7_workOutComing_75 ?_
      refine r_iload F 5 rfl dX7_workOutComing_78 ?_
      refine r_aload F 4 rfl dX7_workOutComing_80 ?_
      refine r_getA F frX7_167 hp_o1 dX7_workOutComing_82 ?_
      refine r_iload_n F 1 rfl dX7_workOutComing_85 rfl ?_
      refine r_iaload F (ar_3_6 o1 hp_o1) dX7_workOutComing_86 ?_
      refine r_iastore F (ar_7_2 0 (by decide)) dX7_workOutComing_87 fun h8 => ?_
      refine r_aload_n F 0 rfl dX7_workOutComing_88 rfl ?_
      refine r_getA F frX7_47 (by decide) dX7_workOutComing_89 ?_
      refine r_iload F 5 rfl dX7_workOutComing_92 ?_
      refine r_aload F 4 rfl dX7_workOutComing_94 ?_
      refine r_getA F frX7_167 hp_o1 dX7_workOutComing_96 ?_
      refine r_iload_n F 2 rfl dX7_workOutComing_99 rfl ?_
      refine r_iaload F (ar_3_6 o1 hp_o1) dX7_workOutComing_100 ?_
      refine r_iastore F (ar_7_3 0 (by decide)) dX7_workOutComing_101 fun h9 => ?_
      refine r_iinc F (v := 1) 5 rfl (by decide) (fun v10 => [(5, .int v10), (0, .ref (adr (xG X) 7 0 0)), (1, .int p1), (2, .int p2), (3, .int p3), (4, .ref (adr (xG X) 3 o1 0))]) (fun _ => rfl) dX7_workOutComing_102 (hS _ (by decide)) fun v10 => ?_
      refine r_goto F (tgt := 11) dX7_workOutComing_105 (by decide) ?_
      exact Wt_pick [1, 2, 3, 4, 5, 0] rfl (ih11 v10 h9)
  exact Wt_pick [2, 3, 4, 5, 1, 0] rfl (hl11 N 0 h)
theorem c_X7_workOutComing (G : Gx) (l : Launch) (N : Nat) (h : Hp) (p1 : Int32) (p2 : Int32) (p3 : Int32) : Ctr G l yX7_workOutComing (.code yX7_workOutComing cX7_workOutComing 6 none :: GT) rmX7_workOutComing [.ref (adr G 7 0 0), .int p1, .int p2, .int p3] h (f_X7_workOutComing N h p1 p2 p3) (fun _ => none) (fun v => v) (fun _ => True) :=
  ctr_of (by decide) (Nat.le_of_ble_eq_true rfl) ⟨rfl, rfl⟩ fun X _ e2 hA hL F => by subst e2; exact w_X7_workOutComing X F hA hL N h p1 p2 p3
def f_X7_isRest_11 (h : Hp) (p1 : Int32) (v1 : Int32) (v2 : Int32) (r11 : Int32 → Option Bool) (v3 : Int32) : Option Bool :=
  if 4 ≤ v3 then
    some true
  else
  grd (inb ((v3 * 4) + v2) 16) <|
  grd (inb p1 16) <|
  jn (
    some false) fun (j57 : Option Bool) =>
  if (gA h 7 0 2 p1.toNatClampNeg) < (gA h 7 0 2 ((v3 * 4) + v2).toNatClampNeg) then
    j57
  else
  grd (inb ((v1 * 4) + v3) 16) <|
  grd (inb p1 16) <|
  if (gA h 7 0 3 ((v1 * 4) + v3).toNatClampNeg) ≤ (gA h 7 0 3 p1.toNatClampNeg) then
    lt_ (v3 + 1) fun v4 =>
    r11 v4
  else
  j57
def f_X7_isRest (N : Nat) (h : Hp) (p1 : Int32) : Option Bool :=
  lt_ ((p1 / 4)) fun v1 =>
  lt_ ((p1 - p1 / 4 * 4)) fun v2 =>
  iter (fun _ => none) (f_X7_isRest_11 h p1 v1 v2) N 0
abbrev rmX7_isRest : Room := { frames := 0, cells := 0, slots := 0, locals := 0 }
set_option maxRecDepth 100000 in
set_option maxHeartbeats 4000000 in
theorem w_X7_isRest (X : Cx) (F : Fx X cX7_isRest RX7 (some .boolean) rmX7_isRest) (hA : xA X = Aw (xG X)) (hL : xL X = 5) (N : Nat) (h : Hp) (p1 : Int32) : Wm X (fun v => some (.int (b2i v))) (fun _ => h) (fun _ => True) 0 [(0, .ref (adr (xG X) 7 0 0)), (1, .int p1)] [] h (f_X7_isRest N h p1) := by
  have hS : ∀ i : Nat, i < 5 → i < xL X := fun i z => by rw [hL]; exact z
  unfold f_X7_isRest
  refine r_iload_n F 1 rfl dX7_isRest_0 rfl ?_
  refine r_iconst F (v := 4) dX7_isRest_1 (by decide) ?_
  refine r_idivc F (by decide) dX7_isRest_2 ?_
  refine r_nmI fun v1 => ?_
  refine r_istore_n F [(2, .int v1), (0, .ref (adr (xG X) 7 0 0)), (1, .int p1)] rfl dX7_isRest_3 rfl (hS _ (by decide)) ?_
  refine r_iload_n F 2 rfl dX7_isRest_4 rfl ?_
  refine r_iconst F (v := 4) dX7_isRest_5 (by decide) ?_
  refine r_iremc F (by decide) dX7_isRest_6 ?_
  refine r_nmI fun v2 => ?_
  refine r_istore_n F [(3, .int v2), (2, .int v1), (0, .ref (adr (xG X) 7 0 0)), (1, .int p1)] rfl dX7_isRest_7 rfl (hS _ (by decide)) ?_
  refine r_iconst F (v := 0) dX7_isRest_8 (by decide) ?_
  refine r_istore F [(4, .int 0), (3, .int v2), (2, .int v1), (0, .ref (adr (xG X) 7 0 0)), (1, .int p1)] rfl dX7_isRest_9 (hS _ (by decide)) ?_
  have hl11 : ∀ n : Nat, ∀ v3 : Int32, Wm X (fun v => some (.int (b2i v))) (fun _ => h) (fun _ => True) 11 [(0, .ref (adr (xG X) 7 0 0)), (1, .int p1), (2, .int v1), (3, .int v2), (4, .int v3)] [] h (iter (fun _ => none) (f_X7_isRest_11 h p1 v1 v2) n v3) := by
    intro n
    induction n with
    | zero => intro v3; exact Wt_none
    | succ n ih =>
      revert ih
      show (∀ v3 : Int32, Wm X (fun v => some (.int (b2i v))) (fun _ => h) (fun _ => True) 11 [(0, .ref (adr (xG X) 7 0 0)), (1, .int p1), (2, .int v1), (3, .int v2), (4, .int v3)] [] h (iter (fun _ => none) (f_X7_isRest_11 h p1 v1 v2) n v3)) → _
      intro ih11 v3
      show Wm X (fun v => some (.int (b2i v))) (fun _ => h) (fun _ => True) 11 [(0, .ref (adr (xG X) 7 0 0)), (1, .int p1), (2, .int v1), (3, .int v2), (4, .int v3)] [] h (f_X7_isRest_11 h p1 v1 v2 (iter (fun _ => none) (f_X7_isRest_11 h p1 v1 v2) n) v3)
      revert ih11
      generalize iter (fun _ => none) (f_X7_isRest_11 h p1 v1 v2) n = r11
      intro ih11
      unfold f_X7_isRest_11
      refine r_iload F 4 rfl dX7_isRest_11 ?_
      refine r_iconst F (v := 4) dX7_isRest_13 (by decide) ?_
      refine r_icmpge F (tgt := 65) dX7_isRest_14 (by decide) ?_ ?_
      · skip
        refine r_iconst F (v := 1) dX7_isRest_65 (by decide) ?_
        exact r_zret F hA true rfl rfl rfl trivial dX7_isRest_66
      refine r_aload_n F 0 rfl dX7_isRest_17 rfl ?_
      refine r_getA F frX7_44 (by decide) dX7_isRest_18 ?_
      refine r_iload F 4 rfl dX7_isRest_21 ?_
      refine r_iconst F (v := 4) dX7_isRest_23 (by decide) ?_
      refine r_imul F dX7_isRest_24 ?_
      refine r_iload_n F 3 rfl dX7_isRest_25 rfl ?_
      refine r_iadd F dX7_isRest_26 ?_
      refine r_iaload F (ar_7_2 0 (by decide)) dX7_isRest_27 ?_
      refine r_aload_n F 0 rfl dX7_isRest_28 rfl ?_
      refine r_getA F frX7_44 (by decide) dX7_isRest_29 ?_
      refine r_iload_n F 1 rfl dX7_isRest_32 rfl ?_
      refine r_iaload F (ar_7_2 0 (by decide)) dX7_isRest_33 ?_
      refine Wt_jn (fun (j57 : Option Bool) => Wm X (fun v => some (.int (b2i v))) (fun _ => h) (fun _ => True) 57 [] [] h (j57)) ?_ fun j57 hj57 => ?_
      · skip
        refine r_iconst F (v := 0) dX7_isRest_57 (by decide) ?_
        exact r_zret F hA false rfl rfl rfl trivial dX7_isRest_58
      refine r_icmpgt F (tgt := 57) dX7_isRest_34 (by decide) ?_ ?_
      · skip
        exact Wt_pick [] rfl (hj57)
      refine r_aload_n F 0 rfl dX7_isRest_37 rfl ?_
      refine r_getA F frX7_47 (by decide) dX7_isRest_38 ?_
      refine r_iload_n F 2 rfl dX7_isRest_41 rfl ?_
      refine r_iconst F (v := 4) dX7_isRest_42 (by decide) ?_
      refine r_imul F dX7_isRest_43 ?_
      refine r_iload F 4 rfl dX7_isRest_44 ?_
      refine r_iadd F dX7_isRest_46 ?_
      refine r_iaload F (ar_7_3 0 (by decide)) dX7_isRest_47 ?_
      refine r_aload_n F 0 rfl dX7_isRest_48 rfl ?_
      refine r_getA F frX7_47 (by decide) dX7_isRest_49 ?_
      refine r_iload_n F 1 rfl dX7_isRest_52 rfl ?_
      refine r_iaload F (ar_7_3 0 (by decide)) dX7_isRest_53 ?_
      refine r_icmple F (tgt := 59) dX7_isRest_54 (by decide) ?_ ?_
      · skip
        refine r_iinc F (v := 1) 4 rfl (by decide) (fun v4 => [(4, .int v4), (0, .ref (adr (xG X) 7 0 0)), (1, .int p1), (2, .int v1), (3, .int v2)]) (fun _ => rfl) dX7_isRest_59 (hS _ (by decide)) fun v4 => ?_
        refine r_goto F (tgt := 11) dX7_isRest_62 (by decide) ?_
        exact Wt_pick [1, 2, 3, 4, 0] rfl (ih11 v4)
      exact Wt_pick [] rfl (hj57)
  exact Wt_pick [3, 4, 2, 1, 0] rfl (hl11 N 0)
theorem c_X7_isRest (G : Gx) (l : Launch) (N : Nat) (h : Hp) (p1 : Int32) : Ctr G l yX7_isRest (.code yX7_isRest cX7_isRest 5 (some .boolean) :: GT) rmX7_isRest [.ref (adr G 7 0 0), .int p1] h (f_X7_isRest N h p1) (fun v => some (.int (b2i v))) (fun _ => h) (fun _ => True) :=
  ctr_of (by decide) (Nat.le_of_ble_eq_true rfl) ⟨rfl, rfl⟩ fun X _ e2 hA hL F => by subst e2; exact w_X7_isRest X F hA hL N h p1
def f_X7_rests_25 (N : Nat) (h2 : Hp) (r25 : Int32 → Int32 → Option (Int32 × Hp)) (v3 : Int32) (v4 : Int32) : Option (Int32 × Hp) :=
  if 16 ≤ v4 then
    some (v3, h2)
  else
  (f_X7_isRest N h2 v4).bind fun v5 =>
  jn (fun (v6 : Int32) =>
    lt_ (v4 + 1) fun v7 =>
    r25 v6 v7) fun (j47 : Int32 → Option (Int32 × Hp)) =>
  if (b2i v5) = 0 then
    j47 v3
  else
  lt_ (v3 + 1) fun v8 =>
  j47 v8
def f_X7_rests (N : Nat) (h : Hp) (p1 : Int32) (p2 : Int32) (p3 : Int32) : Option (Int32 × Hp) :=
  (f_X7_mayCome h p1 p2 p3).bind fun v1 =>
  if ¬ (b2i v1) = 0 then
    (f_X7_workOutComing N h p1 p2 p3).bind fun h2 =>
    iter (fun _ _ => none) (f_X7_rests_25 N h2) N 0 0
  else
  some ((-1), h)
abbrev rmX7_rests : Room := { frames := 7, cells := 0, slots := 0, locals := 173 }
set_option maxRecDepth 100000 in
set_option maxHeartbeats 4000000 in
theorem w_X7_rests (X : Cx) (F : Fx X cX7_rests RX7 (some .int) rmX7_rests) (hA : xA X = Aw (xG X)) (hL : xL X = 6) (N : Nat) (h : Hp) (p1 : Int32) (p2 : Int32) (p3 : Int32) : Wm X (fun v => some (.int v.1)) (fun v => v.2) (fun _ => True) 0 [(0, .ref (adr (xG X) 7 0 0)), (1, .int p1), (2, .int p2), (3, .int p3)] [] h (f_X7_rests N h p1 p2 p3) := by
  have hS : ∀ i : Nat, i < 6 → i < xL X := fun i z => by rw [hL]; exact z
  unfold f_X7_rests
  refine r_aload_n F 0 rfl dX7_rests_0 rfl ?_
  refine r_iload_n F 1 rfl dX7_rests_1 rfl ?_
  refine r_iload_n F 2 rfl dX7_rests_2 rfl ?_
  refine r_iload_n F 3 rfl dX7_rests_3 rfl ?_
  refine k_zP (run_V F cvX7_291 (by decide) (c_X7_mayCome (xG X) _ h p1 p2 p3) rfl rfl ⟨⟨rfl, rfl⟩, Nat.le_of_ble_eq_true rfl, Nat.le_of_ble_eq_true rfl⟩ (Nat.le_of_ble_eq_true rfl) dX7_rests_4) fun v1 _ => ?_
  refine r_ifne F (tgt := 12) dX7_rests_7 (by decide) ?_ ?_
  · skip
    refine r_aload_n F 0 rfl dX7_rests_12 rfl ?_
    refine r_iload_n F 1 rfl dX7_rests_13 rfl ?_
    refine r_iload_n F 2 rfl dX7_rests_14 rfl ?_
    refine r_iload_n F 3 rfl dX7_rests_15 rfl ?_
    refine k_vH (run_V F cvX7_294 (by decide) (c_X7_workOutComing (xG X) _ N h p1 p2 p3) rfl rfl ⟨⟨rfl, rfl⟩, Nat.le_of_ble_eq_true rfl, Nat.le_of_ble_eq_true rfl⟩ (Nat.le_of_ble_eq_true rfl) dX7_rests_16) fun h2 => ?_
    refine r_iconst F (v := 0) dX7_rests_19 (by decide) ?_
    refine r_istore F [(4, .int 0), (0, .ref (adr (xG X) 7 0 0)), (1, .int p1), (2, .int p2), (3, .int p3)] rfl dX7_rests_20 (hS _ (by decide)) ?_
    refine r_iconst F (v := 0) dX7_rests_22 (by decide) ?_
    refine r_istore F [(5, .int 0), (4, .int 0), (0, .ref (adr (xG X) 7 0 0)), (1, .int p1), (2, .int p2), (3, .int p3)] rfl dX7_rests_23 (hS _ (by decide)) ?_
    have hl25 : ∀ n : Nat, ∀ v3 : Int32, ∀ v4 : Int32, Wm X (fun v => some (.int v.1)) (fun v => v.2) (fun _ => True) 25 [(0, .ref (adr (xG X) 7 0 0)), (4, .int v3), (5, .int v4)] [] h2 (iter (fun _ _ => none) (f_X7_rests_25 N h2) n v3 v4) := by
      intro n
      induction n with
      | zero => intro v3 v4; exact Wt_none
      | succ n ih =>
        revert ih
        show (∀ v3 : Int32, ∀ v4 : Int32, Wm X (fun v => some (.int v.1)) (fun v => v.2) (fun _ => True) 25 [(0, .ref (adr (xG X) 7 0 0)), (4, .int v3), (5, .int v4)] [] h2 (iter (fun _ _ => none) (f_X7_rests_25 N h2) n v3 v4)) → _
        intro ih25 v3 v4
        show Wm X (fun v => some (.int v.1)) (fun v => v.2) (fun _ => True) 25 [(0, .ref (adr (xG X) 7 0 0)), (4, .int v3), (5, .int v4)] [] h2 (f_X7_rests_25 N h2 (iter (fun _ _ => none) (f_X7_rests_25 N h2) n) v3 v4)
        revert ih25
        generalize iter (fun _ _ => none) (f_X7_rests_25 N h2) n = r25
        intro ih25
        unfold f_X7_rests_25
        refine r_iload F 2 rfl dX7_rests_25 ?_
        refine r_aload_n F 0 rfl dX7_rests_27 rfl ?_
        refine r_getA F frX7_44 (by decide) dX7_rests_28 ?_
        refine r_alen0 F (v := 16) (ar_7_2 0 (by decide)) (by decide) dX7_rests_31 ?_
        refine r_icmpge F (tgt := 53) dX7_rests_32 (by decide) ?_ ?_
        · skip
          refine r_iload F 1 rfl dX7_rests_53 ?_
          exact r_iret F hA rfl rfl trivial dX7_rests_55
        refine r_aload_n F 0 rfl dX7_rests_35 rfl ?_
        refine r_iload F 2 rfl dX7_rests_36 ?_
        refine k_zP (run_V F cvX7_297 (by decide) (c_X7_isRest (xG X) _ N h2 v4) rfl rfl ⟨⟨rfl, rfl⟩, Nat.le_of_ble_eq_true rfl, Nat.le_of_ble_eq_true rfl⟩ (Nat.le_of_ble_eq_true rfl) dX7_rests_38) fun v5 _ => ?_
        refine Wt_jn (fun (j47 : Int32 → Option (Int32 × Hp)) => ∀ v6 : Int32, Wm X (fun v => some (.int v.1)) (fun v => v.2) (fun _ => True) 47 [(0, .ref (adr (xG X) 7 0 0)), (4, .int v6), (5, .int v4)] [] h2 (j47 v6)) ?_ fun j47 hj47 => ?_
        · intro v6
          refine r_iinc F (v := 1) 2 rfl (by decide) (fun v7 => [(5, .int v7), (0, .ref (adr (xG X) 7 0 0)), (4, .int v6)]) (fun _ => rfl) dX7_rests_47 (hS _ (by decide)) fun v7 => ?_
          refine r_goto F (tgt := 25) dX7_rests_50 (by decide) ?_
          exact Wt_pick [1, 2, 0] rfl (ih25 v6 v7)
        refine r_ifeq F (tgt := 47) dX7_rests_41 (by decide) ?_ ?_
        · skip
          exact Wt_pick [0, 1, 2] rfl (hj47 v3)
        refine r_iinc F (v := 1) 1 rfl (by decide) (fun v8 => [(4, .int v8), (0, .ref (adr (xG X) 7 0 0)), (5, .int v4)]) (fun _ => rfl) dX7_rests_44 (hS _ (by decide)) fun v8 => ?_
        exact Wt_pick [1, 0, 2] rfl (hj47 v8)
    exact Wt_pick [2, 1, 0] rfl (hl25 N 0 0)
  refine r_iconst F (v := (-1)) dX7_rests_10 (by decide) ?_
  exact r_iret F hA rfl rfl trivial dX7_rests_11
theorem c_X7_rests (G : Gx) (l : Launch) (N : Nat) (h : Hp) (p1 : Int32) (p2 : Int32) (p3 : Int32) : Ctr G l yX7_rests (.code yX7_rests cX7_rests 6 (some .int) :: GT) rmX7_rests [.ref (adr G 7 0 0), .int p1, .int p2, .int p3] h (f_X7_rests N h p1 p2 p3) (fun v => some (.int v.1)) (fun v => v.2) (fun _ => True) :=
  ctr_of (by decide) (Nat.le_of_ble_eq_true rfl) ⟨rfl, rfl⟩ fun X _ e2 hA hL F => by subst e2; exact w_X7_rests X F hA hL N h p1 p2 p3
def f_X7_rest_30 (N : Nat) (p4 : Int32) (h2 : Hp) (r30 : Int32 → Int32 → Option (Int32 × Hp)) (v3 : Int32) (v4 : Int32) : Option (Int32 × Hp) :=
  if 16 ≤ v4 then
    some ((-2), h2)
  else
  (f_X7_isRest N h2 v4).bind fun v5 =>
  jn (fun (v6 : Int32) =>
    lt_ (v4 + 1) fun v7 =>
    r30 v6 v7) fun (j72 : Int32 → Option (Int32 × Hp)) =>
  if (b2i v5) = 0 then
    j72 v3
  else
  if ¬ v3 = p4 then
    lt_ (v3 + 1) fun v8 =>
    j72 v8
  else
  some (((10 * (v4 / 4)) + (v4 - v4 / 4 * 4)), h2)
def f_X7_rest (N : Nat) (h : Hp) (p1 : Int32) (p2 : Int32) (p3 : Int32) (p4 : Int32) : Option (Int32 × Hp) :=
  (f_X7_mayCome h p1 p2 p3).bind fun v1 =>
  jn (
    some ((-1), h)) fun (j15 : Option (Int32 × Hp)) =>
  if (b2i v1) = 0 then
    j15
  else
  if 0 ≤ p4 then
    (f_X7_workOutComing N h p1 p2 p3).bind fun h2 =>
    iter (fun _ _ => none) (f_X7_rest_30 N p4 h2) N 0 0
  else
  j15
abbrev rmX7_rest : Room := { frames := 7, cells := 0, slots := 0, locals := 173 }
set_option maxRecDepth 100000 in
set_option maxHeartbeats 4000000 in
theorem w_X7_rest (X : Cx) (F : Fx X cX7_rest RX7 (some .int) rmX7_rest) (hA : xA X = Aw (xG X)) (hL : xL X = 7) (N : Nat) (h : Hp) (p1 : Int32) (p2 : Int32) (p3 : Int32) (p4 : Int32) : Wm X (fun v => some (.int v.1)) (fun v => v.2) (fun _ => True) 0 [(0, .ref (adr (xG X) 7 0 0)), (1, .int p1), (2, .int p2), (3, .int p3), (4, .int p4)] [] h (f_X7_rest N h p1 p2 p3 p4) := by
  have hS : ∀ i : Nat, i < 7 → i < xL X := fun i z => by rw [hL]; exact z
  unfold f_X7_rest
  refine r_aload_n F 0 rfl dX7_rest_0 rfl ?_
  refine r_iload_n F 1 rfl dX7_rest_1 rfl ?_
  refine r_iload_n F 2 rfl dX7_rest_2 rfl ?_
  refine r_iload_n F 3 rfl dX7_rest_3 rfl ?_
  refine k_zP (run_V F cvX7_291 (by decide) (c_X7_mayCome (xG X) _ h p1 p2 p3) rfl rfl ⟨⟨rfl, rfl⟩, Nat.le_of_ble_eq_true rfl, Nat.le_of_ble_eq_true rfl⟩ (Nat.le_of_ble_eq_true rfl) dX7_rest_4) fun v1 _ => ?_
  refine Wt_jn (fun (j15 : Option (Int32 × Hp)) => Wm X (fun v => some (.int v.1)) (fun v => v.2) (fun _ => True) 15 [] [] h (j15)) ?_ fun j15 hj15 => ?_
  · skip
    refine r_iconst F (v := (-1)) dX7_rest_15 (by decide) ?_
    exact r_iret F hA rfl rfl trivial dX7_rest_16
  refine r_ifeq F (tgt := 15) dX7_rest_7 (by decide) ?_ ?_
  · skip
    exact Wt_pick [] rfl (hj15)
  refine r_iload F 4 rfl dX7_rest_10 ?_
  refine r_ifge F (tgt := 17) dX7_rest_12 (by decide) ?_ ?_
  · skip
    refine r_aload_n F 0 rfl dX7_rest_17 rfl ?_
    refine r_iload_n F 1 rfl dX7_rest_18 rfl ?_
    refine r_iload_n F 2 rfl dX7_rest_19 rfl ?_
    refine r_iload_n F 3 rfl dX7_rest_20 rfl ?_
    refine k_vH (run_V F cvX7_294 (by decide) (c_X7_workOutComing (xG X) _ N h p1 p2 p3) rfl rfl ⟨⟨rfl, rfl⟩, Nat.le_of_ble_eq_true rfl, Nat.le_of_ble_eq_true rfl⟩ (Nat.le_of_ble_eq_true rfl) dX7_rest_21) fun h2 => ?_
    refine r_iconst F (v := 0) dX7_rest_24 (by decide) ?_
    refine r_istore F [(5, .int 0), (0, .ref (adr (xG X) 7 0 0)), (1, .int p1), (2, .int p2), (3, .int p3), (4, .int p4)] rfl dX7_rest_25 (hS _ (by decide)) ?_
    refine r_iconst F (v := 0) dX7_rest_27 (by decide) ?_
    refine r_istore F [(6, .int 0), (5, .int 0), (0, .ref (adr (xG X) 7 0 0)), (1, .int p1), (2, .int p2), (3, .int p3), (4, .int p4)] rfl dX7_rest_28 (hS _ (by decide)) ?_
    have hl30 : ∀ n : Nat, ∀ v3 : Int32, ∀ v4 : Int32, Wm X (fun v => some (.int v.1)) (fun v => v.2) (fun _ => True) 30 [(0, .ref (adr (xG X) 7 0 0)), (4, .int p4), (5, .int v3), (6, .int v4)] [] h2 (iter (fun _ _ => none) (f_X7_rest_30 N p4 h2) n v3 v4) := by
      intro n
      induction n with
      | zero => intro v3 v4; exact Wt_none
      | succ n ih =>
        revert ih
        show (∀ v3 : Int32, ∀ v4 : Int32, Wm X (fun v => some (.int v.1)) (fun v => v.2) (fun _ => True) 30 [(0, .ref (adr (xG X) 7 0 0)), (4, .int p4), (5, .int v3), (6, .int v4)] [] h2 (iter (fun _ _ => none) (f_X7_rest_30 N p4 h2) n v3 v4)) → _
        intro ih30 v3 v4
        show Wm X (fun v => some (.int v.1)) (fun v => v.2) (fun _ => True) 30 [(0, .ref (adr (xG X) 7 0 0)), (4, .int p4), (5, .int v3), (6, .int v4)] [] h2 (f_X7_rest_30 N p4 h2 (iter (fun _ _ => none) (f_X7_rest_30 N p4 h2) n) v3 v4)
        revert ih30
        generalize iter (fun _ _ => none) (f_X7_rest_30 N p4 h2) n = r30
        intro ih30
        unfold f_X7_rest_30
        refine r_iload F 3 rfl dX7_rest_30 ?_
        refine r_aload_n F 0 rfl dX7_rest_32 rfl ?_
        refine r_getA F frX7_44 (by decide) dX7_rest_33 ?_
        refine r_alen0 F (v := 16) (ar_7_2 0 (by decide)) (by decide) dX7_rest_36 ?_
        refine r_icmpge F (tgt := 78) dX7_rest_37 (by decide) ?_ ?_
        · skip
          refine r_bipush F (v := (-2)) dX7_rest_78 (by decide) ?_
          exact r_iret F hA rfl rfl trivial dX7_rest_80
        refine r_aload_n F 0 rfl dX7_rest_40 rfl ?_
        refine r_iload F 3 rfl dX7_rest_41 ?_
        refine k_zP (run_V F cvX7_297 (by decide) (c_X7_isRest (xG X) _ N h2 v4) rfl rfl ⟨⟨rfl, rfl⟩, Nat.le_of_ble_eq_true rfl, Nat.le_of_ble_eq_true rfl⟩ (Nat.le_of_ble_eq_true rfl) dX7_rest_43) fun v5 _ => ?_
        refine Wt_jn (fun (j72 : Int32 → Option (Int32 × Hp)) => ∀ v6 : Int32, Wm X (fun v => some (.int v.1)) (fun v => v.2) (fun _ => True) 72 [(0, .ref (adr (xG X) 7 0 0)), (4, .int p4), (5, .int v6), (6, .int v4)] [] h2 (j72 v6)) ?_ fun j72 hj72 => ?_
        · intro v6
          refine r_iinc F (v := 1) 3 rfl (by decide) (fun v7 => [(6, .int v7), (0, .ref (adr (xG X) 7 0 0)), (4, .int p4), (5, .int v6)]) (fun _ => rfl) dX7_rest_72 (hS _ (by decide)) fun v7 => ?_
          refine r_goto F (tgt := 30) dX7_rest_75 (by decide) ?_
          exact Wt_pick [1, 2, 3, 0] rfl (ih30 v6 v7)
        refine r_ifeq F (tgt := 72) dX7_rest_46 (by decide) ?_ ?_
        · skip
          exact Wt_pick [0, 1, 2, 3] rfl (hj72 v3)
        refine r_iload F 2 rfl dX7_rest_49 ?_
        refine r_iload F 1 rfl dX7_rest_51 ?_
        refine r_icmpne F (tgt := 69) dX7_rest_53 (by decide) ?_ ?_
        · skip
          refine r_iinc F (v := 1) 2 rfl (by decide) (fun v8 => [(5, .int v8), (0, .ref (adr (xG X) 7 0 0)), (4, .int p4), (6, .int v4)]) (fun _ => rfl) dX7_rest_69 (hS _ (by decide)) fun v8 => ?_
          exact Wt_pick [1, 2, 0, 3] rfl (hj72 v8)
        refine r_bipush F (v := 10) dX7_rest_56 (by decide) ?_
        refine r_iload F 3 rfl dX7_rest_58 ?_
        refine r_iconst F (v := 4) dX7_rest_60 (by decide) ?_
        refine r_idivc F (by decide) dX7_rest_61 ?_
        refine r_imul F dX7_rest_62 ?_
        refine r_iload F 3 rfl dX7_rest_63 ?_
        refine r_iconst F (v := 4) dX7_rest_65 (by decide) ?_
        refine r_iremc F (by decide) dX7_rest_66 ?_
        refine r_iadd F dX7_rest_67 ?_
        exact r_iret F hA rfl rfl trivial dX7_rest_68
    exact Wt_pick [2, 6, 1, 0] rfl (hl30 N 0 0)
  exact Wt_pick [] rfl (hj15)
theorem c_X7_rest (G : Gx) (l : Launch) (N : Nat) (h : Hp) (p1 : Int32) (p2 : Int32) (p3 : Int32) (p4 : Int32) : Ctr G l yX7_rest (.code yX7_rest cX7_rest 7 (some .int) :: GT) rmX7_rest [.ref (adr G 7 0 0), .int p1, .int p2, .int p3, .int p4] h (f_X7_rest N h p1 p2 p3 p4) (fun v => some (.int v.1)) (fun v => v.2) (fun _ => True) :=
  ctr_of (by decide) (Nat.le_of_ble_eq_true rfl) ⟨rfl, rfl⟩ fun X _ e2 hA hL F => by subst e2; exact w_X7_rest X F hA hL N h p1 p2 p3 p4
def f_X7_unlike (N : Nat) (h : Hp) : Option (Int32 × Hp) :=
  bd2 (f_X3_unlikeLots N h 1) fun v2 h1 =>
  some (v2, h1)
abbrev rmX7_unlike : Room := { frames := 3, cells := 0, slots := 0, locals := 66 }
set_option maxRecDepth 100000 in
set_option maxHeartbeats 4000000 in
theorem w_X7_unlike (X : Cx) (F : Fx X cX7_unlike RX7 (some .int) rmX7_unlike) (hA : xA X = Aw (xG X)) (hL : xL X = 1) (N : Nat) (h : Hp) : Wm X (fun v => some (.int v.1)) (fun v => v.2) (fun _ => True) 0 [(0, .ref (adr (xG X) 7 0 0))] [] h (f_X7_unlike N h) := by
  have hS : ∀ i : Nat, i < 1 → i < xL X := fun i z => by rw [hL]; exact z
  unfold f_X7_unlike
  refine r_aload_n F 0 rfl dX7_unlike_0 rfl ?_
  refine r_getS F frX7_72 (by decide) 1 rfl dX7_unlike_1 ?_
  refine k_iH (run_V F cvX7_300 (by decide) (c_X3_unlikeLots (xG X) _ N h 1 (by decide)) rfl rfl ⟨⟨rfl, rfl⟩, Nat.le_of_ble_eq_true rfl, Nat.le_of_ble_eq_true rfl⟩ (Nat.le_of_ble_eq_true rfl) dX7_unlike_4) fun v2 h1 => ?_
  exact r_iret F hA rfl rfl trivial dX7_unlike_7
theorem c_X7_unlike (G : Gx) (l : Launch) (N : Nat) (h : Hp) : Ctr G l yX7_unlike (.code yX7_unlike cX7_unlike 1 (some .int) :: GT) rmX7_unlike [.ref (adr G 7 0 0)] h (f_X7_unlike N h) (fun v => some (.int v.1)) (fun v => v.2) (fun _ => True) :=
  ctr_of (by decide) (Nat.le_of_ble_eq_true rfl) ⟨rfl, rfl⟩ fun X _ e2 hA hL F => by subst e2; exact w_X7_unlike X F hA hL N h
def f_X7_findSwap_46 (N : Nat) (o1 : Nat) (r28 : Int32 → Bool → Int32 → Hp → Option (Bool × Hp)) (v7 : Int32) (r46 : Int32 → Bool → Int32 → Hp → Option (Bool × Hp)) (v11 : Int32) (v12 : Bool) (v13 : Int32) (h14 : Hp) : Option (Bool × Hp) :=
  onO (gO h14 7 0 13) fun o15 =>
  if (gI h14 5 o15 11) ≤ v13 then
    lt_ (v7 + 1) fun v16 =>
    r28 v11 v12 v16 h14
  else
  grd (inb v13 8) <|
  grd (inb v7 8) <| lt_ (sA h14 3 o1 1 v7.toNatClampNeg (gA h14 3 1 1 v13.toNatClampNeg)) fun h17 =>
  grd (inb v7 8) <|
  grd (inb v13 8) <| lt_ (sA h17 3 o1 1 v13.toNatClampNeg (gA h17 3 1 1 v7.toNatClampNeg)) fun h18 =>
  bd2 (f_X3_unlikeLots N h18 o1) fun v20 h19 =>
  grd (inb v7 8) <|
  grd (inb v7 8) <| lt_ (sA h19 3 o1 1 v7.toNatClampNeg (gA h19 3 1 1 v7.toNatClampNeg)) fun h21 =>
  grd (inb v13 8) <|
  grd (inb v13 8) <| lt_ (sA h21 3 o1 1 v13.toNatClampNeg (gA h21 3 1 1 v13.toNatClampNeg)) fun h22 =>
  jn (fun (v23 : Int32) (v24 : Bool) (h25 : Hp) =>
    lt_ (v13 + 1) fun v26 =>
    r46 v23 v24 v26 h25) fun (j167 : Int32 → Bool → Hp → Option (Bool × Hp)) =>
  if v11 ≤ v20 then
    j167 v11 v12 h22
  else
  grd (inb 0 3) <| lt_ (sA h22 7 0 4 (0 : Int32).toNatClampNeg v7) fun h27 =>
  grd (inb 1 3) <| lt_ (sA h27 7 0 4 (1 : Int32).toNatClampNeg v13) fun h28 =>
  grd (inb 2 3) <| lt_ (sA h28 7 0 4 (2 : Int32).toNatClampNeg v20) fun h29 =>
  j167 v20 true h29
def f_X7_findSwap_28 (N : Nat) (o1 : Nat) (r28 : Int32 → Bool → Int32 → Hp → Option (Bool × Hp)) (v5 : Int32) (v6 : Bool) (v7 : Int32) (h8 : Hp) : Option (Bool × Hp) :=
  onO (gO h8 7 0 13) fun o9 =>
  if (gI h8 5 o9 11) ≤ v7 then
    some (v6, h8)
  else
  lt_ ((v7 + 1)) fun v10 =>
  iter (fun _ _ _ _ => none) (f_X7_findSwap_46 N o1 r28 v7) N v5 v6 v10 h8
def f_X7_findSwap (N : Nat) (h : Hp) : Option (Bool × Hp) :=
  grd (inb 0 7) <| lt_ (3 + (0 : Int32).toNatClampNeg) fun o1 =>
  (f_X3_copy h o1 1).bind fun h2 =>
  bd2 (f_X3_unlikeLots N h2 1) fun v4 h3 =>
  iter (fun _ _ _ _ => none) (f_X7_findSwap_28 N o1) N v4 false 0 h3
abbrev rmX7_findSwap : Room := { frames := 3, cells := 0, slots := 0, locals := 66 }
set_option maxRecDepth 100000 in
set_option maxHeartbeats 4000000 in
theorem w_X7_findSwap (X : Cx) (F : Fx X cX7_findSwap RX7 (some .boolean) rmX7_findSwap) (hA : xA X = Aw (xG X)) (hL : xL X = 7) (N : Nat) (h : Hp) : Wm X (fun v => some (.int (b2i v.1))) (fun v => v.2) (fun _ => True) 0 [(0, .ref (adr (xG X) 7 0 0))] [] h (f_X7_findSwap N h) := by
  have hS : ∀ i : Nat, i < 7 → i < xL X := fun i z => by rw [hL]; exact z
  unfold f_X7_findSwap
  refine r_aload_n F 0 rfl dX7_findSwap_0 rfl ?_
  refine r_getA F frX7_78 (by decide) dX7_findSwap_1 ?_
  refine r_iconst F (v := 0) dX7_findSwap_4 (by decide) ?_
  refine r_aaload F dX7_findSwap_5 fun o1 hp_o1 => ?_
  refine r_astore_n F [(1, .ref (adr (xG X) 3 o1 0)), (0, .ref (adr (xG X) 7 0 0))] rfl dX7_findSwap_6 rfl (hS _ (by decide)) ?_
  refine r_aload_n F 0 rfl dX7_findSwap_7 rfl ?_
  refine r_aload_n F 1 rfl dX7_findSwap_8 rfl ?_
  refine r_getS F frX7_72 (by decide) 1 rfl dX7_findSwap_9 ?_
  refine k_vH (run_V F cvX7_109 hp_o1 (c_X3_copy (xG X) _ h o1 hp_o1 1 (by decide)) rfl rfl ⟨⟨rfl, rfl⟩, Nat.le_of_ble_eq_true rfl, Nat.le_of_ble_eq_true rfl⟩ (Nat.le_of_ble_eq_true rfl) dX7_findSwap_12) fun h2 => ?_
  refine r_aload_n F 1 rfl dX7_findSwap_15 rfl ?_
  refine r_getS F frX7_72 (by decide) 1 rfl dX7_findSwap_16 ?_
  refine k_iH (run_V F cvX7_300 (by decide) (c_X3_unlikeLots (xG X) _ N h2 1 (by decide)) rfl rfl ⟨⟨rfl, rfl⟩, Nat.le_of_ble_eq_true rfl, Nat.le_of_ble_eq_true rfl⟩ (Nat.le_of_ble_eq_true rfl) dX7_findSwap_19) fun v4 h3 => ?_
  refine r_istore_n F [(2, .int v4), (1, .ref (adr (xG X) 3 o1 0)), (0, .ref (adr (xG X) 7 0 0))] rfl dX7_findSwap_22 rfl (hS _ (by decide)) ?_
  refine r_iconst F (v := 0) dX7_findSwap_23 (by decide) ?_
  refine r_istore_n F [(3, .int 0), (2, .int v4), (1, .ref (adr (xG X) 3 o1 0)), (0, .ref (adr (xG X) 7 0 0))] rfl dX7_findSwap_24 rfl (hS _ (by decide)) ?_
  refine r_iconst F (v := 0) dX7_findSwap_25 (by decide) ?_
  refine r_istore F [(4, .int 0), (3, .int 0), (2, .int v4), (1, .ref (adr (xG X) 3 o1 0)), (0, .ref (adr (xG X) 7 0 0))] rfl dX7_findSwap_26 (hS _ (by decide)) ?_
  have hl28 : ∀ n : Nat, ∀ v5 : Int32, ∀ v6 : Bool, ∀ v7 : Int32, ∀ h8 : Hp, Wm X (fun v => some (.int (b2i v.1))) (fun v => v.2) (fun _ => True) 28 [(0, .ref (adr (xG X) 7 0 0)), (1, .ref (adr (xG X) 3 o1 0)), (2, .int v5), (3, .int (b2i v6)), (4, .int v7)] [] h8 (iter (fun _ _ _ _ => none) (f_X7_findSwap_28 N o1) n v5 v6 v7 h8) := by
    intro n
    induction n with
    | zero => intro v5 v6 v7 h8; exact Wt_none
    | succ n ih =>
      revert ih
      show (∀ v5 : Int32, ∀ v6 : Bool, ∀ v7 : Int32, ∀ h8 : Hp, Wm X (fun v => some (.int (b2i v.1))) (fun v => v.2) (fun _ => True) 28 [(0, .ref (adr (xG X) 7 0 0)), (1, .ref (adr (xG X) 3 o1 0)), (2, .int v5), (3, .int (b2i v6)), (4, .int v7)] [] h8 (iter (fun _ _ _ _ => none) (f_X7_findSwap_28 N o1) n v5 v6 v7 h8)) → _
      intro ih28 v5 v6 v7 h8
      show Wm X (fun v => some (.int (b2i v.1))) (fun v => v.2) (fun _ => True) 28 [(0, .ref (adr (xG X) 7 0 0)), (1, .ref (adr (xG X) 3 o1 0)), (2, .int v5), (3, .int (b2i v6)), (4, .int v7)] [] h8 (f_X7_findSwap_28 N o1 (iter (fun _ _ _ _ => none) (f_X7_findSwap_28 N o1) n) v5 v6 v7 h8)
      revert ih28
      generalize iter (fun _ _ _ _ => none) (f_X7_findSwap_28 N o1) n = r28
      intro ih28
      unfold f_X7_findSwap_28
      refine r_iload F 4 rfl dX7_findSwap_28 ?_
      refine r_aload_n F 0 rfl dX7_findSwap_30 rfl ?_
      refine r_getO F frX7_56 (by decide) dX7_findSwap_31 fun o9 hp_o9 => ?_
      refine r_getI F frX7_307 hp_o9 dX7_findSwap_34 ?_
      refine r_icmpge F (tgt := 179) dX7_findSwap_37 (by decide) ?_ ?_
      · skip
        refine r_iload_n F 3 rfl dX7_findSwap_179 rfl ?_
        exact r_zret F hA v6 rfl rfl rfl trivial dX7_findSwap_180
      refine r_iload F 4 rfl dX7_findSwap_40 ?_
      refine r_iconst F (v := 1) dX7_findSwap_42 (by decide) ?_
      refine r_iadd F dX7_findSwap_43 ?_
      refine r_nmI fun v10 => ?_
      refine r_istore F [(5, .int v10), (0, .ref (adr (xG X) 7 0 0)), (1, .ref (adr (xG X) 3 o1 0)), (2, .int v5), (3, .int (b2i v6)), (4, .int v7)] rfl dX7_findSwap_44 (hS _ (by decide)) ?_
      have hl46 : ∀ n : Nat, ∀ v11 : Int32, ∀ v12 : Bool, ∀ v13 : Int32, ∀ h14 : Hp, Wm X (fun v => some (.int (b2i v.1))) (fun v => v.2) (fun _ => True) 46 [(0, .ref (adr (xG X) 7 0 0)), (1, .ref (adr (xG X) 3 o1 0)), (2, .int v11), (3, .int (b2i v12)), (4, .int v7), (5, .int v13)] [] h14 (iter (fun _ _ _ _ => none) (f_X7_findSwap_46 N o1 r28 v7) n v11 v12 v13 h14) := by
        intro n
        induction n with
        | zero => intro v11 v12 v13 h14; exact Wt_none
        | succ n ih =>
          revert ih
          show (∀ v11 : Int32, ∀ v12 : Bool, ∀ v13 : Int32, ∀ h14 : Hp, Wm X (fun v => some (.int (b2i v.1))) (fun v => v.2) (fun _ => True) 46 [(0, .ref (adr (xG X) 7 0 0)), (1, .ref (adr (xG X) 3 o1 0)), (2, .int v11), (3, .int (b2i v12)), (4, .int v7), (5, .int v13)] [] h14 (iter (fun _ _ _ _ => none) (f_X7_findSwap_46 N o1 r28 v7) n v11 v12 v13 h14)) → _
          intro ih46 v11 v12 v13 h14
          show Wm X (fun v => some (.int (b2i v.1))) (fun v => v.2) (fun _ => True) 46 [(0, .ref (adr (xG X) 7 0 0)), (1, .ref (adr (xG X) 3 o1 0)), (2, .int v11), (3, .int (b2i v12)), (4, .int v7), (5, .int v13)] [] h14 (f_X7_findSwap_46 N o1 r28 v7 (iter (fun _ _ _ _ => none) (f_X7_findSwap_46 N o1 r28 v7) n) v11 v12 v13 h14)
          revert ih46
          generalize iter (fun _ _ _ _ => none) (f_X7_findSwap_46 N o1 r28 v7) n = r46
          intro ih46
          unfold f_X7_findSwap_46
          refine r_iload F 5 rfl dX7_findSwap_46 ?_
          refine r_aload_n F 0 rfl dX7_findSwap_48 rfl ?_
          refine r_getO F frX7_56 (by decide) dX7_findSwap_49 fun o15 hp_o15 => ?_
          refine r_getI F frX7_307 hp_o15 dX7_findSwap_52 ?_
          refine r_icmpge F (tgt := 173) dX7_findSwap_55 (by decide) ?_ ?_
          · skip
            refine r_iinc F (v := 1) 4 rfl (by decide) (fun v16 => [(4, .int v16), (0, .ref (adr (xG X) 7 0 0)), (1, .ref (adr (xG X) 3 o1 0)), (2, .int v11), (3, .int (b2i v12)), (5, .int v13)]) (fun _ => rfl) dX7_findSwap_173 (hS _ (by decide)) fun v16 => ?_
            refine r_goto F (tgt := 28) dX7_findSwap_176 (by decide) ?_
            exact Wt_pick [1, 2, 3, 4, 0] rfl (ih28 v11 v12 v16 h14)
          refine r_aload_n F 1 rfl dX7_findSwap_58 rfl ?_
          refine r_getA F frX7_149 hp_o1 dX7_findSwap_59 ?_
          refine r_iload F 4 rfl dX7_findSwap_62 ?_
          refine r_aload_n F 0 rfl dX7_findSwap_64 rfl ?_
          refine r_getS F frX7_72 (by decide) 1 rfl dX7_findSwap_65 ?_
          refine r_getA F frX7_149 (by decide) dX7_findSwap_68 ?_
          refine r_iload F 5 rfl dX7_findSwap_71 ?_
          refine r_iaload F (ar_3_1 1 (by decide)) dX7_findSwap_73 ?_
          refine r_iastore F (ar_3_1 o1 hp_o1) dX7_findSwap_74 fun h17 => ?_
          refine r_aload_n F 1 rfl dX7_findSwap_75 rfl ?_
          refine r_getA F frX7_149 hp_o1 dX7_findSwap_76 ?_
          refine r_iload F 5 rfl dX7_findSwap_79 ?_
          refine r_aload_n F 0 rfl dX7_findSwap_81 rfl ?_
          refine r_getS F frX7_72 (by decide) 1 rfl dX7_findSwap_82 ?_
          refine r_getA F frX7_149 (by decide) dX7_findSwap_85 ?_
          refine r_iload F 4 rfl dX7_findSwap_88 ?_
          refine r_iaload F (ar_3_1 1 (by decide)) dX7_findSwap_90 ?_
          refine r_iastore F (ar_3_1 o1 hp_o1) dX7_findSwap_91 fun h18 => ?_
          refine r_aload_n F 1 rfl dX7_findSwap_92 rfl ?_
          refine k_iH (run_V F cvX7_300 hp_o1 (c_X3_unlikeLots (xG X) _ N h18 o1 hp_o1) rfl rfl ⟨⟨rfl, rfl⟩, Nat.le_of_ble_eq_true rfl, Nat.le_of_ble_eq_true rfl⟩ (Nat.le_of_ble_eq_true rfl) dX7_findSwap_93) fun v20 h19 => ?_
          refine r_istore F [(6, .int v20), (0, .ref (adr (xG X) 7 0 0)), (1, .ref (adr (xG X) 3 o1 0)), (2, .int v11), (3, .int (b2i v12)), (4, .int v7), (5, .int v13)] rfl dX7_findSwap_96 (hS _ (by decide)) ?_
          refine r_aload_n F 2 rfl dX7_findSwap_98 rfl ?_
          refine r_getA F frX7_149 hp_o1 dX7_findSwap_99 ?_
          refine r_iload F 5 rfl dX7_findSwap_102 ?_
          refine r_aload_n F 1 rfl dX7_findSwap_104 rfl ?_
          refine r_getS F frX7_72 (by decide) 1 rfl dX7_findSwap_105 ?_
          refine r_getA F frX7_149 (by decide) dX7_findSwap_108 ?_
          refine r_iload F 5 rfl dX7_findSwap_111 ?_
          refine r_iaload F (ar_3_1 1 (by decide)) dX7_findSwap_113 ?_
          refine r_iastore F (ar_3_1 o1 hp_o1) dX7_findSwap_114 fun h21 => ?_
          refine r_aload_n F 2 rfl dX7_findSwap_115 rfl ?_
          refine r_getA F frX7_149 hp_o1 dX7_findSwap_116 ?_
          refine r_iload F 6 rfl dX7_findSwap_119 ?_
          refine r_aload_n F 1 rfl dX7_findSwap_121 rfl ?_
          refine r_getS F frX7_72 (by decide) 1 rfl dX7_findSwap_122 ?_
          refine r_getA F frX7_149 (by decide) dX7_findSwap_125 ?_
          refine r_iload F 6 rfl dX7_findSwap_128 ?_
          refine r_iaload F (ar_3_1 1 (by decide)) dX7_findSwap_130 ?_
          refine r_iastore F (ar_3_1 o1 hp_o1) dX7_findSwap_131 fun h22 => ?_
          refine r_iload F 0 rfl dX7_findSwap_132 ?_
          refine r_iload_n F 3 rfl dX7_findSwap_134 rfl ?_
          refine Wt_jn (fun (j167 : Int32 → Bool → Hp → Option (Bool × Hp)) => ∀ v23 : Int32, ∀ v24 : Bool, ∀ h25 : Hp, Wm X (fun v => some (.int (b2i v.1))) (fun v => v.2) (fun _ => True) 167 [(0, .ref (adr (xG X) 7 0 0)), (1, .ref (adr (xG X) 3 o1 0)), (2, .int v23), (3, .int (b2i v24)), (4, .int v7), (5, .int v13)] [] h25 (j167 v23 v24 h25)) ?_ fun j167 hj167 => ?_
          · intro v23 v24 h25
            refine r_iinc F (v := 1) 5 rfl (by decide) (fun v26 => [(5, .int v26), (0, .ref (adr (xG X) 7 0 0)), (1, .ref (adr (xG X) 3 o1 0)), (2, .int v23), (3, .int (b2i v24)), (4, .int v7)]) (fun _ => rfl) dX7_findSwap_167 (hS _ (by decide)) fun v26 => ?_
            refine r_goto F (tgt := 46) dX7_findSwap_170 (by decide) ?_
            exact Wt_pick [1, 2, 3, 4, 5, 0] rfl (ih46 v23 v24 v26 h25)
          refine r_icmpge F (tgt := 167) dX7_findSwap_135 (by decide) ?_ ?_
          · skip
            exact Wt_pick [1, 2, 3, 4, 5, 6] rfl (hj167 v11 v12 h22)
          refine r_iload F 0 rfl dX7_findSwap_138 ?_
          refine r_istore_n F [(2, .int v20), (6, .int v20), (0, .ref (adr (xG X) 7 0 0)), (1, .ref (adr (xG X) 3 o1 0)), (3, .int (b2i v12)), (4, .int v7), (5, .int v13)] rfl dX7_findSwap_140 rfl (hS _ (by decide)) ?_
          refine r_iconst F (v := 1) dX7_findSwap_141 (by decide) ?_
          refine r_istore_n F [(3, .int 1), (2, .int v20), (6, .int v20), (0, .ref (adr (xG X) 7 0 0)), (1, .ref (adr (xG X) 3 o1 0)), (4, .int v7), (5, .int v13)] rfl dX7_findSwap_142 rfl (hS _ (by decide)) ?_
          refine r_aload_n F 3 rfl dX7_findSwap_143 rfl ?_
          refine r_getA F frX7_50 (by decide) dX7_findSwap_144 ?_
          refine r_iconst F (v := 0) dX7_findSwap_147 (by decide) ?_
          refine r_iload F 5 rfl dX7_findSwap_148 ?_
          refine r_iastore F (ar_7_4 0 (by decide)) dX7_findSwap_150 fun h27 => ?_
          refine r_aload_n F 3 rfl dX7_findSwap_151 rfl ?_
          refine r_getA F frX7_50 (by decide) dX7_findSwap_152 ?_
          refine r_iconst F (v := 1) dX7_findSwap_155 (by decide) ?_
          refine r_iload F 6 rfl dX7_findSwap_156 ?_
          refine r_iastore F (ar_7_4 0 (by decide)) dX7_findSwap_158 fun h28 => ?_
          refine r_aload_n F 3 rfl dX7_findSwap_159 rfl ?_
          refine r_getA F frX7_50 (by decide) dX7_findSwap_160 ?_
          refine r_iconst F (v := 2) dX7_findSwap_163 (by decide) ?_
          refine r_iload F 2 rfl dX7_findSwap_164 ?_
          refine r_iastore F (ar_7_4 0 (by decide)) dX7_findSwap_166 fun h29 => ?_
          exact Wt_pick [3, 4, 1, 0, 5, 6] rfl (hj167 v20 true h29)
      exact Wt_pick [1, 2, 3, 4, 5, 0] rfl (hl46 N v5 v6 v10 h8)
  exact Wt_pick [4, 3, 2, 1, 0] rfl (hl28 N v4 false 0 h3)
theorem c_X7_findSwap (G : Gx) (l : Launch) (N : Nat) (h : Hp) : Ctr G l yX7_findSwap (.code yX7_findSwap cX7_findSwap 7 (some .boolean) :: GT) rmX7_findSwap [.ref (adr G 7 0 0)] h (f_X7_findSwap N h) (fun v => some (.int (b2i v.1))) (fun v => v.2) (fun _ => True) :=
  ctr_of (by decide) (Nat.le_of_ble_eq_true rfl) ⟨rfl, rfl⟩ fun X _ e2 hA hL F => by subst e2; exact w_X7_findSwap X F hA hL N h
