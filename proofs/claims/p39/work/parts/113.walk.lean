theorem dX7_see_0 : decode cX7_see 0 = .ok (.iload_n 1, 1) := by decide +kernel
theorem dX7_see_1 : decode cX7_see 1 = .ok (.iconst 1, 1) := by decide +kernel
theorem dX7_see_2 : decode cX7_see 2 = .ok (.bipush 99, 2) := by decide +kernel
theorem dX7_see_4 : decode cX7_see 4 = .ok (.invokestatic 247, 3) := by decide +kernel
theorem dX7_see_7 : decode cX7_see 7 = .ok (.ifCond .eq 14, 3) := by decide +kernel
theorem dX7_see_10 : decode cX7_see 10 = .ok (.iload_n 2, 1) := by decide +kernel
theorem dX7_see_11 : decode cX7_see 11 = .ok (.iconst 0, 1) := by decide +kernel
theorem dX7_see_12 : decode cX7_see 12 = .ok (.sipush 9999, 3) := by decide +kernel
theorem dX7_see_15 : decode cX7_see 15 = .ok (.invokestatic 247, 3) := by decide +kernel
theorem dX7_see_18 : decode cX7_see 18 = .ok (.ifCond .ne 5, 3) := by decide +kernel
theorem dX7_see_21 : decode cX7_see 21 = .ok (.iconst (-1), 1) := by decide +kernel
theorem dX7_see_22 : decode cX7_see 22 = .ok (.ireturn, 1) := by decide +kernel
theorem dX7_see_23 : decode cX7_see 23 = .ok (.aload_n 0, 1) := by decide +kernel
theorem dX7_see_24 : decode cX7_see 24 = .ok (.getfield 26, 3) := by decide +kernel
theorem dX7_see_27 : decode cX7_see 27 = .ok (.iload_n 3, 1) := by decide +kernel
theorem dX7_see_28 : decode cX7_see 28 = .ok (.ifCond .eq 7, 3) := by decide +kernel
theorem dX7_see_31 : decode cX7_see 31 = .ok (.iconst 0, 1) := by decide +kernel
theorem dX7_see_32 : decode cX7_see 32 = .ok (.goto 4, 3) := by decide +kernel
theorem dX7_see_35 : decode cX7_see 35 = .ok (.iconst 1, 1) := by decide +kernel
theorem dX7_see_36 : decode cX7_see 36 = .ok (.iload_n 1, 1) := by decide +kernel
theorem dX7_see_37 : decode cX7_see 37 = .ok (.iload_n 2, 1) := by decide +kernel
theorem dX7_see_38 : decode cX7_see 38 = .ok (.invokevirtual 334, 3) := by decide +kernel
theorem dX7_see_41 : decode cX7_see 41 = .ok (.ireturn, 1) := by decide +kernel
theorem dX7_strike_0 : decode cX7_strike 0 = .ok (.iload_n 1, 1) := by decide +kernel
theorem dX7_strike_1 : decode cX7_strike 1 = .ok (.iconst 0, 1) := by decide +kernel
theorem dX7_strike_2 : decode cX7_strike 2 = .ok (.aload_n 0, 1) := by decide +kernel
theorem dX7_strike_3 : decode cX7_strike 3 = .ok (.getfield 26, 3) := by decide +kernel
theorem dX7_strike_6 : decode cX7_strike 6 = .ok (.getfield 336, 3) := by decide +kernel
theorem dX7_strike_9 : decode cX7_strike 9 = .ok (.iconst 1, 1) := by decide +kernel
theorem dX7_strike_10 : decode cX7_strike 10 = .ok (.isub, 1) := by decide +kernel
theorem dX7_strike_11 : decode cX7_strike 11 = .ok (.invokestatic 247, 3) := by decide +kernel
theorem dX7_strike_14 : decode cX7_strike 14 = .ok (.ifCond .ne 5, 3) := by decide +kernel
theorem dX7_strike_17 : decode cX7_strike 17 = .ok (.iconst (-1), 1) := by decide +kernel
theorem dX7_strike_18 : decode cX7_strike 18 = .ok (.ireturn, 1) := by decide +kernel
theorem dX7_strike_19 : decode cX7_strike 19 = .ok (.aload_n 0, 1) := by decide +kernel
theorem dX7_strike_20 : decode cX7_strike 20 = .ok (.getfield 26, 3) := by decide +kernel
theorem dX7_strike_23 : decode cX7_strike 23 = .ok (.iconst 2, 1) := by decide +kernel
theorem dX7_strike_24 : decode cX7_strike 24 = .ok (.iconst 0, 1) := by decide +kernel
theorem dX7_strike_25 : decode cX7_strike 25 = .ok (.iload_n 1, 1) := by decide +kernel
theorem dX7_strike_26 : decode cX7_strike 26 = .ok (.invokevirtual 334, 3) := by decide +kernel
theorem dX7_strike_29 : decode cX7_strike 29 = .ok (.ireturn, 1) := by decide +kernel
theorem dX7_known_0 : decode cX7_known 0 = .ok (.iload_n 1, 1) := by decide +kernel
theorem dX7_known_1 : decode cX7_known 1 = .ok (.iconst (-1), 1) := by decide +kernel
theorem dX7_known_2 : decode cX7_known 2 = .ok (.aload_n 0, 1) := by decide +kernel
theorem dX7_known_3 : decode cX7_known 3 = .ok (.getfield 26, 3) := by decide +kernel
theorem dX7_known_6 : decode cX7_known 6 = .ok (.getfield 336, 3) := by decide +kernel
theorem dX7_known_9 : decode cX7_known 9 = .ok (.invokestatic 247, 3) := by decide +kernel
theorem dX7_known_12 : decode cX7_known 12 = .ok (.ifCond .ne 5, 3) := by decide +kernel
theorem dX7_known_15 : decode cX7_known 15 = .ok (.iconst 0, 1) := by decide +kernel
theorem dX7_known_16 : decode cX7_known 16 = .ok (.ireturn, 1) := by decide +kernel
theorem dX7_known_17 : decode cX7_known 17 = .ok (.aload_n 0, 1) := by decide +kernel
theorem dX7_known_18 : decode cX7_known 18 = .ok (.getfield 26, 3) := by decide +kernel
theorem dX7_known_21 : decode cX7_known 21 = .ok (.iload_n 1, 1) := by decide +kernel
theorem dX7_known_22 : decode cX7_known 22 = .ok (.putfield 337, 3) := by decide +kernel
theorem dX7_known_25 : decode cX7_known 25 = .ok (.iconst 1, 1) := by decide +kernel
theorem dX7_known_26 : decode cX7_known 26 = .ok (.ireturn, 1) := by decide +kernel
theorem dX7_agreesWithSeen_0 : decode cX7_agreesWithSeen 0 = .ok (.aload_n 0, 1) := by decide +kernel
theorem dX7_agreesWithSeen_1 : decode cX7_agreesWithSeen 1 = .ok (.getfield 78, 3) := by decide +kernel
theorem dX7_agreesWithSeen_4 : decode cX7_agreesWithSeen 4 = .ok (.iconst 0, 1) := by decide +kernel
theorem dX7_agreesWithSeen_5 : decode cX7_agreesWithSeen 5 = .ok (.aaload, 1) := by decide +kernel
theorem dX7_agreesWithSeen_6 : decode cX7_agreesWithSeen 6 = .ok (.astore_n 3, 1) := by decide +kernel
theorem dX7_agreesWithSeen_7 : decode cX7_agreesWithSeen 7 = .ok (.aload_n 3, 1) := by decide +kernel
theorem dX7_agreesWithSeen_8 : decode cX7_agreesWithSeen 8 = .ok (.aload_n 0, 1) := by decide +kernel
theorem dX7_agreesWithSeen_9 : decode cX7_agreesWithSeen 9 = .ok (.getfield 68, 3) := by decide +kernel
theorem dX7_agreesWithSeen_12 : decode cX7_agreesWithSeen 12 = .ok (.invokevirtual 109, 3) := by decide +kernel
theorem dX7_agreesWithSeen_15 : decode cX7_agreesWithSeen 15 = .ok (.aload_n 3, 1) := by decide +kernel
theorem dX7_agreesWithSeen_16 : decode cX7_agreesWithSeen 16 = .ok (.getfield 161, 3) := by decide +kernel
theorem dX7_agreesWithSeen_19 : decode cX7_agreesWithSeen 19 = .ok (.iload_n 1, 1) := by decide +kernel
theorem dX7_agreesWithSeen_20 : decode cX7_agreesWithSeen 20 = .ok (.iload_n 2, 1) := by decide +kernel
theorem dX7_agreesWithSeen_21 : decode cX7_agreesWithSeen 21 = .ok (.iastore, 1) := by decide +kernel
theorem dX7_agreesWithSeen_22 : decode cX7_agreesWithSeen 22 = .ok (.aload_n 0, 1) := by decide +kernel
theorem dX7_agreesWithSeen_23 : decode cX7_agreesWithSeen 23 = .ok (.getfield 26, 3) := by decide +kernel
theorem dX7_agreesWithSeen_26 : decode cX7_agreesWithSeen 26 = .ok (.invokevirtual 346, 3) := by decide +kernel
theorem dX7_agreesWithSeen_29 : decode cX7_agreesWithSeen 29 = .ok (.istore 4, 2) := by decide +kernel
theorem dX7_agreesWithSeen_31 : decode cX7_agreesWithSeen 31 = .ok (.iconst 1, 1) := by decide +kernel
theorem dX7_agreesWithSeen_32 : decode cX7_agreesWithSeen 32 = .ok (.istore 5, 2) := by decide +kernel
theorem dX7_agreesWithSeen_34 : decode cX7_agreesWithSeen 34 = .ok (.iload 5, 2) := by decide +kernel
theorem dX7_agreesWithSeen_36 : decode cX7_agreesWithSeen 36 = .ok (.iload 4, 2) := by decide +kernel
theorem dX7_agreesWithSeen_38 : decode cX7_agreesWithSeen 38 = .ok (.if_icmp .gt 31, 3) := by decide +kernel
theorem dX7_agreesWithSeen_41 : decode cX7_agreesWithSeen 41 = .ok (.aload_n 3, 1) := by decide +kernel
theorem dX7_agreesWithSeen_42 : decode cX7_agreesWithSeen 42 = .ok (.invokevirtual 278, 3) := by decide +kernel
theorem dX7_agreesWithSeen_45 : decode cX7_agreesWithSeen 45 = .ok (.aload_n 0, 1) := by decide +kernel
theorem dX7_agreesWithSeen_46 : decode cX7_agreesWithSeen 46 = .ok (.getfield 26, 3) := by decide +kernel
theorem dX7_agreesWithSeen_49 : decode cX7_agreesWithSeen 49 = .ok (.iload 5, 2) := by decide +kernel
theorem dX7_agreesWithSeen_51 : decode cX7_agreesWithSeen 51 = .ok (.aload_n 3, 1) := by decide +kernel
theorem dX7_agreesWithSeen_52 : decode cX7_agreesWithSeen 52 = .ok (.getfield 221, 3) := by decide +kernel
theorem dX7_agreesWithSeen_55 : decode cX7_agreesWithSeen 55 = .ok (.invokevirtual 349, 3) := by decide +kernel
theorem dX7_agreesWithSeen_58 : decode cX7_agreesWithSeen 58 = .ok (.ifCond .ne 5, 3) := by decide +kernel
theorem dX7_agreesWithSeen_61 : decode cX7_agreesWithSeen 61 = .ok (.iconst 0, 1) := by decide +kernel
theorem dX7_agreesWithSeen_62 : decode cX7_agreesWithSeen 62 = .ok (.ireturn, 1) := by decide +kernel
theorem dX7_agreesWithSeen_63 : decode cX7_agreesWithSeen 63 = .ok (.iinc 5 1, 3) := by decide +kernel
theorem dX7_agreesWithSeen_66 : decode cX7_agreesWithSeen 66 = .ok (.goto (-32), 3) := by decide +kernel
theorem dX7_agreesWithSeen_69 : decode cX7_agreesWithSeen 69 = .ok (.iconst 1, 1) := by decide +kernel
theorem dX7_agreesWithSeen_70 : decode cX7_agreesWithSeen 70 = .ok (.ireturn, 1) := by decide +kernel
theorem dX7_came_0 : decode cX7_came 0 = .ok (.aload_n 0, 1) := by decide +kernel
theorem dX7_came_1 : decode cX7_came 1 = .ok (.iload_n 1, 1) := by decide +kernel
theorem dX7_came_2 : decode cX7_came 2 = .ok (.invokevirtual 152, 3) := by decide +kernel
theorem dX7_came_5 : decode cX7_came 5 = .ok (.ifCond .ne 5, 3) := by decide +kernel
theorem dX7_came_8 : decode cX7_came 8 = .ok (.iconst (-1), 1) := by decide +kernel
theorem dX7_came_9 : decode cX7_came 9 = .ok (.ireturn, 1) := by decide +kernel
theorem dX7_came_10 : decode cX7_came 10 = .ok (.aload_n 0, 1) := by decide +kernel
theorem dX7_came_11 : decode cX7_came 11 = .ok (.getfield 26, 3) := by decide +kernel
theorem dX7_came_14 : decode cX7_came 14 = .ok (.invokevirtual 340, 3) := by decide +kernel
theorem dX7_came_17 : decode cX7_came 17 = .ok (.iconst 0, 1) := by decide +kernel
theorem dX7_came_18 : decode cX7_came 18 = .ok (.istore_n 2, 1) := by decide +kernel
theorem dX7_came_19 : decode cX7_came 19 = .ok (.iconst 0, 1) := by decide +kernel
theorem dX7_came_20 : decode cX7_came 20 = .ok (.istore_n 3, 1) := by decide +kernel
theorem dX7_came_21 : decode cX7_came 21 = .ok (.iload_n 3, 1) := by decide +kernel
theorem dX7_came_22 : decode cX7_came 22 = .ok (.bipush 24, 2) := by decide +kernel
theorem dX7_came_24 : decode cX7_came 24 = .ok (.if_icmp .ge 24, 3) := by decide +kernel
theorem dX7_came_27 : decode cX7_came 27 = .ok (.aload_n 0, 1) := by decide +kernel
theorem dX7_came_28 : decode cX7_came 28 = .ok (.iload_n 1, 1) := by decide +kernel
theorem dX7_came_29 : decode cX7_came 29 = .ok (.iload_n 3, 1) := by decide +kernel
theorem dX7_came_30 : decode cX7_came 30 = .ok (.invokevirtual 343, 3) := by decide +kernel
theorem dX7_came_33 : decode cX7_came 33 = .ok (.ifCond .eq 9, 3) := by decide +kernel
theorem dX7_came_36 : decode cX7_came 36 = .ok (.iload_n 2, 1) := by decide +kernel
theorem dX7_came_37 : decode cX7_came 37 = .ok (.iconst 1, 1) := by decide +kernel
theorem dX7_came_38 : decode cX7_came 38 = .ok (.iload_n 3, 1) := by decide +kernel
theorem dX7_came_39 : decode cX7_came 39 = .ok (.ishl, 1) := by decide +kernel
theorem dX7_came_40 : decode cX7_came 40 = .ok (.ior, 1) := by decide +kernel
theorem dX7_came_41 : decode cX7_came 41 = .ok (.istore_n 2, 1) := by decide +kernel
theorem dX7_came_42 : decode cX7_came 42 = .ok (.iinc 3 1, 3) := by decide +kernel
theorem dX7_came_45 : decode cX7_came 45 = .ok (.goto (-24), 3) := by decide +kernel
theorem dX7_came_48 : decode cX7_came 48 = .ok (.iload_n 2, 1) := by decide +kernel
theorem dX7_came_49 : decode cX7_came 49 = .ok (.ireturn, 1) := by decide +kernel
theorem dX7_chance_0 : decode cX7_chance 0 = .ok (.iload_n 1, 1) := by decide +kernel
theorem dX7_chance_1 : decode cX7_chance 1 = .ok (.ifCond .lt 33, 3) := by decide +kernel
theorem dX7_chance_4 : decode cX7_chance 4 = .ok (.iload_n 2, 1) := by decide +kernel
theorem dX7_chance_5 : decode cX7_chance 5 = .ok (.iconst 1, 1) := by decide +kernel
theorem dX7_chance_6 : decode cX7_chance 6 = .ok (.bipush 99, 2) := by decide +kernel
theorem dX7_chance_8 : decode cX7_chance 8 = .ok (.invokestatic 247, 3) := by decide +kernel
theorem dX7_chance_11 : decode cX7_chance 11 = .ok (.ifCond .eq 23, 3) := by decide +kernel
theorem dX7_chance_14 : decode cX7_chance 14 = .ok (.aload_n 0, 1) := by decide +kernel
theorem dX7_chance_15 : decode cX7_chance 15 = .ok (.iload_n 3, 1) := by decide +kernel
theorem dX7_chance_16 : decode cX7_chance 16 = .ok (.invokevirtual 152, 3) := by decide +kernel
theorem dX7_chance_19 : decode cX7_chance 19 = .ok (.ifCond .eq 15, 3) := by decide +kernel
theorem dX7_chance_22 : decode cX7_chance 22 = .ok (.iload 4, 2) := by decide +kernel
theorem dX7_chance_24 : decode cX7_chance 24 = .ok (.iconst 0, 1) := by decide +kernel
theorem dX7_chance_25 : decode cX7_chance 25 = .ok (.ldc_w 352, 3) := by decide +kernel
theorem dX7_chance_28 : decode cX7_chance 28 = .ok (.invokestatic 247, 3) := by decide +kernel
theorem dX7_chance_31 : decode cX7_chance 31 = .ok (.ifCond .ne 5, 3) := by decide +kernel
theorem dX7_chance_34 : decode cX7_chance 34 = .ok (.iconst (-1), 1) := by decide +kernel
theorem dX7_chance_35 : decode cX7_chance 35 = .ok (.ireturn, 1) := by decide +kernel
theorem dX7_chance_36 : decode cX7_chance 36 = .ok (.aload_n 0, 1) := by decide +kernel
theorem dX7_chance_37 : decode cX7_chance 37 = .ok (.getfield 78, 3) := by decide +kernel
theorem dX7_chance_40 : decode cX7_chance 40 = .ok (.iconst 0, 1) := by decide +kernel
theorem dX7_chance_41 : decode cX7_chance 41 = .ok (.aaload, 1) := by decide +kernel
theorem dX7_chance_42 : decode cX7_chance 42 = .ok (.astore 5, 2) := by decide +kernel
theorem dX7_chance_44 : decode cX7_chance 44 = .ok (.iconst 0, 1) := by decide +kernel
theorem dX7_chance_45 : decode cX7_chance 45 = .ok (.istore 6, 2) := by decide +kernel
theorem dX7_chance_47 : decode cX7_chance 47 = .ok (.iload_n 1, 1) := by decide +kernel
theorem dX7_chance_48 : decode cX7_chance 48 = .ok (.istore 7, 2) := by decide +kernel
theorem dX7_chance_50 : decode cX7_chance 50 = .ok (.iconst 0, 1) := by decide +kernel
theorem dX7_chance_51 : decode cX7_chance 51 = .ok (.istore 8, 2) := by decide +kernel
theorem dX7_chance_53 : decode cX7_chance 53 = .ok (.iload 8, 2) := by decide +kernel
theorem dX7_chance_55 : decode cX7_chance 55 = .ok (.bipush 10, 2) := by decide +kernel
theorem dX7_chance_57 : decode cX7_chance 57 = .ok (.if_icmp .ge 53, 3) := by decide +kernel
theorem dX7_chance_60 : decode cX7_chance 60 = .ok (.aload 5, 2) := by decide +kernel
theorem dX7_chance_62 : decode cX7_chance 62 = .ok (.aload_n 0, 1) := by decide +kernel
theorem dX7_chance_63 : decode cX7_chance 63 = .ok (.getfield 72, 3) := by decide +kernel
theorem dX7_chance_66 : decode cX7_chance 66 = .ok (.invokevirtual 109, 3) := by decide +kernel
theorem dX7_chance_69 : decode cX7_chance 69 = .ok (.aload 5, 2) := by decide +kernel
theorem dX7_chance_71 : decode cX7_chance 71 = .ok (.iload 7, 2) := by decide +kernel
theorem dX7_chance_73 : decode cX7_chance 73 = .ok (.putfield 353, 3) := by decide +kernel
theorem dX7_chance_76 : decode cX7_chance 76 = .ok (.aload 5, 2) := by decide +kernel
theorem dX7_chance_78 : decode cX7_chance 78 = .ok (.iload_n 2, 1) := by decide +kernel
theorem dX7_chance_79 : decode cX7_chance 79 = .ok (.invokevirtual 244, 3) := by decide +kernel
theorem dX7_chance_82 : decode cX7_chance 82 = .ok (.aload 5, 2) := by decide +kernel
theorem dX7_chance_84 : decode cX7_chance 84 = .ok (.getfield 353, 3) := by decide +kernel
theorem dX7_chance_87 : decode cX7_chance 87 = .ok (.istore 7, 2) := by decide +kernel
theorem dX7_chance_89 : decode cX7_chance 89 = .ok (.aload 5, 2) := by decide +kernel
theorem dX7_chance_91 : decode cX7_chance 91 = .ok (.getfield 167, 3) := by decide +kernel
theorem dX7_chance_94 : decode cX7_chance 94 = .ok (.iload_n 3, 1) := by decide +kernel
theorem dX7_chance_95 : decode cX7_chance 95 = .ok (.iaload, 1) := by decide +kernel
theorem dX7_chance_96 : decode cX7_chance 96 = .ok (.iload 4, 2) := by decide +kernel
theorem dX7_chance_98 : decode cX7_chance 98 = .ok (.if_icmp .lt 6, 3) := by decide +kernel
theorem dX7_chance_101 : decode cX7_chance 101 = .ok (.iinc 6 1, 3) := by decide +kernel
theorem dX7_chance_104 : decode cX7_chance 104 = .ok (.iinc 8 1, 3) := by decide +kernel
theorem dX7_chance_107 : decode cX7_chance 107 = .ok (.goto (-54), 3) := by decide +kernel
theorem dX7_chance_110 : decode cX7_chance 110 = .ok (.iload 6, 2) := by decide +kernel
theorem dX7_chance_112 : decode cX7_chance 112 = .ok (.ireturn, 1) := by decide +kernel
theorem dX7_tried_0 : decode cX7_tried 0 = .ok (.iload_n 1, 1) := by decide +kernel
theorem dX7_tried_1 : decode cX7_tried 1 = .ok (.iconst 1, 1) := by decide +kernel
theorem dX7_tried_2 : decode cX7_tried 2 = .ok (.if_icmp .ne 11, 3) := by decide +kernel
theorem dX7_tried_5 : decode cX7_tried 5 = .ok (.aload_n 0, 1) := by decide +kernel
theorem dX7_tried_6 : decode cX7_tried 6 = .ok (.iload_n 2, 1) := by decide +kernel
theorem dX7_tried_7 : decode cX7_tried 7 = .ok (.invokevirtual 152, 3) := by decide +kernel
theorem dX7_tried_10 : decode cX7_tried 10 = .ok (.goto 21, 3) := by decide +kernel
theorem dX7_tried_13 : decode cX7_tried 13 = .ok (.iload_n 1, 1) := by decide +kernel
theorem dX7_tried_14 : decode cX7_tried 14 = .ok (.iconst 0, 1) := by decide +kernel
theorem dX7_tried_15 : decode cX7_tried 15 = .ok (.iconst 4, 1) := by decide +kernel
theorem dX7_tried_16 : decode cX7_tried 16 = .ok (.invokestatic 247, 3) := by decide +kernel
theorem dX7_tried_19 : decode cX7_tried 19 = .ok (.ifCond .eq 11, 3) := by decide +kernel
theorem dX7_tried_22 : decode cX7_tried 22 = .ok (.iload_n 2, 1) := by decide +kernel
theorem dX7_tried_23 : decode cX7_tried 23 = .ok (.ifCond .ne 7, 3) := by decide +kernel
theorem dX7_tried_26 : decode cX7_tried 26 = .ok (.iconst 1, 1) := by decide +kernel
theorem dX7_tried_27 : decode cX7_tried 27 = .ok (.goto 4, 3) := by decide +kernel
theorem dX7_tried_30 : decode cX7_tried 30 = .ok (.iconst 0, 1) := by decide +kernel
theorem dX7_tried_31 : decode cX7_tried 31 = .ok (.istore 4, 2) := by decide +kernel
theorem dX7_tried_33 : decode cX7_tried 33 = .ok (.iload 4, 2) := by decide +kernel
theorem dX7_tried_35 : decode cX7_tried 35 = .ok (.ifCond .eq 13, 3) := by decide +kernel
theorem dX7_tried_38 : decode cX7_tried 38 = .ok (.iload_n 3, 1) := by decide +kernel
theorem dX7_tried_39 : decode cX7_tried 39 = .ok (.iconst 0, 1) := by decide +kernel
theorem dX7_tried_40 : decode cX7_tried 40 = .ok (.bipush 99, 2) := by decide +kernel
theorem dX7_tried_42 : decode cX7_tried 42 = .ok (.invokestatic 247, 3) := by decide +kernel
theorem dX7_tried_45 : decode cX7_tried 45 = .ok (.ifCond .ne 5, 3) := by decide +kernel
theorem dX7_tried_48 : decode cX7_tried 48 = .ok (.iconst (-1), 1) := by decide +kernel
theorem dX7_tried_49 : decode cX7_tried 49 = .ok (.ireturn, 1) := by decide +kernel
theorem dX7_tried_50 : decode cX7_tried 50 = .ok (.aload_n 0, 1) := by decide +kernel
theorem dX7_tried_51 : decode cX7_tried 51 = .ok (.getfield 78, 3) := by decide +kernel
theorem dX7_tried_54 : decode cX7_tried 54 = .ok (.iconst 0, 1) := by decide +kernel
theorem dX7_tried_55 : decode cX7_tried 55 = .ok (.aaload, 1) := by decide +kernel
theorem dX7_tried_56 : decode cX7_tried 56 = .ok (.astore 5, 2) := by decide +kernel
theorem dX7_tried_58 : decode cX7_tried 58 = .ok (.aload 5, 2) := by decide +kernel
theorem dX7_tried_60 : decode cX7_tried 60 = .ok (.aload_n 0, 1) := by decide +kernel
theorem dX7_tried_61 : decode cX7_tried 61 = .ok (.getfield 72, 3) := by decide +kernel
theorem dX7_tried_64 : decode cX7_tried 64 = .ok (.invokevirtual 109, 3) := by decide +kernel
theorem dX7_tried_67 : decode cX7_tried 67 = .ok (.aload 5, 2) := by decide +kernel
theorem dX7_tried_69 : decode cX7_tried 69 = .ok (.iload_n 1, 1) := by decide +kernel
theorem dX7_tried_70 : decode cX7_tried 70 = .ok (.iload_n 2, 1) := by decide +kernel
theorem dX7_tried_71 : decode cX7_tried 71 = .ok (.invokevirtual 356, 3) := by decide +kernel
theorem dX7_tried_74 : decode cX7_tried 74 = .ok (.aload 5, 2) := by decide +kernel
theorem dX7_tried_76 : decode cX7_tried 76 = .ok (.iload_n 3, 1) := by decide +kernel
theorem dX7_tried_77 : decode cX7_tried 77 = .ok (.invokevirtual 265, 3) := by decide +kernel
theorem dX7_tried_80 : decode cX7_tried 80 = .ok (.aload 5, 2) := by decide +kernel
theorem dX7_tried_82 : decode cX7_tried 82 = .ok (.invokevirtual 262, 3) := by decide +kernel
theorem dX7_tried_85 : decode cX7_tried 85 = .ok (.aload_n 0, 1) := by decide +kernel
theorem dX7_tried_86 : decode cX7_tried 86 = .ok (.getfield 72, 3) := by decide +kernel
theorem dX7_tried_89 : decode cX7_tried 89 = .ok (.invokevirtual 262, 3) := by decide +kernel
theorem dX7_tried_92 : decode cX7_tried 92 = .ok (.isub, 1) := by decide +kernel
theorem dX7_tried_93 : decode cX7_tried 93 = .ok (.ireturn, 1) := by decide +kernel
theorem dX7_count_0 : decode cX7_count 0 = .ok (.iload_n 1, 1) := by decide +kernel
theorem dX7_count_1 : decode cX7_count 1 = .ok (.tableswitch 198 0 14 #[75, 83, 91, 99, 107, 118, 126, 134, 142, 150, 158, 166, 174, 182, 190], 75) := by decide +kernel
theorem dX7_count_76 : decode cX7_count 76 = .ok (.aload_n 0, 1) := by decide +kernel
theorem dX7_count_77 : decode cX7_count 77 = .ok (.getfield 56, 3) := by decide +kernel
theorem dX7_count_80 : decode cX7_count 80 = .ok (.getfield 307, 3) := by decide +kernel
theorem dX7_count_83 : decode cX7_count 83 = .ok (.ireturn, 1) := by decide +kernel
theorem dX7_count_84 : decode cX7_count 84 = .ok (.aload_n 0, 1) := by decide +kernel
theorem dX7_count_85 : decode cX7_count 85 = .ok (.getfield 56, 3) := by decide +kernel
theorem dX7_count_88 : decode cX7_count 88 = .ok (.getfield 315, 3) := by decide +kernel
theorem dX7_count_91 : decode cX7_count 91 = .ok (.ireturn, 1) := by decide +kernel
theorem dX7_count_92 : decode cX7_count 92 = .ok (.aload_n 0, 1) := by decide +kernel
theorem dX7_count_93 : decode cX7_count 93 = .ok (.getfield 56, 3) := by decide +kernel
theorem dX7_count_96 : decode cX7_count 96 = .ok (.getfield 362, 3) := by decide +kernel
theorem dX7_count_99 : decode cX7_count 99 = .ok (.ireturn, 1) := by decide +kernel
theorem dX7_count_100 : decode cX7_count 100 = .ok (.aload_n 0, 1) := by decide +kernel
theorem dX7_count_101 : decode cX7_count 101 = .ok (.getfield 56, 3) := by decide +kernel
theorem dX7_count_104 : decode cX7_count 104 = .ok (.getfield 365, 3) := by decide +kernel
theorem dX7_count_107 : decode cX7_count 107 = .ok (.ireturn, 1) := by decide +kernel
theorem dX7_count_108 : decode cX7_count 108 = .ok (.aload_n 0, 1) := by decide +kernel
theorem dX7_count_109 : decode cX7_count 109 = .ok (.getfield 56, 3) := by decide +kernel
theorem dX7_count_112 : decode cX7_count 112 = .ok (.getfield 210, 3) := by decide +kernel
theorem dX7_count_115 : decode cX7_count 115 = .ok (.getfield 368, 3) := by decide +kernel
theorem dX7_count_118 : decode cX7_count 118 = .ok (.ireturn, 1) := by decide +kernel
theorem dX7_count_119 : decode cX7_count 119 = .ok (.aload_n 0, 1) := by decide +kernel
theorem dX7_count_120 : decode cX7_count 120 = .ok (.getfield 72, 3) := by decide +kernel
theorem dX7_count_123 : decode cX7_count 123 = .ok (.getfield 241, 3) := by decide +kernel
theorem dX7_count_126 : decode cX7_count 126 = .ok (.ireturn, 1) := by decide +kernel
theorem dX7_count_127 : decode cX7_count 127 = .ok (.aload_n 0, 1) := by decide +kernel
theorem dX7_count_128 : decode cX7_count 128 = .ok (.getfield 72, 3) := by decide +kernel
theorem dX7_count_131 : decode cX7_count 131 = .ok (.invokevirtual 369, 3) := by decide +kernel
theorem dX7_count_134 : decode cX7_count 134 = .ok (.ireturn, 1) := by decide +kernel
theorem dX7_count_135 : decode cX7_count 135 = .ok (.aload_n 0, 1) := by decide +kernel
theorem dX7_count_136 : decode cX7_count 136 = .ok (.getfield 72, 3) := by decide +kernel
theorem dX7_count_139 : decode cX7_count 139 = .ok (.getfield 221, 3) := by decide +kernel
theorem dX7_count_142 : decode cX7_count 142 = .ok (.ireturn, 1) := by decide +kernel
theorem dX7_count_143 : decode cX7_count 143 = .ok (.aload_n 0, 1) := by decide +kernel
theorem dX7_count_144 : decode cX7_count 144 = .ok (.getfield 72, 3) := by decide +kernel
theorem dX7_count_147 : decode cX7_count 147 = .ok (.getfield 259, 3) := by decide +kernel
theorem dX7_count_150 : decode cX7_count 150 = .ok (.ireturn, 1) := by decide +kernel
theorem dX7_count_151 : decode cX7_count 151 = .ok (.aload_n 0, 1) := by decide +kernel
theorem dX7_count_152 : decode cX7_count 152 = .ok (.getfield 72, 3) := by decide +kernel
theorem dX7_count_155 : decode cX7_count 155 = .ok (.invokevirtual 255, 3) := by decide +kernel
theorem dX7_count_158 : decode cX7_count 158 = .ok (.ireturn, 1) := by decide +kernel
theorem dX7_count_159 : decode cX7_count 159 = .ok (.aload_n 0, 1) := by decide +kernel
theorem dX7_count_160 : decode cX7_count 160 = .ok (.getfield 72, 3) := by decide +kernel
theorem dX7_count_163 : decode cX7_count 163 = .ok (.invokevirtual 262, 3) := by decide +kernel
theorem dX7_count_166 : decode cX7_count 166 = .ok (.ireturn, 1) := by decide +kernel
theorem dX7_count_167 : decode cX7_count 167 = .ok (.aload_n 0, 1) := by decide +kernel
theorem dX7_count_168 : decode cX7_count 168 = .ok (.getfield 72, 3) := by decide +kernel
theorem dX7_count_171 : decode cX7_count 171 = .ok (.getfield 231, 3) := by decide +kernel
theorem dX7_count_174 : decode cX7_count 174 = .ok (.ireturn, 1) := by decide +kernel
theorem dX7_count_175 : decode cX7_count 175 = .ok (.aload_n 0, 1) := by decide +kernel
theorem dX7_count_176 : decode cX7_count 176 = .ok (.getfield 26, 3) := by decide +kernel
theorem dX7_count_179 : decode cX7_count 179 = .ok (.getfield 336, 3) := by decide +kernel
theorem dX7_count_182 : decode cX7_count 182 = .ok (.ireturn, 1) := by decide +kernel
theorem dX7_count_183 : decode cX7_count 183 = .ok (.aload_n 0, 1) := by decide +kernel
theorem dX7_count_184 : decode cX7_count 184 = .ok (.getfield 26, 3) := by decide +kernel
theorem dX7_count_187 : decode cX7_count 187 = .ok (.invokevirtual 372, 3) := by decide +kernel
theorem dX7_count_190 : decode cX7_count 190 = .ok (.ireturn, 1) := by decide +kernel
theorem dX7_count_191 : decode cX7_count 191 = .ok (.aload_n 0, 1) := by decide +kernel
theorem dX7_count_192 : decode cX7_count 192 = .ok (.getfield 33, 3) := by decide +kernel
theorem dX7_count_195 : decode cX7_count 195 = .ok (.getfield 117, 3) := by decide +kernel
theorem dX7_count_198 : decode cX7_count 198 = .ok (.ireturn, 1) := by decide +kernel
theorem dX7_count_199 : decode cX7_count 199 = .ok (.iconst (-1), 1) := by decide +kernel
theorem dX7_count_200 : decode cX7_count 200 = .ok (.ireturn, 1) := by decide +kernel
def f_X7_see (h : Hp) (p1 : Int32) (p2 : Int32) (p3 : Bool) : Option (Int32 × Hp) :=
  (f_X7_isIn p1 1 99).bind fun v1 =>
  jn (
    some ((-1), h)) fun (j21 : Option (Int32 × Hp)) =>
  if (b2i v1) = 0 then
    j21
  else
  (f_X7_isIn p2 0 9999).bind fun v2 =>
  if ¬ (b2i v2) = 0 then
    jn (fun (v3 : Bool) =>
      bd2 (f_X2_add h (b2i v3) p1 p2) fun v5 h4 =>
      some (v5, h4)) fun (j36 : Bool → Option (Int32 × Hp)) =>
    if (b2i p3) = 0 then
      j36 true
    else
    j36 false
  else
  j21
abbrev rmX7_see : Room := { frames := 1, cells := 0, slots := 0, locals := 23 }
set_option maxRecDepth 100000 in
set_option maxHeartbeats 4000000 in
theorem w_X7_see (X : Cx) (F : Fx X cX7_see RX7 (some .int) rmX7_see) (hA : xA X = Aw (xG X)) (hL : xL X = 4) (h : Hp) (p1 : Int32) (p2 : Int32) (p3 : Bool) : Wm X (fun v => some (.int v.1)) (fun v => v.2) (fun _ => True) 0 [(0, .ref (adr (xG X) 7 0 0)), (1, .int p1), (2, .int p2), (3, .int (b2i p3))] [] h (f_X7_see h p1 p2 p3) := by
  have hS : ∀ i : Nat, i < 4 → i < xL X := fun i z => by rw [hL]; exact z
  unfold f_X7_see
  refine r_iload_n F 1 rfl dX7_see_0 rfl ?_
  refine r_iconst F (v := 1) dX7_see_1 (by decide) ?_
  refine r_bipush F (v := 99) dX7_see_2 (by decide) ?_
  refine k_zP (run_S F csX7_247 (c_X7_isIn (xG X) _ h p1 1 99) rfl rfl ⟨⟨rfl, rfl⟩, Nat.le_of_ble_eq_true rfl, Nat.le_of_ble_eq_true rfl⟩ (Nat.le_of_ble_eq_true rfl) dX7_see_4) fun v1 _ => ?_
  refine Wt_jn (fun (j21 : Option (Int32 × Hp)) => Wm X (fun v => some (.int v.1)) (fun v => v.2) (fun _ => True) 21 [] [] h (j21)) ?_ fun j21 hj21 => ?_
  · skip
    refine r_iconst F (v := (-1)) dX7_see_21 (by decide) ?_
    exact r_iret F hA rfl rfl trivial dX7_see_22
  refine r_ifeq F (tgt := 21) dX7_see_7 (by decide) ?_ ?_
  · skip
    exact Wt_pick [] rfl (hj21)
  refine r_iload_n F 2 rfl dX7_see_10 rfl ?_
  refine r_iconst F (v := 0) dX7_see_11 (by decide) ?_
  refine r_sipush F (v := 9999) dX7_see_12 (by decide) ?_
  refine k_zP (run_S F csX7_247 (c_X7_isIn (xG X) _ h p2 0 9999) rfl rfl ⟨⟨rfl, rfl⟩, Nat.le_of_ble_eq_true rfl, Nat.le_of_ble_eq_true rfl⟩ (Nat.le_of_ble_eq_true rfl) dX7_see_15) fun v2 _ => ?_
  refine r_ifne F (tgt := 23) dX7_see_18 (by decide) ?_ ?_
  · skip
    refine r_aload_n F 0 rfl dX7_see_23 rfl ?_
    refine r_getS F frX7_26 (by decide) 0 rfl dX7_see_24 ?_
    refine r_iload_n F 3 rfl dX7_see_27 rfl ?_
    refine Wt_jn (fun (j36 : Bool → Option (Int32 × Hp)) => ∀ v3 : Bool, Wm X (fun v => some (.int v.1)) (fun v => v.2) (fun _ => True) 36 [(1, .int p1), (2, .int p2)] [.int (b2i v3), .ref (adr (xG X) 2 0 0)] h (j36 v3)) ?_ fun j36 hj36 => ?_
    · intro v3
      refine r_iload_n F 0 rfl dX7_see_36 rfl ?_
      refine r_iload_n F 1 rfl dX7_see_37 rfl ?_
      refine k_iH (run_V F cvX7_334 (by decide) (c_X2_add (xG X) _ h (b2i v3) p1 p2) rfl rfl ⟨⟨rfl, rfl⟩, Nat.le_of_ble_eq_true rfl, Nat.le_of_ble_eq_true rfl⟩ (Nat.le_of_ble_eq_true rfl) dX7_see_38) fun v5 h4 => ?_
      exact r_iret F hA rfl rfl trivial dX7_see_41
    refine r_ifeq F (tgt := 35) dX7_see_28 (by decide) ?_ ?_
    · skip
      refine r_iconst F (v := 1) dX7_see_35 (by decide) ?_
      exact Wt_pick [1, 2] rfl (hj36 true)
    refine r_iconst F (v := 0) dX7_see_31 (by decide) ?_
    refine r_goto F (tgt := 36) dX7_see_32 (by decide) ?_
    exact Wt_pick [1, 2] rfl (hj36 false)
  exact Wt_pick [] rfl (hj21)
theorem c_X7_see (G : Gx) (l : Launch) (h : Hp) (p1 : Int32) (p2 : Int32) (p3 : Bool) : Ctr G l yX7_see (.code yX7_see cX7_see 4 (some .int) :: GT) rmX7_see [.ref (adr G 7 0 0), .int p1, .int p2, .int (b2i p3)] h (f_X7_see h p1 p2 p3) (fun v => some (.int v.1)) (fun v => v.2) (fun _ => True) :=
  ctr_of (by decide) (Nat.le_of_ble_eq_true rfl) ⟨rfl, rfl⟩ fun X _ e2 hA hL F => by subst e2; exact w_X7_see X F hA hL h p1 p2 p3
def f_X7_strike (h : Hp) (p1 : Int32) : Option (Int32 × Hp) :=
  (f_X7_isIn p1 0 ((gI h 2 0 4) - 1)).bind fun v1 =>
  if ¬ (b2i v1) = 0 then
    bd2 (f_X2_add h 2 0 p1) fun v3 h2 =>
    some (v3, h2)
  else
  some ((-1), h)
abbrev rmX7_strike : Room := { frames := 1, cells := 0, slots := 0, locals := 23 }
set_option maxRecDepth 100000 in
set_option maxHeartbeats 4000000 in
theorem w_X7_strike (X : Cx) (F : Fx X cX7_strike RX7 (some .int) rmX7_strike) (hA : xA X = Aw (xG X)) (hL : xL X = 2) (h : Hp) (p1 : Int32) : Wm X (fun v => some (.int v.1)) (fun v => v.2) (fun _ => True) 0 [(0, .ref (adr (xG X) 7 0 0)), (1, .int p1)] [] h (f_X7_strike h p1) := by
  have hS : ∀ i : Nat, i < 2 → i < xL X := fun i z => by rw [hL]; exact z
  unfold f_X7_strike
  refine r_iload_n F 1 rfl dX7_strike_0 rfl ?_
  refine r_iconst F (v := 0) dX7_strike_1 (by decide) ?_
  refine r_aload_n F 0 rfl dX7_strike_2 rfl ?_
  refine r_getS F frX7_26 (by decide) 0 rfl dX7_strike_3 ?_
  refine r_getI F frX7_336 (by decide) dX7_strike_6 ?_
  refine r_iconst F (v := 1) dX7_strike_9 (by decide) ?_
  refine r_isub F dX7_strike_10 ?_
  refine k_zP (run_S F csX7_247 (c_X7_isIn (xG X) _ h p1 0 ((gI h 2 0 4) - 1)) rfl rfl ⟨⟨rfl, rfl⟩, Nat.le_of_ble_eq_true rfl, Nat.le_of_ble_eq_true rfl⟩ (Nat.le_of_ble_eq_true rfl) dX7_strike_11) fun v1 _ => ?_
  refine r_ifne F (tgt := 19) dX7_strike_14 (by decide) ?_ ?_
  · skip
    refine r_aload_n F 0 rfl dX7_strike_19 rfl ?_
    refine r_getS F frX7_26 (by decide) 0 rfl dX7_strike_20 ?_
    refine r_iconst F (v := 2) dX7_strike_23 (by decide) ?_
    refine r_iconst F (v := 0) dX7_strike_24 (by decide) ?_
    refine r_iload_n F 1 rfl dX7_strike_25 rfl ?_
    refine k_iH (run_V F cvX7_334 (by decide) (c_X2_add (xG X) _ h 2 0 p1) rfl rfl ⟨⟨rfl, rfl⟩, Nat.le_of_ble_eq_true rfl, Nat.le_of_ble_eq_true rfl⟩ (Nat.le_of_ble_eq_true rfl) dX7_strike_26) fun v3 h2 => ?_
    exact r_iret F hA rfl rfl trivial dX7_strike_29
  refine r_iconst F (v := (-1)) dX7_strike_17 (by decide) ?_
  exact r_iret F hA rfl rfl trivial dX7_strike_18
theorem c_X7_strike (G : Gx) (l : Launch) (h : Hp) (p1 : Int32) : Ctr G l yX7_strike (.code yX7_strike cX7_strike 2 (some .int) :: GT) rmX7_strike [.ref (adr G 7 0 0), .int p1] h (f_X7_strike h p1) (fun v => some (.int v.1)) (fun v => v.2) (fun _ => True) :=
  ctr_of (by decide) (Nat.le_of_ble_eq_true rfl) ⟨rfl, rfl⟩ fun X _ e2 hA hL F => by subst e2; exact w_X7_strike X F hA hL h p1
def f_X7_known (h : Hp) (p1 : Int32) : Option (Bool × Hp) :=
  (f_X7_isIn p1 (-1) (gI h 2 0 4)).bind fun v1 =>
  if ¬ (b2i v1) = 0 then
    lt_ (sI h 2 0 5 p1) fun h2 =>
    some (true, h2)
  else
  some (false, h)
abbrev rmX7_known : Room := { frames := 1, cells := 0, slots := 0, locals := 22 }
set_option maxRecDepth 100000 in
set_option maxHeartbeats 4000000 in
theorem w_X7_known (X : Cx) (F : Fx X cX7_known RX7 (some .boolean) rmX7_known) (hA : xA X = Aw (xG X)) (hL : xL X = 2) (h : Hp) (p1 : Int32) : Wm X (fun v => some (.int (b2i v.1))) (fun v => v.2) (fun _ => True) 0 [(0, .ref (adr (xG X) 7 0 0)), (1, .int p1)] [] h (f_X7_known h p1) := by
  have hS : ∀ i : Nat, i < 2 → i < xL X := fun i z => by rw [hL]; exact z
  unfold f_X7_known
  refine r_iload_n F 1 rfl dX7_known_0 rfl ?_
  refine r_iconst F (v := (-1)) dX7_known_1 (by decide) ?_
  refine r_aload_n F 0 rfl dX7_known_2 rfl ?_
  refine r_getS F frX7_26 (by decide) 0 rfl dX7_known_3 ?_
  refine r_getI F frX7_336 (by decide) dX7_known_6 ?_
  refine k_zP (run_S F csX7_247 (c_X7_isIn (xG X) _ h p1 (-1) (gI h 2 0 4)) rfl rfl ⟨⟨rfl, rfl⟩, Nat.le_of_ble_eq_true rfl, Nat.le_of_ble_eq_true rfl⟩ (Nat.le_of_ble_eq_true rfl) dX7_known_9) fun v1 _ => ?_
  refine r_ifne F (tgt := 17) dX7_known_12 (by decide) ?_ ?_
  · skip
    refine r_aload_n F 0 rfl dX7_known_17 rfl ?_
    refine r_getS F frX7_26 (by decide) 0 rfl dX7_known_18 ?_
    refine r_iload_n F 1 rfl dX7_known_21 rfl ?_
    refine r_putI F frX7_337 (by decide) rfl rfl dX7_known_22 fun h2 => ?_
    refine r_iconst F (v := 1) dX7_known_25 (by decide) ?_
    exact r_zret F hA true rfl rfl rfl trivial dX7_known_26
  refine r_iconst F (v := 0) dX7_known_15 (by decide) ?_
  exact r_zret F hA false rfl rfl rfl trivial dX7_known_16
theorem c_X7_known (G : Gx) (l : Launch) (h : Hp) (p1 : Int32) : Ctr G l yX7_known (.code yX7_known cX7_known 2 (some .boolean) :: GT) rmX7_known [.ref (adr G 7 0 0), .int p1] h (f_X7_known h p1) (fun v => some (.int (b2i v.1))) (fun v => v.2) (fun _ => True) :=
  ctr_of (by decide) (Nat.le_of_ble_eq_true rfl) ⟨rfl, rfl⟩ fun X _ e2 hA hL F => by subst e2; exact w_X7_known X F hA hL h p1
def f_X7_agreesWithSeen_34 (N : Nat) (o1 : Nat) (v4 : Int32) (r34 : Int32 → Hp → Option (Bool × Hp)) (v5 : Int32) (h6 : Hp) : Option (Bool × Hp) :=
  if v4 < v5 then
    some (true, h6)
  else
  (f_X3_passHour N h6 o1).bind fun h7 =>
  (f_X2_agrees N h7 v5 (gI h7 3 o1 12)).bind fun v8 =>
  if ¬ (b2i v8) = 0 then
    lt_ (v5 + 1) fun v9 =>
    r34 v9 h7
  else
  some (false, h7)
def f_X7_agreesWithSeen (N : Nat) (h : Hp) (p1 : Int32) (p2 : Int32) : Option (Bool × Hp) :=
  grd (inb 0 7) <| lt_ (3 + (0 : Int32).toNatClampNeg) fun o1 =>
  (f_X3_copy h o1 0).bind fun h2 =>
  grd (inb p1 4) <| lt_ (sA h2 3 o1 4 p1.toNatClampNeg p2) fun h3 =>
  (f_X2_lastHour N h3).bind fun v4 =>
  iter (fun _ _ => none) (f_X7_agreesWithSeen_34 N o1 v4) N 1 h3
abbrev rmX7_agreesWithSeen : Room := { frames := 5, cells := 0, slots := 0, locals := 126 }
set_option maxRecDepth 100000 in
set_option maxHeartbeats 4000000 in
theorem w_X7_agreesWithSeen (X : Cx) (F : Fx X cX7_agreesWithSeen RX7 (some .boolean) rmX7_agreesWithSeen) (hA : xA X = Aw (xG X)) (hL : xL X = 6) (N : Nat) (h : Hp) (p1 : Int32) (p2 : Int32) : Wm X (fun v => some (.int (b2i v.1))) (fun v => v.2) (fun _ => True) 0 [(0, .ref (adr (xG X) 7 0 0)), (1, .int p1), (2, .int p2)] [] h (f_X7_agreesWithSeen N h p1 p2) := by
  have hS : ∀ i : Nat, i < 6 → i < xL X := fun i z => by rw [hL]; exact z
  unfold f_X7_agreesWithSeen
  refine r_aload_n F 0 rfl dX7_agreesWithSeen_0 rfl ?_
  refine r_getA F frX7_78 (by decide) dX7_agreesWithSeen_1 ?_
  refine r_iconst F (v := 0) dX7_agreesWithSeen_4 (by decide) ?_
  refine r_aaload F dX7_agreesWithSeen_5 fun o1 hp_o1 => ?_
  refine r_astore_n F [(3, .ref (adr (xG X) 3 o1 0)), (0, .ref (adr (xG X) 7 0 0)), (1, .int p1), (2, .int p2)] rfl dX7_agreesWithSeen_6 rfl (hS _ (by decide)) ?_
  refine r_aload_n F 0 rfl dX7_agreesWithSeen_7 rfl ?_
  refine r_aload_n F 1 rfl dX7_agreesWithSeen_8 rfl ?_
  refine r_getS F frX7_68 (by decide) 0 rfl dX7_agreesWithSeen_9 ?_
  refine k_vH (run_V F cvX7_109 hp_o1 (c_X3_copy (xG X) _ h o1 hp_o1 0 (by decide)) rfl rfl ⟨⟨rfl, rfl⟩, Nat.le_of_ble_eq_true rfl, Nat.le_of_ble_eq_true rfl⟩ (Nat.le_of_ble_eq_true rfl) dX7_agreesWithSeen_12) fun h2 => ?_
  refine r_aload_n F 0 rfl dX7_agreesWithSeen_15 rfl ?_
  refine r_getA F frX7_161 hp_o1 dX7_agreesWithSeen_16 ?_
  refine r_iload_n F 2 rfl dX7_agreesWithSeen_19 rfl ?_
  refine r_iload_n F 3 rfl dX7_agreesWithSeen_20 rfl ?_
  refine r_iastore F (ar_3_4 o1 hp_o1) dX7_agreesWithSeen_21 fun h3 => ?_
  refine r_aload_n F 1 rfl dX7_agreesWithSeen_22 rfl ?_
  refine r_getS F frX7_26 (by decide) 0 rfl dX7_agreesWithSeen_23 ?_
  refine k_iP (run_V F cvX7_346 (by decide) (c_X2_lastHour (xG X) _ N h3) rfl rfl ⟨⟨rfl, rfl⟩, Nat.le_of_ble_eq_true rfl, Nat.le_of_ble_eq_true rfl⟩ (Nat.le_of_ble_eq_true rfl) dX7_agreesWithSeen_26) fun v4 _ => ?_
  refine r_istore F [(4, .int v4), (3, .ref (adr (xG X) 3 o1 0)), (0, .ref (adr (xG X) 7 0 0)), (1, .int p1), (2, .int p2)] rfl dX7_agreesWithSeen_29 (hS _ (by decide)) ?_
  refine r_iconst F (v := 1) dX7_agreesWithSeen_31 (by decide) ?_
  refine r_istore F [(5, .int 1), (4, .int v4), (3, .ref (adr (xG X) 3 o1 0)), (0, .ref (adr (xG X) 7 0 0)), (1, .int p1), (2, .int p2)] rfl dX7_agreesWithSeen_32 (hS _ (by decide)) ?_
  have hl34 : ∀ n : Nat, ∀ v5 : Int32, ∀ h6 : Hp, Wm X (fun v => some (.int (b2i v.1))) (fun v => v.2) (fun _ => True) 34 [(0, .ref (adr (xG X) 7 0 0)), (3, .ref (adr (xG X) 3 o1 0)), (4, .int v4), (5, .int v5)] [] h6 (iter (fun _ _ => none) (f_X7_agreesWithSeen_34 N o1 v4) n v5 h6) := by
    intro n
    induction n with
    | zero => intro v5 h6; exact Wt_none
    | succ n ih =>
      revert ih
      show (∀ v5 : Int32, ∀ h6 : Hp, Wm X (fun v => some (.int (b2i v.1))) (fun v => v.2) (fun _ => True) 34 [(0, .ref (adr (xG X) 7 0 0)), (3, .ref (adr (xG X) 3 o1 0)), (4, .int v4), (5, .int v5)] [] h6 (iter (fun _ _ => none) (f_X7_agreesWithSeen_34 N o1 v4) n v5 h6)) → _
      intro ih34 v5 h6
      show Wm X (fun v => some (.int (b2i v.1))) (fun v => v.2) (fun _ => True) 34 [(0, .ref (adr (xG X) 7 0 0)), (3, .ref (adr (xG X) 3 o1 0)), (4, .int v4), (5, .int v5)] [] h6 (f_X7_agreesWithSeen_34 N o1 v4 (iter (fun _ _ => none) (f_X7_agreesWithSeen_34 N o1 v4) n) v5 h6)
      revert ih34
      generalize iter (fun _ _ => none) (f_X7_agreesWithSeen_34 N o1 v4) n = r34
      intro ih34
      unfold f_X7_agreesWithSeen_34
      refine r_iload F 3 rfl dX7_agreesWithSeen_34 ?_
      refine r_iload F 2 rfl dX7_agreesWithSeen_36 ?_
      refine r_icmpgt F (tgt := 69) dX7_agreesWithSeen_38 (by decide) ?_ ?_
      · skip
        refine r_iconst F (v := 1) dX7_agreesWithSeen_69 (by decide) ?_
        exact r_zret F hA true rfl rfl rfl trivial dX7_agreesWithSeen_70
      refine r_aload_n F 1 rfl dX7_agreesWithSeen_41 rfl ?_
      refine k_vH (run_V F cvX7_278 hp_o1 (c_X3_passHour (xG X) _ N h6 o1 hp_o1) rfl rfl ⟨⟨rfl, rfl⟩, Nat.le_of_ble_eq_true rfl, Nat.le_of_ble_eq_true rfl⟩ (Nat.le_of_ble_eq_true rfl) dX7_agreesWithSeen_42) fun h7 => ?_
      refine r_aload_n F 0 rfl dX7_agreesWithSeen_45 rfl ?_
      refine r_getS F frX7_26 (by decide) 0 rfl dX7_agreesWithSeen_46 ?_
      refine r_iload F 3 rfl dX7_agreesWithSeen_49 ?_
      refine r_aload_n F 1 rfl dX7_agreesWithSeen_51 rfl ?_
      refine r_getI F frX7_221 hp_o1 dX7_agreesWithSeen_52 ?_
      refine k_zP (run_V F cvX7_349 (by decide) (c_X2_agrees (xG X) _ N h7 v5 (gI h7 3 o1 12)) rfl rfl ⟨⟨rfl, rfl⟩, Nat.le_of_ble_eq_true rfl, Nat.le_of_ble_eq_true rfl⟩ (Nat.le_of_ble_eq_true rfl) dX7_agreesWithSeen_55) fun v8 _ => ?_
      refine r_ifne F (tgt := 63) dX7_agreesWithSeen_58 (by decide) ?_ ?_
      · skip
        refine r_iinc F (v := 1) 3 rfl (by decide) (fun v9 => [(5, .int v9), (0, .ref (adr (xG X) 7 0 0)), (3, .ref (adr (xG X) 3 o1 0)), (4, .int v4)]) (fun _ => rfl) dX7_agreesWithSeen_63 (hS _ (by decide)) fun v9 => ?_
        refine r_goto F (tgt := 34) dX7_agreesWithSeen_66 (by decide) ?_
        exact Wt_pick [1, 2, 3, 0] rfl (ih34 v9 h7)
      refine r_iconst F (v := 0) dX7_agreesWithSeen_61 (by decide) ?_
      exact r_zret F hA false rfl rfl rfl trivial dX7_agreesWithSeen_62
  exact Wt_pick [3, 2, 1, 0] rfl (hl34 N 1 h3)
theorem c_X7_agreesWithSeen (G : Gx) (l : Launch) (N : Nat) (h : Hp) (p1 : Int32) (p2 : Int32) : Ctr G l yX7_agreesWithSeen (.code yX7_agreesWithSeen cX7_agreesWithSeen 6 (some .boolean) :: GT) rmX7_agreesWithSeen [.ref (adr G 7 0 0), .int p1, .int p2] h (f_X7_agreesWithSeen N h p1 p2) (fun v => some (.int (b2i v.1))) (fun v => v.2) (fun _ => True) :=
  ctr_of (by decide) (Nat.le_of_ble_eq_true rfl) ⟨rfl, rfl⟩ fun X _ e2 hA hL F => by subst e2; exact w_X7_agreesWithSeen X F hA hL N h p1 p2
def f_X7_came_21 (N : Nat) (p1 : Int32) (r21 : Int32 → Int32 → Hp → Option (Int32 × Hp)) (v3 : Int32) (v4 : Int32) (h5 : Hp) : Option (Int32 × Hp) :=
  if 24 ≤ v4 then
    some (v3, h5)
  else
  bd2 (f_X7_agreesWithSeen N h5 p1 v4) fun v7 h6 =>
  jn (fun (v8 : Int32) =>
    lt_ (v4 + 1) fun v9 =>
    r21 v8 v9 h6) fun (j42 : Int32 → Option (Int32 × Hp)) =>
  if (b2i v7) = 0 then
    j42 v3
  else
  lt_ ((v3 ||| ((1 : Int32) <<< (v4 &&& 31)))) fun v10 =>
  j42 v10
def f_X7_came (N : Nat) (h : Hp) (p1 : Int32) : Option (Int32 × Hp) :=
  (f_X7_isCroft h p1).bind fun v1 =>
  if ¬ (b2i v1) = 0 then
    (f_X2_sift N h).bind fun h2 =>
    iter (fun _ _ _ => none) (f_X7_came_21 N p1) N 0 0 h2
  else
  some ((-1), h)
abbrev rmX7_came : Room := { frames := 6, cells := 0, slots := 0, locals := 151 }
set_option maxRecDepth 100000 in
set_option maxHeartbeats 4000000 in
theorem w_X7_came (X : Cx) (F : Fx X cX7_came RX7 (some .int) rmX7_came) (hA : xA X = Aw (xG X)) (hL : xL X = 4) (N : Nat) (h : Hp) (p1 : Int32) : Wm X (fun v => some (.int v.1)) (fun v => v.2) (fun _ => True) 0 [(0, .ref (adr (xG X) 7 0 0)), (1, .int p1)] [] h (f_X7_came N h p1) := by
  have hS : ∀ i : Nat, i < 4 → i < xL X := fun i z => by rw [hL]; exact z
  unfold f_X7_came
  refine r_aload_n F 0 rfl dX7_came_0 rfl ?_
  refine r_iload_n F 1 rfl dX7_came_1 rfl ?_
  refine k_zP (run_V F cvX7_152 (by decide) (c_X7_isCroft (xG X) _ h p1) rfl rfl ⟨⟨rfl, rfl⟩, Nat.le_of_ble_eq_true rfl, Nat.le_of_ble_eq_true rfl⟩ (Nat.le_of_ble_eq_true rfl) dX7_came_2) fun v1 _ => ?_
  refine r_ifne F (tgt := 10) dX7_came_5 (by decide) ?_ ?_
  · skip
    refine r_aload_n F 0 rfl dX7_came_10 rfl ?_
    refine r_getS F frX7_26 (by decide) 0 rfl dX7_came_11 ?_
    refine k_vH (run_V F cvX7_340 (by decide) (c_X2_sift (xG X) _ N h) rfl rfl ⟨⟨rfl, rfl⟩, Nat.le_of_ble_eq_true rfl, Nat.le_of_ble_eq_true rfl⟩ (Nat.le_of_ble_eq_true rfl) dX7_came_14) fun h2 => ?_
    refine r_iconst F (v := 0) dX7_came_17 (by decide) ?_
    refine r_istore_n F [(2, .int 0), (0, .ref (adr (xG X) 7 0 0)), (1, .int p1)] rfl dX7_came_18 rfl (hS _ (by decide)) ?_
    refine r_iconst F (v := 0) dX7_came_19 (by decide) ?_
    refine r_istore_n F [(3, .int 0), (2, .int 0), (0, .ref (adr (xG X) 7 0 0)), (1, .int p1)] rfl dX7_came_20 rfl (hS _ (by decide)) ?_
    have hl21 : ∀ n : Nat, ∀ v3 : Int32, ∀ v4 : Int32, ∀ h5 : Hp, Wm X (fun v => some (.int v.1)) (fun v => v.2) (fun _ => True) 21 [(0, .ref (adr (xG X) 7 0 0)), (1, .int p1), (2, .int v3), (3, .int v4)] [] h5 (iter (fun _ _ _ => none) (f_X7_came_21 N p1) n v3 v4 h5) := by
      intro n
      induction n with
      | zero => intro v3 v4 h5; exact Wt_none
      | succ n ih =>
        revert ih
        show (∀ v3 : Int32, ∀ v4 : Int32, ∀ h5 : Hp, Wm X (fun v => some (.int v.1)) (fun v => v.2) (fun _ => True) 21 [(0, .ref (adr (xG X) 7 0 0)), (1, .int p1), (2, .int v3), (3, .int v4)] [] h5 (iter (fun _ _ _ => none) (f_X7_came_21 N p1) n v3 v4 h5)) → _
        intro ih21 v3 v4 h5
        show Wm X (fun v => some (.int v.1)) (fun v => v.2) (fun _ => True) 21 [(0, .ref (adr (xG X) 7 0 0)), (1, .int p1), (2, .int v3), (3, .int v4)] [] h5 (f_X7_came_21 N p1 (iter (fun _ _ _ => none) (f_X7_came_21 N p1) n) v3 v4 h5)
        revert ih21
        generalize iter (fun _ _ _ => none) (f_X7_came_21 N p1) n = r21
        intro ih21
        unfold f_X7_came_21
        refine r_iload_n F 3 rfl dX7_came_21 rfl ?_
        refine r_bipush F (v := 24) dX7_came_22 (by decide) ?_
        refine r_icmpge F (tgt := 48) dX7_came_24 (by decide) ?_ ?_
        · skip
          refine r_iload_n F 2 rfl dX7_came_48 rfl ?_
          exact r_iret F hA rfl rfl trivial dX7_came_49
        refine r_aload_n F 0 rfl dX7_came_27 rfl ?_
        refine r_iload_n F 1 rfl dX7_came_28 rfl ?_
        refine r_iload_n F 3 rfl dX7_came_29 rfl ?_
        refine k_zH (run_V F cvX7_343 (by decide) (c_X7_agreesWithSeen (xG X) _ N h5 p1 v4) rfl rfl ⟨⟨rfl, rfl⟩, Nat.le_of_ble_eq_true rfl, Nat.le_of_ble_eq_true rfl⟩ (Nat.le_of_ble_eq_true rfl) dX7_came_30) fun v7 h6 => ?_
        refine Wt_jn (fun (j42 : Int32 → Option (Int32 × Hp)) => ∀ v8 : Int32, Wm X (fun v => some (.int v.1)) (fun v => v.2) (fun _ => True) 42 [(0, .ref (adr (xG X) 7 0 0)), (1, .int p1), (2, .int v8), (3, .int v4)] [] h6 (j42 v8)) ?_ fun j42 hj42 => ?_
        · intro v8
          refine r_iinc F (v := 1) 3 rfl (by decide) (fun v9 => [(3, .int v9), (0, .ref (adr (xG X) 7 0 0)), (1, .int p1), (2, .int v8)]) (fun _ => rfl) dX7_came_42 (hS _ (by decide)) fun v9 => ?_
          refine r_goto F (tgt := 21) dX7_came_45 (by decide) ?_
          exact Wt_pick [1, 2, 3, 0] rfl (ih21 v8 v9 h6)
        refine r_ifeq F (tgt := 42) dX7_came_33 (by decide) ?_ ?_
        · skip
          exact Wt_pick [0, 1, 2, 3] rfl (hj42 v3)
        refine r_iload_n F 2 rfl dX7_came_36 rfl ?_
        refine r_iconst F (v := 1) dX7_came_37 (by decide) ?_
        refine r_iload_n F 3 rfl dX7_came_38 rfl ?_
        refine r_ishl F dX7_came_39 ?_
        refine r_ior F dX7_came_40 ?_
        refine r_nmI fun v10 => ?_
        refine r_istore_n F [(2, .int v10), (0, .ref (adr (xG X) 7 0 0)), (1, .int p1), (3, .int v4)] rfl dX7_came_41 rfl (hS _ (by decide)) ?_
        exact Wt_pick [1, 2, 0, 3] rfl (hj42 v10)
    exact Wt_pick [2, 3, 1, 0] rfl (hl21 N 0 0 h2)
  refine r_iconst F (v := (-1)) dX7_came_8 (by decide) ?_
  exact r_iret F hA rfl rfl trivial dX7_came_9
theorem c_X7_came (G : Gx) (l : Launch) (N : Nat) (h : Hp) (p1 : Int32) : Ctr G l yX7_came (.code yX7_came cX7_came 4 (some .int) :: GT) rmX7_came [.ref (adr G 7 0 0), .int p1] h (f_X7_came N h p1) (fun v => some (.int v.1)) (fun v => v.2) (fun _ => True) :=
  ctr_of (by decide) (Nat.le_of_ble_eq_true rfl) ⟨rfl, rfl⟩ fun X _ e2 hA hL F => by subst e2; exact w_X7_came X F hA hL N h p1
def f_X7_chance_53 (N : Nat) (p2 : Int32) (p3 : Int32) (p4 : Int32) (o4 : Nat) (r53 : Int32 → Int32 → Int32 → Hp → Option (Int32 × Hp)) (v5 : Int32) (v6 : Int32) (v7 : Int32) (h8 : Hp) : Option (Int32 × Hp) :=
  if 10 ≤ v7 then
    some (v5, h8)
  else
  (f_X3_copy h8 o4 1).bind fun h9 =>
  lt_ (sI h9 3 o4 15 v6) fun h10 =>
  (f_X3_passHoursWithGales N h10 o4 p2).bind fun h11 =>
  lt_ ((gI h11 3 o4 15)) fun v12 =>
  grd (inb p3 4) <|
  jn (fun (v13 : Int32) =>
    lt_ (v7 + 1) fun v14 =>
    r53 v13 v12 v14 h11) fun (j104 : Int32 → Option (Int32 × Hp)) =>
  if (gA h11 3 o4 6 p3.toNatClampNeg) < p4 then
    j104 v5
  else
  lt_ (v5 + 1) fun v15 =>
  j104 v15
def f_X7_chance (N : Nat) (h : Hp) (p1 : Int32) (p2 : Int32) (p3 : Int32) (p4 : Int32) : Option (Int32 × Hp) :=
  jn (
    some ((-1), h)) fun (j34 : Option (Int32 × Hp)) =>
  if p1 < 0 then
    j34
  else
  (f_X7_isIn p2 1 99).bind fun v1 =>
  if (b2i v1) = 0 then
    j34
  else
  (f_X7_isCroft h p3).bind fun v2 =>
  if (b2i v2) = 0 then
    j34
  else
  (f_X7_isIn p4 0 999999).bind fun v3 =>
  if ¬ (b2i v3) = 0 then
    grd (inb 0 7) <| lt_ (3 + (0 : Int32).toNatClampNeg) fun o4 =>
    iter (fun _ _ _ _ => none) (f_X7_chance_53 N p2 p3 p4 o4) N 0 p1 0 h
  else
  j34
abbrev rmX7_chance : Room := { frames := 6, cells := 0, slots := 0, locals := 148 }
set_option maxRecDepth 100000 in
set_option maxHeartbeats 4000000 in
theorem w_X7_chance (X : Cx) (F : Fx X cX7_chance RX7 (some .int) rmX7_chance) (hA : xA X = Aw (xG X)) (hL : xL X = 9) (N : Nat) (h : Hp) (p1 : Int32) (p2 : Int32) (p3 : Int32) (p4 : Int32) : Wm X (fun v => some (.int v.1)) (fun v => v.2) (fun _ => True) 0 [(0, .ref (adr (xG X) 7 0 0)), (1, .int p1), (2, .int p2), (3, .int p3), (4, .int p4)] [] h (f_X7_chance N h p1 p2 p3 p4) := by
  have hS : ∀ i : Nat, i < 9 → i < xL X := fun i z => by rw [hL]; exact z
  unfold f_X7_chance
  refine r_iload_n F 1 rfl dX7_chance_0 rfl ?_
  refine Wt_jn (fun (j34 : Option (Int32 × Hp)) => Wm X (fun v => some (.int v.1)) (fun v => v.2) (fun _ => True) 34 [] [] h (j34)) ?_ fun j34 hj34 => ?_
  · skip
    refine r_iconst F (v := (-1)) dX7_chance_34 (by decide) ?_
    exact r_iret F hA rfl rfl trivial dX7_chance_35
  refine r_iflt F (tgt := 34) dX7_chance_1 (by decide) ?_ ?_
  · skip
    exact Wt_pick [] rfl (hj34)
  refine r_iload_n F 2 rfl dX7_chance_4 rfl ?_
  refine r_iconst F (v := 1) dX7_chance_5 (by decide) ?_
  refine r_bipush F (v := 99) dX7_chance_6 (by decide) ?_
  refine k_zP (run_S F csX7_247 (c_X7_isIn (xG X) _ h p2 1 99) rfl rfl ⟨⟨rfl, rfl⟩, Nat.le_of_ble_eq_true rfl, Nat.le_of_ble_eq_true rfl⟩ (Nat.le_of_ble_eq_true rfl) dX7_chance_8) fun v1 _ => ?_
  refine r_ifeq F (tgt := 34) dX7_chance_11 (by decide) ?_ ?_
  · skip
    exact Wt_pick [] rfl (hj34)
  refine r_aload_n F 0 rfl dX7_chance_14 rfl ?_
  refine r_iload_n F 3 rfl dX7_chance_15 rfl ?_
  refine k_zP (run_V F cvX7_152 (by decide) (c_X7_isCroft (xG X) _ h p3) rfl rfl ⟨⟨rfl, rfl⟩, Nat.le_of_ble_eq_true rfl, Nat.le_of_ble_eq_true rfl⟩ (Nat.le_of_ble_eq_true rfl) dX7_chance_16) fun v2 _ => ?_
  refine r_ifeq F (tgt := 34) dX7_chance_19 (by decide) ?_ ?_
  · skip
    exact Wt_pick [] rfl (hj34)
  refine r_iload F 4 rfl dX7_chance_22 ?_
  refine r_iconst F (v := 0) dX7_chance_24 (by decide) ?_
  refine r_ldcw F wd_956 dX7_chance_25 ?_
  refine k_zP (run_S F csX7_247 (c_X7_isIn (xG X) _ h p4 0 999999) rfl rfl ⟨⟨rfl, rfl⟩, Nat.le_of_ble_eq_true rfl, Nat.le_of_ble_eq_true rfl⟩ (Nat.le_of_ble_eq_true rfl) dX7_chance_28) fun v3 _ => ?_
  refine r_ifne F (tgt := 36) dX7_chance_31 (by decide) ?_ ?_
  · skip
    refine r_aload_n F 0 rfl dX7_chance_36 rfl ?_
    refine r_getA F frX7_78 (by decide) dX7_chance_37 ?_
    refine r_iconst F (v := 0) dX7_chance_40 (by decide) ?_
    refine r_aaload F dX7_chance_41 fun o4 hp_o4 => ?_
    refine r_astore F [(5, .ref (adr (xG X) 3 o4 0)), (0, .ref (adr (xG X) 7 0 0)), (1, .int p1), (2, .int p2), (3, .int p3), (4, .int p4)] rfl dX7_chance_42 (hS _ (by decide)) ?_
    refine r_iconst F (v := 0) dX7_chance_44 (by decide) ?_
    refine r_istore F [(6, .int 0), (5, .ref (adr (xG X) 3 o4 0)), (0, .ref (adr (xG X) 7 0 0)), (1, .int p1), (2, .int p2), (3, .int p3), (4, .int p4)] rfl dX7_chance_45 (hS _ (by decide)) ?_
    refine r_iload_n F 3 rfl dX7_chance_47 rfl ?_
    refine r_istore F [(7, .int p1), (6, .int 0), (5, .ref (adr (xG X) 3 o4 0)), (0, .ref (adr (xG X) 7 0 0)), (1, .int p1), (2, .int p2), (3, .int p3), (4, .int p4)] rfl dX7_chance_48 (hS _ (by decide)) ?_
    refine r_iconst F (v := 0) dX7_chance_50 (by decide) ?_
    refine r_istore F [(8, .int 0), (7, .int p1), (6, .int 0), (5, .ref (adr (xG X) 3 o4 0)), (0, .ref (adr (xG X) 7 0 0)), (1, .int p1), (2, .int p2), (3, .int p3), (4, .int p4)] rfl dX7_chance_51 (hS _ (by decide)) ?_
    have hl53 : ∀ n : Nat, ∀ v5 : Int32, ∀ v6 : Int32, ∀ v7 : Int32, ∀ h8 : Hp, Wm X (fun v => some (.int v.1)) (fun v => v.2) (fun _ => True) 53 [(0, .ref (adr (xG X) 7 0 0)), (2, .int p2), (3, .int p3), (4, .int p4), (5, .ref (adr (xG X) 3 o4 0)), (6, .int v5), (7, .int v6), (8, .int v7)] [] h8 (iter (fun _ _ _ _ => none) (f_X7_chance_53 N p2 p3 p4 o4) n v5 v6 v7 h8) := by
      intro n
      induction n with
      | zero => intro v5 v6 v7 h8; exact Wt_none
      | succ n ih =>
        revert ih
        show (∀ v5 : Int32, ∀ v6 : Int32, ∀ v7 : Int32, ∀ h8 : Hp, Wm X (fun v => some (.int v.1)) (fun v => v.2) (fun _ => True) 53 [(0, .ref (adr (xG X) 7 0 0)), (2, .int p2), (3, .int p3), (4, .int p4), (5, .ref (adr (xG X) 3 o4 0)), (6, .int v5), (7, .int v6), (8, .int v7)] [] h8 (iter (fun _ _ _ _ => none) (f_X7_chance_53 N p2 p3 p4 o4) n v5 v6 v7 h8)) → _
        intro ih53 v5 v6 v7 h8
        show Wm X (fun v => some (.int v.1)) (fun v => v.2) (fun _ => True) 53 [(0, .ref (adr (xG X) 7 0 0)), (2, .int p2), (3, .int p3), (4, .int p4), (5, .ref (adr (xG X) 3 o4 0)), (6, .int v5), (7, .int v6), (8, .int v7)] [] h8 (f_X7_chance_53 N p2 p3 p4 o4 (iter (fun _ _ _ _ => none) (f_X7_chance_53 N p2 p3 p4 o4) n) v5 v6 v7 h8)
        revert ih53
        generalize iter (fun _ _ _ _ => none) (f_X7_chance_53 N p2 p3 p4 o4) n = r53
        intro ih53
        unfold f_X7_chance_53
        refine r_iload F 7 rfl dX7_chance_53 ?_
        refine r_bipush F (v := 10) dX7_chance_55 (by decide) ?_
        refine r_icmpge F (tgt := 110) dX7_chance_57 (by decide) ?_ ?_
        · skip
          refine r_iload F 5 rfl dX7_chance_110 ?_
          exact r_iret F hA rfl rfl trivial dX7_chance_112
        refine r_aload F 4 rfl dX7_chance_60 ?_
        refine r_aload_n F 0 rfl dX7_chance_62 rfl ?_
        refine r_getS F frX7_72 (by decide) 1 rfl dX7_chance_63 ?_
        refine k_vH (run_V F cvX7_109 hp_o4 (c_X3_copy (xG X) _ h8 o4 hp_o4 1 (by decide)) rfl rfl ⟨⟨rfl, rfl⟩, Nat.le_of_ble_eq_true rfl, Nat.le_of_ble_eq_true rfl⟩ (Nat.le_of_ble_eq_true rfl) dX7_chance_66) fun h9 => ?_
        refine r_aload F 4 rfl dX7_chance_69 ?_
        refine r_iload F 6 rfl dX7_chance_71 ?_
        refine r_putI F frX7_353 hp_o4 rfl rfl dX7_chance_73 fun h10 => ?_
        refine r_aload F 4 rfl dX7_chance_76 ?_
        refine r_iload_n F 1 rfl dX7_chance_78 rfl ?_
        refine k_vH (run_V F cvX7_244 hp_o4 (c_X3_passHoursWithGales (xG X) _ N h10 o4 hp_o4 p2) rfl rfl ⟨⟨rfl, rfl⟩, Nat.le_of_ble_eq_true rfl, Nat.le_of_ble_eq_true rfl⟩ (Nat.le_of_ble_eq_true rfl) dX7_chance_79) fun h11 => ?_
        refine r_aload F 4 rfl dX7_chance_82 ?_
        refine r_getI F frX7_353 hp_o4 dX7_chance_84 ?_
        refine r_nmI fun v12 => ?_
        refine r_istore F [(7, .int v12), (0, .ref (adr (xG X) 7 0 0)), (2, .int p2), (3, .int p3), (4, .int p4), (5, .ref (adr (xG X) 3 o4 0)), (6, .int v5), (8, .int v7)] rfl dX7_chance_87 (hS _ (by decide)) ?_
        refine r_aload F 5 rfl dX7_chance_89 ?_
        refine r_getA F frX7_167 hp_o4 dX7_chance_91 ?_
        refine r_iload_n F 3 rfl dX7_chance_94 rfl ?_
        refine r_iaload F (ar_3_6 o4 hp_o4) dX7_chance_95 ?_
        refine r_iload F 4 rfl dX7_chance_96 ?_
        refine Wt_jn (fun (j104 : Int32 → Option (Int32 × Hp)) => ∀ v13 : Int32, Wm X (fun v => some (.int v.1)) (fun v => v.2) (fun _ => True) 104 [(0, .ref (adr (xG X) 7 0 0)), (2, .int p2), (3, .int p3), (4, .int p4), (5, .ref (adr (xG X) 3 o4 0)), (6, .int v13), (7, .int v12), (8, .int v7)] [] h11 (j104 v13)) ?_ fun j104 hj104 => ?_
        · intro v13
          refine r_iinc F (v := 1) 7 rfl (by decide) (fun v14 => [(8, .int v14), (0, .ref (adr (xG X) 7 0 0)), (2, .int p2), (3, .int p3), (4, .int p4), (5, .ref (adr (xG X) 3 o4 0)), (6, .int v13), (7, .int v12)]) (fun _ => rfl) dX7_chance_104 (hS _ (by decide)) fun v14 => ?_
          refine r_goto F (tgt := 53) dX7_chance_107 (by decide) ?_
          exact Wt_pick [1, 2, 3, 4, 5, 6, 7, 0] rfl (ih53 v13 v12 v14 h11)
        refine r_icmplt F (tgt := 104) dX7_chance_98 (by decide) ?_ ?_
        · skip
          exact Wt_pick [1, 2, 3, 4, 5, 6, 0, 7] rfl (hj104 v5)
        refine r_iinc F (v := 1) 6 rfl (by decide) (fun v15 => [(6, .int v15), (7, .int v12), (0, .ref (adr (xG X) 7 0 0)), (2, .int p2), (3, .int p3), (4, .int p4), (5, .ref (adr (xG X) 3 o4 0)), (8, .int v7)]) (fun _ => rfl) dX7_chance_101 (hS _ (by decide)) fun v15 => ?_
        exact Wt_pick [2, 3, 4, 5, 6, 0, 1, 7] rfl (hj104 v15)
    exact Wt_pick [4, 6, 7, 8, 3, 2, 1, 0] rfl (hl53 N 0 p1 0 h)
  exact Wt_pick [] rfl (hj34)
theorem c_X7_chance (G : Gx) (l : Launch) (N : Nat) (h : Hp) (p1 : Int32) (p2 : Int32) (p3 : Int32) (p4 : Int32) : Ctr G l yX7_chance (.code yX7_chance cX7_chance 9 (some .int) :: GT) rmX7_chance [.ref (adr G 7 0 0), .int p1, .int p2, .int p3, .int p4] h (f_X7_chance N h p1 p2 p3 p4) (fun v => some (.int v.1)) (fun v => v.2) (fun _ => True) :=
  ctr_of (by decide) (Nat.le_of_ble_eq_true rfl) ⟨rfl, rfl⟩ fun X _ e2 hA hL F => by subst e2; exact w_X7_chance X F hA hL N h p1 p2 p3 p4
def f_X7_tried (N : Nat) (h : Hp) (p1 : Int32) (p2 : Int32) (p3 : Int32) : Option (Int32 × Hp) :=
  jn (fun (v1 : Bool) =>
    jn (
      some ((-1), h)) fun (j48 : Option (Int32 × Hp)) =>
    if (b2i v1) = 0 then
      j48
    else
    (f_X7_isIn p3 0 99).bind fun v2 =>
    if ¬ (b2i v2) = 0 then
      grd (inb 0 7) <| lt_ (3 + (0 : Int32).toNatClampNeg) fun o3 =>
      (f_X3_copy h o3 1).bind fun h4 =>
      (f_X3_tryOut N h4 o3 p1 p2).bind fun h5 =>
      (f_X3_passHours N h5 o3 p3).bind fun h6 =>
      (f_X3_allGains N h6 o3).bind fun v7 =>
      (f_X3_allGains N h6 1).bind fun v8 =>
      some ((v7 - v8), h6)
    else
    j48) fun (j31 : Bool → Option (Int32 × Hp)) =>
  if ¬ p1 = 1 then
    (f_X7_isIn p1 0 4).bind fun v9 =>
    jn (
      j31 false) fun (j30 : Option (Int32 × Hp)) =>
    if (b2i v9) = 0 then
      j30
    else
    if ¬ p2 = 0 then
      j30
    else
    j31 true
  else
  (f_X7_isCroft h p2).bind fun v10 =>
  j31 v10
abbrev rmX7_tried : Room := { frames := 6, cells := 0, slots := 0, locals := 148 }
set_option maxRecDepth 100000 in
set_option maxHeartbeats 4000000 in
theorem w_X7_tried (X : Cx) (F : Fx X cX7_tried RX7 (some .int) rmX7_tried) (hA : xA X = Aw (xG X)) (hL : xL X = 6) (N : Nat) (h : Hp) (p1 : Int32) (p2 : Int32) (p3 : Int32) : Wm X (fun v => some (.int v.1)) (fun v => v.2) (fun _ => True) 0 [(0, .ref (adr (xG X) 7 0 0)), (1, .int p1), (2, .int p2), (3, .int p3)] [] h (f_X7_tried N h p1 p2 p3) := by
  have hS : ∀ i : Nat, i < 6 → i < xL X := fun i z => by rw [hL]; exact z
  unfold f_X7_tried
  refine r_iload_n F 1 rfl dX7_tried_0 rfl ?_
  refine r_iconst F (v := 1) dX7_tried_1 (by decide) ?_
  refine Wt_jn (fun (j31 : Bool → Option (Int32 × Hp)) => ∀ v1 : Bool, Wm X (fun v => some (.int v.1)) (fun v => v.2) (fun _ => True) 31 [(0, .ref (adr (xG X) 7 0 0)), (1, .int p1), (2, .int p2), (3, .int p3)] [.int (b2i v1)] h (j31 v1)) ?_ fun j31 hj31 => ?_
  · intro v1
    refine r_istore F [(4, .int (b2i v1)), (0, .ref (adr (xG X) 7 0 0)), (1, .int p1), (2, .int p2), (3, .int p3)] rfl dX7_tried_31 (hS _ (by decide)) ?_
    refine r_iload F 0 rfl dX7_tried_33 ?_
    refine Wt_jn (fun (j48 : Option (Int32 × Hp)) => Wm X (fun v => some (.int v.1)) (fun v => v.2) (fun _ => True) 48 [] [] h (j48)) ?_ fun j48 hj48 => ?_
    · skip
      refine r_iconst F (v := (-1)) dX7_tried_48 (by decide) ?_
      exact r_iret F hA rfl rfl trivial dX7_tried_49
    refine r_ifeq F (tgt := 48) dX7_tried_35 (by decide) ?_ ?_
    · skip
      exact Wt_pick [] rfl (hj48)
    refine r_iload_n F 4 rfl dX7_tried_38 rfl ?_
    refine r_iconst F (v := 0) dX7_tried_39 (by decide) ?_
    refine r_bipush F (v := 99) dX7_tried_40 (by decide) ?_
    refine k_zP (run_S F csX7_247 (c_X7_isIn (xG X) _ h p3 0 99) rfl rfl ⟨⟨rfl, rfl⟩, Nat.le_of_ble_eq_true rfl, Nat.le_of_ble_eq_true rfl⟩ (Nat.le_of_ble_eq_true rfl) dX7_tried_42) fun v2 _ => ?_
    refine r_ifne F (tgt := 50) dX7_tried_45 (by decide) ?_ ?_
    · skip
      refine r_aload_n F 1 rfl dX7_tried_50 rfl ?_
      refine r_getA F frX7_78 (by decide) dX7_tried_51 ?_
      refine r_iconst F (v := 0) dX7_tried_54 (by decide) ?_
      refine r_aaload F dX7_tried_55 fun o3 hp_o3 => ?_
      refine r_astore F [(5, .ref (adr (xG X) 3 o3 0)), (4, .int (b2i v1)), (0, .ref (adr (xG X) 7 0 0)), (1, .int p1), (2, .int p2), (3, .int p3)] rfl dX7_tried_56 (hS _ (by decide)) ?_
      refine r_aload F 0 rfl dX7_tried_58 ?_
      refine r_aload_n F 2 rfl dX7_tried_60 rfl ?_
      refine r_getS F frX7_72 (by decide) 1 rfl dX7_tried_61 ?_
      refine k_vH (run_V F cvX7_109 hp_o3 (c_X3_copy (xG X) _ h o3 hp_o3 1 (by decide)) rfl rfl ⟨⟨rfl, rfl⟩, Nat.le_of_ble_eq_true rfl, Nat.le_of_ble_eq_true rfl⟩ (Nat.le_of_ble_eq_true rfl) dX7_tried_64) fun h4 => ?_
      refine r_aload F 0 rfl dX7_tried_67 ?_
      refine r_iload_n F 3 rfl dX7_tried_69 rfl ?_
      refine r_iload_n F 4 rfl dX7_tried_70 rfl ?_
      refine k_vH (run_V F cvX7_356 hp_o3 (c_X3_tryOut (xG X) _ N h4 o3 hp_o3 p1 p2) rfl rfl ⟨⟨rfl, rfl⟩, Nat.le_of_ble_eq_true rfl, Nat.le_of_ble_eq_true rfl⟩ (Nat.le_of_ble_eq_true rfl) dX7_tried_71) fun h5 => ?_
      refine r_aload F 0 rfl dX7_tried_74 ?_
      refine r_iload_n F 5 rfl dX7_tried_76 rfl ?_
      refine k_vH (run_V F cvX7_265 hp_o3 (c_X3_passHours (xG X) _ N h5 o3 hp_o3 p3) rfl rfl ⟨⟨rfl, rfl⟩, Nat.le_of_ble_eq_true rfl, Nat.le_of_ble_eq_true rfl⟩ (Nat.le_of_ble_eq_true rfl) dX7_tried_77) fun h6 => ?_
      refine r_aload F 0 rfl dX7_tried_80 ?_
      refine k_iP (run_V F cvX7_262 hp_o3 (c_X3_allGains (xG X) _ N h6 o3 hp_o3) rfl rfl ⟨⟨rfl, rfl⟩, Nat.le_of_ble_eq_true rfl, Nat.le_of_ble_eq_true rfl⟩ (Nat.le_of_ble_eq_true rfl) dX7_tried_82) fun v7 _ => ?_
      refine r_aload_n F 2 rfl dX7_tried_85 rfl ?_
      refine r_getS F frX7_72 (by decide) 1 rfl dX7_tried_86 ?_
      refine k_iP (run_V F cvX7_262 (by decide) (c_X3_allGains (xG X) _ N h6 1 (by decide)) rfl rfl ⟨⟨rfl, rfl⟩, Nat.le_of_ble_eq_true rfl, Nat.le_of_ble_eq_true rfl⟩ (Nat.le_of_ble_eq_true rfl) dX7_tried_89) fun v8 _ => ?_
      refine r_isub F dX7_tried_92 ?_
      exact r_iret F hA rfl rfl trivial dX7_tried_93
    exact Wt_pick [] rfl (hj48)
  refine r_icmpne F (tgt := 13) dX7_tried_2 (by decide) ?_ ?_
  · skip
    refine r_iload_n F 1 rfl dX7_tried_13 rfl ?_
    refine r_iconst F (v := 0) dX7_tried_14 (by decide) ?_
    refine r_iconst F (v := 4) dX7_tried_15 (by decide) ?_
    refine k_zP (run_S F csX7_247 (c_X7_isIn (xG X) _ h p1 0 4) rfl rfl ⟨⟨rfl, rfl⟩, Nat.le_of_ble_eq_true rfl, Nat.le_of_ble_eq_true rfl⟩ (Nat.le_of_ble_eq_true rfl) dX7_tried_16) fun v9 _ => ?_
    refine Wt_jn (fun (j30 : Option (Int32 × Hp)) => Wm X (fun v => some (.int v.1)) (fun v => v.2) (fun _ => True) 30 [(0, .ref (adr (xG X) 7 0 0)), (1, .int p1), (2, .int p2), (3, .int p3)] [] h (j30)) ?_ fun j30 hj30 => ?_
    · skip
      refine r_iconst F (v := 0) dX7_tried_30 (by decide) ?_
      exact Wt_pick [0, 1, 2, 3] rfl (hj31 false)
    refine r_ifeq F (tgt := 30) dX7_tried_19 (by decide) ?_ ?_
    · skip
      exact Wt_pick [0, 1, 2, 3] rfl (hj30)
    refine r_iload_n F 2 rfl dX7_tried_22 rfl ?_
    refine r_ifne F (tgt := 30) dX7_tried_23 (by decide) ?_ ?_
    · skip
      exact Wt_pick [0, 1, 2, 3] rfl (hj30)
    refine r_iconst F (v := 1) dX7_tried_26 (by decide) ?_
    refine r_goto F (tgt := 31) dX7_tried_27 (by decide) ?_
    exact Wt_pick [0, 1, 2, 3] rfl (hj31 true)
  refine r_aload_n F 0 rfl dX7_tried_5 rfl ?_
  refine r_iload_n F 2 rfl dX7_tried_6 rfl ?_
  refine k_zP (run_V F cvX7_152 (by decide) (c_X7_isCroft (xG X) _ h p2) rfl rfl ⟨⟨rfl, rfl⟩, Nat.le_of_ble_eq_true rfl, Nat.le_of_ble_eq_true rfl⟩ (Nat.le_of_ble_eq_true rfl) dX7_tried_7) fun v10 _ => ?_
  refine r_goto F (tgt := 31) dX7_tried_10 (by decide) ?_
  exact Wt_pick [0, 1, 2, 3] rfl (hj31 v10)
theorem c_X7_tried (G : Gx) (l : Launch) (N : Nat) (h : Hp) (p1 : Int32) (p2 : Int32) (p3 : Int32) : Ctr G l yX7_tried (.code yX7_tried cX7_tried 6 (some .int) :: GT) rmX7_tried [.ref (adr G 7 0 0), .int p1, .int p2, .int p3] h (f_X7_tried N h p1 p2 p3) (fun v => some (.int v.1)) (fun v => v.2) (fun _ => True) :=
  ctr_of (by decide) (Nat.le_of_ble_eq_true rfl) ⟨rfl, rfl⟩ fun X _ e2 hA hL F => by subst e2; exact w_X7_tried X F hA hL N h p1 p2 p3
def f_X7_count (N : Nat) (h : Hp) (p1 : Int32) : Option Int32 :=
  if p1 = 0 then
    onO (gO h 7 0 13) fun o1 =>
    some (gI h 5 o1 11)
  else
  if p1 = 1 then
    onO (gO h 7 0 13) fun o2 =>
    some (gI h 5 o2 12)
  else
  if p1 = 2 then
    onO (gO h 7 0 13) fun o3 =>
    some (gI h 5 o3 13)
  else
  if p1 = 3 then
    onO (gO h 7 0 13) fun o4 =>
    some (gI h 5 o4 14)
  else
  if p1 = 4 then
    onO (gO h 7 0 13) fun o5 =>
    some (gI h 0 o5 6)
  else
  if p1 = 5 then
    some (gI h 3 1 11)
  else
  if p1 = 6 then
    (f_X3_allLying N h 1).bind fun v6 =>
    some v6
  else
  if p1 = 7 then
    some (gI h 3 1 12)
  else
  if p1 = 8 then
    some (gI h 3 1 13)
  else
  if p1 = 9 then
    (f_X3_allGot N h 1).bind fun v7 =>
    some v7
  else
  if p1 = 10 then
    (f_X3_allGains N h 1).bind fun v8 =>
    some v8
  else
  if p1 = 11 then
    some (gI h 3 1 14)
  else
  if p1 = 12 then
    some (gI h 2 0 4)
  else
  if p1 = 13 then
    (f_X2_knownSize h).bind fun v9 =>
    some v9
  else
  if p1 = 14 then
    some (gI h 6 0 3)
  else
  some (-1)
abbrev rmX7_count : Room := { frames := 2, cells := 0, slots := 0, locals := 43 }
set_option maxRecDepth 100000 in
set_option maxHeartbeats 4000000 in
theorem w_X7_count (X : Cx) (F : Fx X cX7_count RX7 (some .int) rmX7_count) (hA : xA X = Aw (xG X)) (hL : xL X = 2) (N : Nat) (h : Hp) (p1 : Int32) : Wm X (fun v => some (.int v)) (fun _ => h) (fun _ => True) 0 [(0, .ref (adr (xG X) 7 0 0)), (1, .int p1)] [] h (f_X7_count N h p1) := by
  have hS : ∀ i : Nat, i < 2 → i < xL X := fun i z => by rw [hL]; exact z
  unfold f_X7_count
  refine r_iload_n F 1 rfl dX7_count_0 rfl ?_
  refine r_tsc F (tgt := 76) 0 0 dX7_count_1 rfl (by decide) (by decide) (by decide) ?_ fun n0 => ?_
  · skip
    refine r_aload_n F 0 rfl dX7_count_76 rfl ?_
    refine r_getO F frX7_56 (by decide) dX7_count_77 fun o1 hp_o1 => ?_
    refine r_getI F frX7_307 hp_o1 dX7_count_80 ?_
    exact r_iret F hA rfl rfl trivial dX7_count_83
  refine r_tsc F (tgt := 84) 1 1 dX7_count_1 rfl (by decide) (by decide) (by decide) ?_ fun n1 => ?_
  · skip
    refine r_aload_n F 0 rfl dX7_count_84 rfl ?_
    refine r_getO F frX7_56 (by decide) dX7_count_85 fun o2 hp_o2 => ?_
    refine r_getI F frX7_315 hp_o2 dX7_count_88 ?_
    exact r_iret F hA rfl rfl trivial dX7_count_91
  refine r_tsc F (tgt := 92) 2 2 dX7_count_1 rfl (by decide) (by decide) (by decide) ?_ fun n2 => ?_
  · skip
    refine r_aload_n F 0 rfl dX7_count_92 rfl ?_
    refine r_getO F frX7_56 (by decide) dX7_count_93 fun o3 hp_o3 => ?_
    refine r_getI F frX7_362 hp_o3 dX7_count_96 ?_
    exact r_iret F hA rfl rfl trivial dX7_count_99
  refine r_tsc F (tgt := 100) 3 3 dX7_count_1 rfl (by decide) (by decide) (by decide) ?_ fun n3 => ?_
  · skip
    refine r_aload_n F 0 rfl dX7_count_100 rfl ?_
    refine r_getO F frX7_56 (by decide) dX7_count_101 fun o4 hp_o4 => ?_
    refine r_getI F frX7_365 hp_o4 dX7_count_104 ?_
    exact r_iret F hA rfl rfl trivial dX7_count_107
  refine r_tsc F (tgt := 108) 4 4 dX7_count_1 rfl (by decide) (by decide) (by decide) ?_ fun n4 => ?_
  · skip
    refine r_aload_n F 0 rfl dX7_count_108 rfl ?_
    refine r_getO F frX7_56 (by decide) dX7_count_109 fun o5 hp_o5 => ?_
    refine r_getS F frX7_210 hp_o5 o5 rfl dX7_count_112 ?_
    refine r_getI F frX7_368 hp_o5 dX7_count_115 ?_
    exact r_iret F hA rfl rfl trivial dX7_count_118
  refine r_tsc F (tgt := 119) 5 5 dX7_count_1 rfl (by decide) (by decide) (by decide) ?_ fun n5 => ?_
  · skip
    refine r_aload_n F 0 rfl dX7_count_119 rfl ?_
    refine r_getS F frX7_72 (by decide) 1 rfl dX7_count_120 ?_
    refine r_getI F frX7_241 (by decide) dX7_count_123 ?_
    exact r_iret F hA rfl rfl trivial dX7_count_126
  refine r_tsc F (tgt := 127) 6 6 dX7_count_1 rfl (by decide) (by decide) (by decide) ?_ fun n6 => ?_
  · skip
    refine r_aload_n F 0 rfl dX7_count_127 rfl ?_
    refine r_getS F frX7_72 (by decide) 1 rfl dX7_count_128 ?_
    refine k_iP (run_V F cvX7_369 (by decide) (c_X3_allLying (xG X) _ N h 1 (by decide)) rfl rfl ⟨⟨rfl, rfl⟩, Nat.le_of_ble_eq_true rfl, Nat.le_of_ble_eq_true rfl⟩ (Nat.le_of_ble_eq_true rfl) dX7_count_131) fun v6 _ => ?_
    exact r_iret F hA rfl rfl trivial dX7_count_134
  refine r_tsc F (tgt := 135) 7 7 dX7_count_1 rfl (by decide) (by decide) (by decide) ?_ fun n7 => ?_
  · skip
    refine r_aload_n F 0 rfl dX7_count_135 rfl ?_
    refine r_getS F frX7_72 (by decide) 1 rfl dX7_count_136 ?_
    refine r_getI F frX7_221 (by decide) dX7_count_139 ?_
    exact r_iret F hA rfl rfl trivial dX7_count_142
  refine r_tsc F (tgt := 143) 8 8 dX7_count_1 rfl (by decide) (by decide) (by decide) ?_ fun n8 => ?_
  · skip
    refine r_aload_n F 0 rfl dX7_count_143 rfl ?_
    refine r_getS F frX7_72 (by decide) 1 rfl dX7_count_144 ?_
    refine r_getI F frX7_259 (by decide) dX7_count_147 ?_
    exact r_iret F hA rfl rfl trivial dX7_count_150
  refine r_tsc F (tgt := 151) 9 9 dX7_count_1 rfl (by decide) (by decide) (by decide) ?_ fun n9 => ?_
  · skip
    refine r_aload_n F 0 rfl dX7_count_151 rfl ?_
    refine r_getS F frX7_72 (by decide) 1 rfl dX7_count_152 ?_
    refine k_iP (run_V F cvX7_255 (by decide) (c_X3_allGot (xG X) _ N h 1 (by decide)) rfl rfl ⟨⟨rfl, rfl⟩, Nat.le_of_ble_eq_true rfl, Nat.le_of_ble_eq_true rfl⟩ (Nat.le_of_ble_eq_true rfl) dX7_count_155) fun v7 _ => ?_
    exact r_iret F hA rfl rfl trivial dX7_count_158
  refine r_tsc F (tgt := 159) 10 10 dX7_count_1 rfl (by decide) (by decide) (by decide) ?_ fun n10 => ?_
  · skip
    refine r_aload_n F 0 rfl dX7_count_159 rfl ?_
    refine r_getS F frX7_72 (by decide) 1 rfl dX7_count_160 ?_
    refine k_iP (run_V F cvX7_262 (by decide) (c_X3_allGains (xG X) _ N h 1 (by decide)) rfl rfl ⟨⟨rfl, rfl⟩, Nat.le_of_ble_eq_true rfl, Nat.le_of_ble_eq_true rfl⟩ (Nat.le_of_ble_eq_true rfl) dX7_count_163) fun v8 _ => ?_
    exact r_iret F hA rfl rfl trivial dX7_count_166
  refine r_tsc F (tgt := 167) 11 11 dX7_count_1 rfl (by decide) (by decide) (by decide) ?_ fun n11 => ?_
  · skip
    refine r_aload_n F 0 rfl dX7_count_167 rfl ?_
    refine r_getS F frX7_72 (by decide) 1 rfl dX7_count_168 ?_
    refine r_getI F frX7_231 (by decide) dX7_count_171 ?_
    exact r_iret F hA rfl rfl trivial dX7_count_174
  refine r_tsc F (tgt := 175) 12 12 dX7_count_1 rfl (by decide) (by decide) (by decide) ?_ fun n12 => ?_
  · skip
    refine r_aload_n F 0 rfl dX7_count_175 rfl ?_
    refine r_getS F frX7_26 (by decide) 0 rfl dX7_count_176 ?_
    refine r_getI F frX7_336 (by decide) dX7_count_179 ?_
    exact r_iret F hA rfl rfl trivial dX7_count_182
  refine r_tsc F (tgt := 183) 13 13 dX7_count_1 rfl (by decide) (by decide) (by decide) ?_ fun n13 => ?_
  · skip
    refine r_aload_n F 0 rfl dX7_count_183 rfl ?_
    refine r_getS F frX7_26 (by decide) 0 rfl dX7_count_184 ?_
    refine k_iP (run_V F cvX7_372 (by decide) (c_X2_knownSize (xG X) _ h) rfl rfl ⟨⟨rfl, rfl⟩, Nat.le_of_ble_eq_true rfl, Nat.le_of_ble_eq_true rfl⟩ (Nat.le_of_ble_eq_true rfl) dX7_count_187) fun v9 _ => ?_
    exact r_iret F hA rfl rfl trivial dX7_count_190
  refine r_tsc F (tgt := 191) 14 14 dX7_count_1 rfl (by decide) (by decide) (by decide) ?_ fun n14 => ?_
  · skip
    refine r_aload_n F 0 rfl dX7_count_191 rfl ?_
    refine r_getS F frX7_33 (by decide) 0 rfl dX7_count_192 ?_
    refine r_getI F frX7_117 (by decide) dX7_count_195 ?_
    exact r_iret F hA rfl rfl trivial dX7_count_198
  refine r_tsd F (tgt := 199) dX7_count_1 (by have e0 := lv_neT n0 (a := 0) (by decide); have e1 := lv_neT n1 (a := 1) (by decide); have e2 := lv_neT n2 (a := 2) (by decide); have e3 := lv_neT n3 (a := 3) (by decide); have e4 := lv_neT n4 (a := 4) (by decide); have e5 := lv_neT n5 (a := 5) (by decide); have e6 := lv_neT n6 (a := 6) (by decide); have e7 := lv_neT n7 (a := 7) (by decide); have e8 := lv_neT n8 (a := 8) (by decide); have e9 := lv_neT n9 (a := 9) (by decide); have e10 := lv_neT n10 (a := 10) (by decide); have e11 := lv_neT n11 (a := 11) (by decide); have e12 := lv_neT n12 (a := 12) (by decide); have e13 := lv_neT n13 (a := 13) (by decide); have e14 := lv_neT n14 (a := 14) (by decide); omega) (by decide) ?_
  refine r_iconst F (v := (-1)) dX7_count_199 (by decide) ?_
  exact r_iret F hA rfl rfl trivial dX7_count_200
theorem c_X7_count (G : Gx) (l : Launch) (N : Nat) (h : Hp) (p1 : Int32) : Ctr G l yX7_count (.code yX7_count cX7_count 2 (some .int) :: GT) rmX7_count [.ref (adr G 7 0 0), .int p1] h (f_X7_count N h p1) (fun v => some (.int v)) (fun _ => h) (fun _ => True) :=
  ctr_of (by decide) (Nat.le_of_ble_eq_true rfl) ⟨rfl, rfl⟩ fun X _ e2 hA hL F => by subst e2; exact w_X7_count X F hA hL N h p1
