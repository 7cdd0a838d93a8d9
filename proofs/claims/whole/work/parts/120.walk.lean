theorem dX8_text_0 : decode cX8_text 0 = .ok (.aload_n 0, 1) := by decide +kernel
theorem dX8_text_1 : decode cX8_text 1 = .ok (.iconst 0, 1) := by decide +kernel
theorem dX8_text_2 : decode cX8_text 2 = .ok (.putfield 163, 3) := by decide +kernel
theorem dX8_text_5 : decode cX8_text 5 = .ok (.iload_n 1, 1) := by decide +kernel
theorem dX8_text_6 : decode cX8_text 6 = .ok (.ifCond .lt 11, 3) := by decide +kernel
theorem dX8_text_9 : decode cX8_text 9 = .ok (.iload_n 1, 1) := by decide +kernel
theorem dX8_text_10 : decode cX8_text 10 = .ok (.aload_n 0, 1) := by decide +kernel
theorem dX8_text_11 : decode cX8_text 11 = .ok (.getfield 166, 3) := by decide +kernel
theorem dX8_text_14 : decode cX8_text 14 = .ok (.if_icmp .le 6, 3) := by decide +kernel
theorem dX8_text_17 : decode cX8_text 17 = .ok (.bipush (-2), 2) := by decide +kernel
theorem dX8_text_19 : decode cX8_text 19 = .ok (.ireturn, 1) := by decide +kernel
theorem dX8_text_20 : decode cX8_text 20 = .ok (.aload_n 0, 1) := by decide +kernel
theorem dX8_text_21 : decode cX8_text 21 = .ok (.iload_n 1, 1) := by decide +kernel
theorem dX8_text_22 : decode cX8_text 22 = .ok (.putfield 175, 3) := by decide +kernel
theorem dX8_text_25 : decode cX8_text 25 = .ok (.aload_n 0, 1) := by decide +kernel
theorem dX8_text_26 : decode cX8_text 26 = .ok (.iconst 0, 1) := by decide +kernel
theorem dX8_text_27 : decode cX8_text 27 = .ok (.putfield 166, 3) := by decide +kernel
theorem dX8_text_30 : decode cX8_text 30 = .ok (.aload_n 0, 1) := by decide +kernel
theorem dX8_text_31 : decode cX8_text 31 = .ok (.iconst 0, 1) := by decide +kernel
theorem dX8_text_32 : decode cX8_text 32 = .ok (.putfield 169, 3) := by decide +kernel
theorem dX8_text_35 : decode cX8_text 35 = .ok (.aload_n 0, 1) := by decide +kernel
theorem dX8_text_36 : decode cX8_text 36 = .ok (.iconst (-1), 1) := by decide +kernel
theorem dX8_text_37 : decode cX8_text 37 = .ok (.putfield 16, 3) := by decide +kernel
theorem dX8_text_40 : decode cX8_text 40 = .ok (.aload_n 0, 1) := by decide +kernel
theorem dX8_text_41 : decode cX8_text 41 = .ok (.iconst 0, 1) := by decide +kernel
theorem dX8_text_42 : decode cX8_text 42 = .ok (.putfield 178, 3) := by decide +kernel
theorem dX8_text_45 : decode cX8_text 45 = .ok (.aload_n 0, 1) := by decide +kernel
theorem dX8_text_46 : decode cX8_text 46 = .ok (.invokevirtual 157, 3) := by decide +kernel
theorem dX8_text_49 : decode cX8_text 49 = .ok (.aload_n 0, 1) := by decide +kernel
theorem dX8_text_50 : decode cX8_text 50 = .ok (.invokevirtual 215, 3) := by decide +kernel
theorem dX8_text_53 : decode cX8_text 53 = .ok (.iconst 0, 1) := by decide +kernel
theorem dX8_text_54 : decode cX8_text 54 = .ok (.istore_n 2, 1) := by decide +kernel
theorem dX8_text_55 : decode cX8_text 55 = .ok (.aload_n 0, 1) := by decide +kernel
theorem dX8_text_56 : decode cX8_text 56 = .ok (.getfield 181, 3) := by decide +kernel
theorem dX8_text_59 : decode cX8_text 59 = .ok (.ifCond .eq 18, 3) := by decide +kernel
theorem dX8_text_62 : decode cX8_text 62 = .ok (.aload_n 0, 1) := by decide +kernel
theorem dX8_text_63 : decode cX8_text 63 = .ok (.invokevirtual 288, 3) := by decide +kernel
theorem dX8_text_66 : decode cX8_text 66 = .ok (.ifCond .ne 5, 3) := by decide +kernel
theorem dX8_text_69 : decode cX8_text 69 = .ok (.iconst (-1), 1) := by decide +kernel
theorem dX8_text_70 : decode cX8_text 70 = .ok (.ireturn, 1) := by decide +kernel
theorem dX8_text_71 : decode cX8_text 71 = .ok (.iinc 2 1, 3) := by decide +kernel
theorem dX8_text_74 : decode cX8_text 74 = .ok (.goto (-19), 3) := by decide +kernel
theorem dX8_text_77 : decode cX8_text 77 = .ok (.aload_n 0, 1) := by decide +kernel
theorem dX8_text_78 : decode cX8_text 78 = .ok (.invokevirtual 160, 3) := by decide +kernel
theorem dX8_text_81 : decode cX8_text 81 = .ok (.iload_n 2, 1) := by decide +kernel
theorem dX8_text_82 : decode cX8_text 82 = .ok (.ireturn, 1) := by decide +kernel
theorem dX8_fault_0 : decode cX8_fault 0 = .ok (.aload_n 0, 1) := by decide +kernel
theorem dX8_fault_1 : decode cX8_fault 1 = .ok (.iconst 0, 1) := by decide +kernel
theorem dX8_fault_2 : decode cX8_fault 2 = .ok (.putfield 163, 3) := by decide +kernel
theorem dX8_fault_5 : decode cX8_fault 5 = .ok (.iload_n 1, 1) := by decide +kernel
theorem dX8_fault_6 : decode cX8_fault 6 = .ok (.ifCond .ne 10, 3) := by decide +kernel
theorem dX8_fault_9 : decode cX8_fault 9 = .ok (.aload_n 0, 1) := by decide +kernel
theorem dX8_fault_10 : decode cX8_fault 10 = .ok (.getfield 169, 3) := by decide +kernel
theorem dX8_fault_13 : decode cX8_fault 13 = .ok (.goto 16, 3) := by decide +kernel
theorem dX8_fault_16 : decode cX8_fault 16 = .ok (.iload_n 1, 1) := by decide +kernel
theorem dX8_fault_17 : decode cX8_fault 17 = .ok (.iconst 1, 1) := by decide +kernel
theorem dX8_fault_18 : decode cX8_fault 18 = .ok (.if_icmp .ne 10, 3) := by decide +kernel
theorem dX8_fault_21 : decode cX8_fault 21 = .ok (.aload_n 0, 1) := by decide +kernel
theorem dX8_fault_22 : decode cX8_fault 22 = .ok (.getfield 16, 3) := by decide +kernel
theorem dX8_fault_25 : decode cX8_fault 25 = .ok (.goto 4, 3) := by decide +kernel
theorem dX8_fault_28 : decode cX8_fault 28 = .ok (.iconst (-1), 1) := by decide +kernel
theorem dX8_fault_29 : decode cX8_fault 29 = .ok (.ireturn, 1) := by decide +kernel
theorem dX8_named_0 : decode cX8_named 0 = .ok (.aload_n 0, 1) := by decide +kernel
theorem dX8_named_1 : decode cX8_named 1 = .ok (.iconst 0, 1) := by decide +kernel
theorem dX8_named_2 : decode cX8_named 2 = .ok (.putfield 163, 3) := by decide +kernel
theorem dX8_named_5 : decode cX8_named 5 = .ok (.aload_n 0, 1) := by decide +kernel
theorem dX8_named_6 : decode cX8_named 6 = .ok (.getfield 30, 3) := by decide +kernel
theorem dX8_named_9 : decode cX8_named 9 = .ok (.iconst 0, 1) := by decide +kernel
theorem dX8_named_10 : decode cX8_named 10 = .ok (.aload_n 0, 1) := by decide +kernel
theorem dX8_named_11 : decode cX8_named 11 = .ok (.getfield 246, 3) := by decide +kernel
theorem dX8_named_14 : decode cX8_named 14 = .ok (.iload_n 1, 1) := by decide +kernel
theorem dX8_named_15 : decode cX8_named 15 = .ok (.invokestatic 265, 3) := by decide +kernel
theorem dX8_named_18 : decode cX8_named 18 = .ok (.ireturn, 1) := by decide +kernel
theorem dX8_bounded_0 : decode cX8_bounded 0 = .ok (.aload_n 0, 1) := by decide +kernel
theorem dX8_bounded_1 : decode cX8_bounded 1 = .ok (.aload_n 0, 1) := by decide +kernel
theorem dX8_bounded_2 : decode cX8_bounded 2 = .ok (.getfield 341, 3) := by decide +kernel
theorem dX8_bounded_5 : decode cX8_bounded 5 = .ok (.ifCond .ne 19, 3) := by decide +kernel
theorem dX8_bounded_8 : decode cX8_bounded 8 = .ok (.lload_n 1, 1) := by decide +kernel
theorem dX8_bounded_9 : decode cX8_bounded 9 = .ok (.ldc2_w 344, 3) := by decide +kernel
theorem dX8_bounded_12 : decode cX8_bounded 12 = .ok (.lcmp, 1) := by decide +kernel
theorem dX8_bounded_13 : decode cX8_bounded 13 = .ok (.ifCond .gt 11, 3) := by decide +kernel
theorem dX8_bounded_16 : decode cX8_bounded 16 = .ok (.lload_n 1, 1) := by decide +kernel
theorem dX8_bounded_17 : decode cX8_bounded 17 = .ok (.ldc2_w 346, 3) := by decide +kernel
theorem dX8_bounded_20 : decode cX8_bounded 20 = .ok (.lcmp, 1) := by decide +kernel
theorem dX8_bounded_21 : decode cX8_bounded 21 = .ok (.ifCond .ge 7, 3) := by decide +kernel
theorem dX8_bounded_24 : decode cX8_bounded 24 = .ok (.iconst 1, 1) := by decide +kernel
theorem dX8_bounded_25 : decode cX8_bounded 25 = .ok (.goto 4, 3) := by decide +kernel
theorem dX8_bounded_28 : decode cX8_bounded 28 = .ok (.iconst 0, 1) := by decide +kernel
theorem dX8_bounded_29 : decode cX8_bounded 29 = .ok (.putfield 341, 3) := by decide +kernel
theorem dX8_bounded_32 : decode cX8_bounded 32 = .ok (.aload_n 0, 1) := by decide +kernel
theorem dX8_bounded_33 : decode cX8_bounded 33 = .ok (.getfield 341, 3) := by decide +kernel
theorem dX8_bounded_36 : decode cX8_bounded 36 = .ok (.ifCond .eq 7, 3) := by decide +kernel
theorem dX8_bounded_39 : decode cX8_bounded 39 = .ok (.lconst 0, 1) := by decide +kernel
theorem dX8_bounded_40 : decode cX8_bounded 40 = .ok (.goto 4, 3) := by decide +kernel
theorem dX8_bounded_43 : decode cX8_bounded 43 = .ok (.lload_n 1, 1) := by decide +kernel
theorem dX8_bounded_44 : decode cX8_bounded 44 = .ok (.lreturn, 1) := by decide +kernel
theorem dX8_compares_0 : decode cX8_compares 0 = .ok (.iload_n 0, 1) := by decide +kernel
theorem dX8_compares_1 : decode cX8_compares 1 = .ok (.tableswitch 95 5 9 #[35, 47, 59, 71, 83], 35) := by decide +kernel
theorem dX8_compares_36 : decode cX8_compares 36 = .ok (.lload_n 1, 1) := by decide +kernel
theorem dX8_compares_37 : decode cX8_compares 37 = .ok (.lload_n 3, 1) := by decide +kernel
theorem dX8_compares_38 : decode cX8_compares 38 = .ok (.lcmp, 1) := by decide +kernel
theorem dX8_compares_39 : decode cX8_compares 39 = .ok (.ifCond .ge 7, 3) := by decide +kernel
theorem dX8_compares_42 : decode cX8_compares 42 = .ok (.iconst 1, 1) := by decide +kernel
theorem dX8_compares_43 : decode cX8_compares 43 = .ok (.goto 4, 3) := by decide +kernel
theorem dX8_compares_46 : decode cX8_compares 46 = .ok (.iconst 0, 1) := by decide +kernel
theorem dX8_compares_47 : decode cX8_compares 47 = .ok (.ireturn, 1) := by decide +kernel
theorem dX8_compares_48 : decode cX8_compares 48 = .ok (.lload_n 1, 1) := by decide +kernel
theorem dX8_compares_49 : decode cX8_compares 49 = .ok (.lload_n 3, 1) := by decide +kernel
theorem dX8_compares_50 : decode cX8_compares 50 = .ok (.lcmp, 1) := by decide +kernel
theorem dX8_compares_51 : decode cX8_compares 51 = .ok (.ifCond .gt 7, 3) := by decide +kernel
theorem dX8_compares_54 : decode cX8_compares 54 = .ok (.iconst 1, 1) := by decide +kernel
theorem dX8_compares_55 : decode cX8_compares 55 = .ok (.goto 4, 3) := by decide +kernel
theorem dX8_compares_58 : decode cX8_compares 58 = .ok (.iconst 0, 1) := by decide +kernel
theorem dX8_compares_59 : decode cX8_compares 59 = .ok (.ireturn, 1) := by decide +kernel
theorem dX8_compares_60 : decode cX8_compares 60 = .ok (.lload_n 1, 1) := by decide +kernel
theorem dX8_compares_61 : decode cX8_compares 61 = .ok (.lload_n 3, 1) := by decide +kernel
theorem dX8_compares_62 : decode cX8_compares 62 = .ok (.lcmp, 1) := by decide +kernel
theorem dX8_compares_63 : decode cX8_compares 63 = .ok (.ifCond .ne 7, 3) := by decide +kernel
theorem dX8_compares_66 : decode cX8_compares 66 = .ok (.iconst 1, 1) := by decide +kernel
theorem dX8_compares_67 : decode cX8_compares 67 = .ok (.goto 4, 3) := by decide +kernel
theorem dX8_compares_70 : decode cX8_compares 70 = .ok (.iconst 0, 1) := by decide +kernel
theorem dX8_compares_71 : decode cX8_compares 71 = .ok (.ireturn, 1) := by decide +kernel
theorem dX8_compares_72 : decode cX8_compares 72 = .ok (.lload_n 1, 1) := by decide +kernel
theorem dX8_compares_73 : decode cX8_compares 73 = .ok (.lload_n 3, 1) := by decide +kernel
theorem dX8_compares_74 : decode cX8_compares 74 = .ok (.lcmp, 1) := by decide +kernel
theorem dX8_compares_75 : decode cX8_compares 75 = .ok (.ifCond .eq 7, 3) := by decide +kernel
theorem dX8_compares_78 : decode cX8_compares 78 = .ok (.iconst 1, 1) := by decide +kernel
theorem dX8_compares_79 : decode cX8_compares 79 = .ok (.goto 4, 3) := by decide +kernel
theorem dX8_compares_82 : decode cX8_compares 82 = .ok (.iconst 0, 1) := by decide +kernel
theorem dX8_compares_83 : decode cX8_compares 83 = .ok (.ireturn, 1) := by decide +kernel
theorem dX8_compares_84 : decode cX8_compares 84 = .ok (.lload_n 1, 1) := by decide +kernel
theorem dX8_compares_85 : decode cX8_compares 85 = .ok (.lload_n 3, 1) := by decide +kernel
theorem dX8_compares_86 : decode cX8_compares 86 = .ok (.lcmp, 1) := by decide +kernel
theorem dX8_compares_87 : decode cX8_compares 87 = .ok (.ifCond .lt 7, 3) := by decide +kernel
theorem dX8_compares_90 : decode cX8_compares 90 = .ok (.iconst 1, 1) := by decide +kernel
theorem dX8_compares_91 : decode cX8_compares 91 = .ok (.goto 4, 3) := by decide +kernel
theorem dX8_compares_94 : decode cX8_compares 94 = .ok (.iconst 0, 1) := by decide +kernel
theorem dX8_compares_95 : decode cX8_compares 95 = .ok (.ireturn, 1) := by decide +kernel
theorem dX8_compares_96 : decode cX8_compares 96 = .ok (.lload_n 1, 1) := by decide +kernel
theorem dX8_compares_97 : decode cX8_compares 97 = .ok (.lload_n 3, 1) := by decide +kernel
theorem dX8_compares_98 : decode cX8_compares 98 = .ok (.lcmp, 1) := by decide +kernel
theorem dX8_compares_99 : decode cX8_compares 99 = .ok (.ifCond .le 7, 3) := by decide +kernel
theorem dX8_compares_102 : decode cX8_compares 102 = .ok (.iconst 1, 1) := by decide +kernel
theorem dX8_compares_103 : decode cX8_compares 103 = .ok (.goto 4, 3) := by decide +kernel
theorem dX8_compares_106 : decode cX8_compares 106 = .ok (.iconst 0, 1) := by decide +kernel
theorem dX8_compares_107 : decode cX8_compares 107 = .ok (.ireturn, 1) := by decide +kernel
theorem dX8_times_0 : decode cX8_times 0 = .ok (.lload_n 1, 1) := by decide +kernel
theorem dX8_times_1 : decode cX8_times 1 = .ok (.lconst 0, 1) := by decide +kernel
theorem dX8_times_2 : decode cX8_times 2 = .ok (.lcmp, 1) := by decide +kernel
theorem dX8_times_3 : decode cX8_times 3 = .ok (.ifCond .eq 45, 3) := by decide +kernel
theorem dX8_times_6 : decode cX8_times 6 = .ok (.lload_n 3, 1) := by decide +kernel
theorem dX8_times_7 : decode cX8_times 7 = .ok (.lconst 0, 1) := by decide +kernel
theorem dX8_times_8 : decode cX8_times 8 = .ok (.lcmp, 1) := by decide +kernel
theorem dX8_times_9 : decode cX8_times 9 = .ok (.ifCond .eq 39, 3) := by decide +kernel
theorem dX8_times_12 : decode cX8_times 12 = .ok (.lload_n 3, 1) := by decide +kernel
theorem dX8_times_13 : decode cX8_times 13 = .ok (.lconst 0, 1) := by decide +kernel
theorem dX8_times_14 : decode cX8_times 14 = .ok (.lcmp, 1) := by decide +kernel
theorem dX8_times_15 : decode cX8_times 15 = .ok (.ifCond .ge 8, 3) := by decide +kernel
theorem dX8_times_18 : decode cX8_times 18 = .ok (.lload_n 3, 1) := by decide +kernel
theorem dX8_times_19 : decode cX8_times 19 = .ok (.lneg, 1) := by decide +kernel
theorem dX8_times_20 : decode cX8_times 20 = .ok (.goto 4, 3) := by decide +kernel
theorem dX8_times_23 : decode cX8_times 23 = .ok (.lload_n 3, 1) := by decide +kernel
theorem dX8_times_24 : decode cX8_times 24 = .ok (.ldc2_w 344, 3) := by decide +kernel
theorem dX8_times_27 : decode cX8_times 27 = .ok (.lload_n 1, 1) := by decide +kernel
theorem dX8_times_28 : decode cX8_times 28 = .ok (.lconst 0, 1) := by decide +kernel
theorem dX8_times_29 : decode cX8_times 29 = .ok (.lcmp, 1) := by decide +kernel
theorem dX8_times_30 : decode cX8_times 30 = .ok (.ifCond .ge 8, 3) := by decide +kernel
theorem dX8_times_33 : decode cX8_times 33 = .ok (.lload_n 1, 1) := by decide +kernel
theorem dX8_times_34 : decode cX8_times 34 = .ok (.lneg, 1) := by decide +kernel
theorem dX8_times_35 : decode cX8_times 35 = .ok (.goto 4, 3) := by decide +kernel
theorem dX8_times_38 : decode cX8_times 38 = .ok (.lload_n 1, 1) := by decide +kernel
theorem dX8_times_39 : decode cX8_times 39 = .ok (.ldiv, 1) := by decide +kernel
theorem dX8_times_40 : decode cX8_times 40 = .ok (.lcmp, 1) := by decide +kernel
theorem dX8_times_41 : decode cX8_times 41 = .ok (.ifCond .le 7, 3) := by decide +kernel
theorem dX8_times_44 : decode cX8_times 44 = .ok (.iconst 1, 1) := by decide +kernel
theorem dX8_times_45 : decode cX8_times 45 = .ok (.goto 4, 3) := by decide +kernel
theorem dX8_times_48 : decode cX8_times 48 = .ok (.iconst 0, 1) := by decide +kernel
theorem dX8_times_49 : decode cX8_times 49 = .ok (.istore 5, 2) := by decide +kernel
theorem dX8_times_51 : decode cX8_times 51 = .ok (.aload_n 0, 1) := by decide +kernel
theorem dX8_times_52 : decode cX8_times 52 = .ok (.aload_n 0, 1) := by decide +kernel
theorem dX8_times_53 : decode cX8_times 53 = .ok (.getfield 341, 3) := by decide +kernel
theorem dX8_times_56 : decode cX8_times 56 = .ok (.ifCond .ne 8, 3) := by decide +kernel
theorem dX8_times_59 : decode cX8_times 59 = .ok (.iload 5, 2) := by decide +kernel
theorem dX8_times_61 : decode cX8_times 61 = .ok (.ifCond .eq 7, 3) := by decide +kernel
theorem dX8_times_64 : decode cX8_times 64 = .ok (.iconst 1, 1) := by decide +kernel
theorem dX8_times_65 : decode cX8_times 65 = .ok (.goto 4, 3) := by decide +kernel
theorem dX8_times_68 : decode cX8_times 68 = .ok (.iconst 0, 1) := by decide +kernel
theorem dX8_times_69 : decode cX8_times 69 = .ok (.putfield 341, 3) := by decide +kernel
theorem dX8_times_72 : decode cX8_times 72 = .ok (.aload_n 0, 1) := by decide +kernel
theorem dX8_times_73 : decode cX8_times 73 = .ok (.getfield 341, 3) := by decide +kernel
theorem dX8_times_76 : decode cX8_times 76 = .ok (.ifCond .eq 7, 3) := by decide +kernel
theorem dX8_times_79 : decode cX8_times 79 = .ok (.lconst 0, 1) := by decide +kernel
theorem dX8_times_80 : decode cX8_times 80 = .ok (.goto 6, 3) := by decide +kernel
theorem dX8_times_83 : decode cX8_times 83 = .ok (.lload_n 1, 1) := by decide +kernel
theorem dX8_times_84 : decode cX8_times 84 = .ok (.lload_n 3, 1) := by decide +kernel
theorem dX8_times_85 : decode cX8_times 85 = .ok (.lmul, 1) := by decide +kernel
theorem dX8_times_86 : decode cX8_times 86 = .ok (.lreturn, 1) := by decide +kernel
theorem dX8_valueOf_0 : decode cX8_valueOf 0 = .ok (.aload_n 0, 1) := by decide +kernel
theorem dX8_valueOf_1 : decode cX8_valueOf 1 = .ok (.getfield 63, 3) := by decide +kernel
theorem dX8_valueOf_4 : decode cX8_valueOf 4 = .ok (.iload_n 1, 1) := by decide +kernel
theorem dX8_valueOf_5 : decode cX8_valueOf 5 = .ok (.iaload, 1) := by decide +kernel
theorem dX8_valueOf_6 : decode cX8_valueOf 6 = .ok (.ifCond .ne 11, 3) := by decide +kernel
theorem dX8_valueOf_9 : decode cX8_valueOf 9 = .ok (.aload_n 0, 1) := by decide +kernel
theorem dX8_valueOf_10 : decode cX8_valueOf 10 = .ok (.getfield 66, 3) := by decide +kernel
theorem dX8_valueOf_13 : decode cX8_valueOf 13 = .ok (.iload_n 1, 1) := by decide +kernel
theorem dX8_valueOf_14 : decode cX8_valueOf 14 = .ok (.iaload, 1) := by decide +kernel
theorem dX8_valueOf_15 : decode cX8_valueOf 15 = .ok (.i2l, 1) := by decide +kernel
theorem dX8_valueOf_16 : decode cX8_valueOf 16 = .ok (.lreturn, 1) := by decide +kernel
theorem dX8_valueOf_17 : decode cX8_valueOf 17 = .ok (.aload_n 0, 1) := by decide +kernel
theorem dX8_valueOf_18 : decode cX8_valueOf 18 = .ok (.getfield 63, 3) := by decide +kernel
theorem dX8_valueOf_21 : decode cX8_valueOf 21 = .ok (.iload_n 1, 1) := by decide +kernel
theorem dX8_valueOf_22 : decode cX8_valueOf 22 = .ok (.iaload, 1) := by decide +kernel
theorem dX8_valueOf_23 : decode cX8_valueOf 23 = .ok (.iconst 1, 1) := by decide +kernel
theorem dX8_valueOf_24 : decode cX8_valueOf 24 = .ok (.if_icmp .ne 15, 3) := by decide +kernel
theorem dX8_valueOf_27 : decode cX8_valueOf 27 = .ok (.aload_n 0, 1) := by decide +kernel
theorem dX8_valueOf_28 : decode cX8_valueOf 28 = .ok (.getfield 78, 3) := by decide +kernel
theorem dX8_valueOf_31 : decode cX8_valueOf 31 = .ok (.aload_n 0, 1) := by decide +kernel
theorem dX8_valueOf_32 : decode cX8_valueOf 32 = .ok (.getfield 66, 3) := by decide +kernel
theorem dX8_valueOf_35 : decode cX8_valueOf 35 = .ok (.iload_n 1, 1) := by decide +kernel
theorem dX8_valueOf_36 : decode cX8_valueOf 36 = .ok (.iaload, 1) := by decide +kernel
theorem dX8_valueOf_37 : decode cX8_valueOf 37 = .ok (.laload, 1) := by decide +kernel
theorem dX8_valueOf_38 : decode cX8_valueOf 38 = .ok (.lreturn, 1) := by decide +kernel
theorem dX8_valueOf_39 : decode cX8_valueOf 39 = .ok (.aload_n 0, 1) := by decide +kernel
theorem dX8_valueOf_40 : decode cX8_valueOf 40 = .ok (.getfield 82, 3) := by decide +kernel
theorem dX8_valueOf_43 : decode cX8_valueOf 43 = .ok (.aload_n 0, 1) := by decide +kernel
theorem dX8_valueOf_44 : decode cX8_valueOf 44 = .ok (.getfield 66, 3) := by decide +kernel
theorem dX8_valueOf_47 : decode cX8_valueOf 47 = .ok (.iload_n 1, 1) := by decide +kernel
theorem dX8_valueOf_48 : decode cX8_valueOf 48 = .ok (.iaload, 1) := by decide +kernel
theorem dX8_valueOf_49 : decode cX8_valueOf 49 = .ok (.laload, 1) := by decide +kernel
theorem dX8_valueOf_50 : decode cX8_valueOf 50 = .ok (.lstore_n 2, 1) := by decide +kernel
theorem dX8_valueOf_51 : decode cX8_valueOf 51 = .ok (.aload_n 0, 1) := by decide +kernel
theorem dX8_valueOf_52 : decode cX8_valueOf 52 = .ok (.getfield 63, 3) := by decide +kernel
theorem dX8_valueOf_55 : decode cX8_valueOf 55 = .ok (.iload_n 1, 1) := by decide +kernel
theorem dX8_valueOf_56 : decode cX8_valueOf 56 = .ok (.iaload, 1) := by decide +kernel
theorem dX8_valueOf_57 : decode cX8_valueOf 57 = .ok (.iconst 2, 1) := by decide +kernel
theorem dX8_valueOf_58 : decode cX8_valueOf 58 = .ok (.if_icmp .ne 15, 3) := by decide +kernel
theorem dX8_valueOf_61 : decode cX8_valueOf 61 = .ok (.lload_n 2, 1) := by decide +kernel
theorem dX8_valueOf_62 : decode cX8_valueOf 62 = .ok (.lconst 0, 1) := by decide +kernel
theorem dX8_valueOf_63 : decode cX8_valueOf 63 = .ok (.lcmp, 1) := by decide +kernel
theorem dX8_valueOf_64 : decode cX8_valueOf 64 = .ok (.ifCond .ne 7, 3) := by decide +kernel
theorem dX8_valueOf_67 : decode cX8_valueOf 67 = .ok (.lconst 1, 1) := by decide +kernel
theorem dX8_valueOf_68 : decode cX8_valueOf 68 = .ok (.goto 4, 3) := by decide +kernel
theorem dX8_valueOf_71 : decode cX8_valueOf 71 = .ok (.lconst 0, 1) := by decide +kernel
theorem dX8_valueOf_72 : decode cX8_valueOf 72 = .ok (.lreturn, 1) := by decide +kernel
theorem dX8_valueOf_73 : decode cX8_valueOf 73 = .ok (.aload_n 0, 1) := by decide +kernel
theorem dX8_valueOf_74 : decode cX8_valueOf 74 = .ok (.getfield 82, 3) := by decide +kernel
theorem dX8_valueOf_77 : decode cX8_valueOf 77 = .ok (.aload_n 0, 1) := by decide +kernel
theorem dX8_valueOf_78 : decode cX8_valueOf 78 = .ok (.getfield 69, 3) := by decide +kernel
theorem dX8_valueOf_81 : decode cX8_valueOf 81 = .ok (.iload_n 1, 1) := by decide +kernel
theorem dX8_valueOf_82 : decode cX8_valueOf 82 = .ok (.iaload, 1) := by decide +kernel
theorem dX8_valueOf_83 : decode cX8_valueOf 83 = .ok (.laload, 1) := by decide +kernel
theorem dX8_valueOf_84 : decode cX8_valueOf 84 = .ok (.lstore 4, 2) := by decide +kernel
theorem dX8_valueOf_86 : decode cX8_valueOf 86 = .ok (.aload_n 0, 1) := by decide +kernel
theorem dX8_valueOf_87 : decode cX8_valueOf 87 = .ok (.getfield 63, 3) := by decide +kernel
theorem dX8_valueOf_90 : decode cX8_valueOf 90 = .ok (.iload_n 1, 1) := by decide +kernel
theorem dX8_valueOf_91 : decode cX8_valueOf 91 = .ok (.iaload, 1) := by decide +kernel
theorem dX8_valueOf_92 : decode cX8_valueOf 92 = .ok (.tableswitch 167 3 14 #[64, 83, 167, 167, 167, 167, 167, 167, 102, 111, 120, 128], 64) := by decide +kernel
theorem dX8_valueOf_156 : decode cX8_valueOf 156 = .ok (.lload_n 2, 1) := by decide +kernel
theorem dX8_valueOf_157 : decode cX8_valueOf 157 = .ok (.lconst 0, 1) := by decide +kernel
theorem dX8_valueOf_158 : decode cX8_valueOf 158 = .ok (.lcmp, 1) := by decide +kernel
theorem dX8_valueOf_159 : decode cX8_valueOf 159 = .ok (.ifCond .eq 14, 3) := by decide +kernel
theorem dX8_valueOf_162 : decode cX8_valueOf 162 = .ok (.lload 4, 2) := by decide +kernel
theorem dX8_valueOf_164 : decode cX8_valueOf 164 = .ok (.lconst 0, 1) := by decide +kernel
theorem dX8_valueOf_165 : decode cX8_valueOf 165 = .ok (.lcmp, 1) := by decide +kernel
theorem dX8_valueOf_166 : decode cX8_valueOf 166 = .ok (.ifCond .eq 7, 3) := by decide +kernel
theorem dX8_valueOf_169 : decode cX8_valueOf 169 = .ok (.lconst 1, 1) := by decide +kernel
theorem dX8_valueOf_170 : decode cX8_valueOf 170 = .ok (.goto 4, 3) := by decide +kernel
theorem dX8_valueOf_173 : decode cX8_valueOf 173 = .ok (.lconst 0, 1) := by decide +kernel
theorem dX8_valueOf_174 : decode cX8_valueOf 174 = .ok (.lreturn, 1) := by decide +kernel
theorem dX8_valueOf_175 : decode cX8_valueOf 175 = .ok (.lload_n 2, 1) := by decide +kernel
theorem dX8_valueOf_176 : decode cX8_valueOf 176 = .ok (.lconst 0, 1) := by decide +kernel
theorem dX8_valueOf_177 : decode cX8_valueOf 177 = .ok (.lcmp, 1) := by decide +kernel
theorem dX8_valueOf_178 : decode cX8_valueOf 178 = .ok (.ifCond .ne 10, 3) := by decide +kernel
theorem dX8_valueOf_181 : decode cX8_valueOf 181 = .ok (.lload 4, 2) := by decide +kernel
theorem dX8_valueOf_183 : decode cX8_valueOf 183 = .ok (.lconst 0, 1) := by decide +kernel
theorem dX8_valueOf_184 : decode cX8_valueOf 184 = .ok (.lcmp, 1) := by decide +kernel
theorem dX8_valueOf_185 : decode cX8_valueOf 185 = .ok (.ifCond .eq 7, 3) := by decide +kernel
theorem dX8_valueOf_188 : decode cX8_valueOf 188 = .ok (.lconst 1, 1) := by decide +kernel
theorem dX8_valueOf_189 : decode cX8_valueOf 189 = .ok (.goto 4, 3) := by decide +kernel
theorem dX8_valueOf_192 : decode cX8_valueOf 192 = .ok (.lconst 0, 1) := by decide +kernel
theorem dX8_valueOf_193 : decode cX8_valueOf 193 = .ok (.lreturn, 1) := by decide +kernel
theorem dX8_valueOf_194 : decode cX8_valueOf 194 = .ok (.aload_n 0, 1) := by decide +kernel
theorem dX8_valueOf_195 : decode cX8_valueOf 195 = .ok (.lload_n 2, 1) := by decide +kernel
theorem dX8_valueOf_196 : decode cX8_valueOf 196 = .ok (.lload 4, 2) := by decide +kernel
theorem dX8_valueOf_198 : decode cX8_valueOf 198 = .ok (.ladd, 1) := by decide +kernel
theorem dX8_valueOf_199 : decode cX8_valueOf 199 = .ok (.invokevirtual 348, 3) := by decide +kernel
theorem dX8_valueOf_202 : decode cX8_valueOf 202 = .ok (.lreturn, 1) := by decide +kernel
theorem dX8_valueOf_203 : decode cX8_valueOf 203 = .ok (.aload_n 0, 1) := by decide +kernel
theorem dX8_valueOf_204 : decode cX8_valueOf 204 = .ok (.lload_n 2, 1) := by decide +kernel
theorem dX8_valueOf_205 : decode cX8_valueOf 205 = .ok (.lload 4, 2) := by decide +kernel
theorem dX8_valueOf_207 : decode cX8_valueOf 207 = .ok (.lsub, 1) := by decide +kernel
theorem dX8_valueOf_208 : decode cX8_valueOf 208 = .ok (.invokevirtual 348, 3) := by decide +kernel
theorem dX8_valueOf_211 : decode cX8_valueOf 211 = .ok (.lreturn, 1) := by decide +kernel
theorem dX8_valueOf_212 : decode cX8_valueOf 212 = .ok (.aload_n 0, 1) := by decide +kernel
theorem dX8_valueOf_213 : decode cX8_valueOf 213 = .ok (.lload_n 2, 1) := by decide +kernel
theorem dX8_valueOf_214 : decode cX8_valueOf 214 = .ok (.lload 4, 2) := by decide +kernel
theorem dX8_valueOf_216 : decode cX8_valueOf 216 = .ok (.invokevirtual 352, 3) := by decide +kernel
theorem dX8_valueOf_219 : decode cX8_valueOf 219 = .ok (.lreturn, 1) := by decide +kernel
theorem dX8_valueOf_220 : decode cX8_valueOf 220 = .ok (.aload_n 0, 1) := by decide +kernel
theorem dX8_valueOf_221 : decode cX8_valueOf 221 = .ok (.aload_n 0, 1) := by decide +kernel
theorem dX8_valueOf_222 : decode cX8_valueOf 222 = .ok (.getfield 341, 3) := by decide +kernel
theorem dX8_valueOf_225 : decode cX8_valueOf 225 = .ok (.ifCond .ne 10, 3) := by decide +kernel
theorem dX8_valueOf_228 : decode cX8_valueOf 228 = .ok (.lload 4, 2) := by decide +kernel
theorem dX8_valueOf_230 : decode cX8_valueOf 230 = .ok (.lconst 0, 1) := by decide +kernel
theorem dX8_valueOf_231 : decode cX8_valueOf 231 = .ok (.lcmp, 1) := by decide +kernel
theorem dX8_valueOf_232 : decode cX8_valueOf 232 = .ok (.ifCond .ne 7, 3) := by decide +kernel
theorem dX8_valueOf_235 : decode cX8_valueOf 235 = .ok (.iconst 1, 1) := by decide +kernel
theorem dX8_valueOf_236 : decode cX8_valueOf 236 = .ok (.goto 4, 3) := by decide +kernel
theorem dX8_valueOf_239 : decode cX8_valueOf 239 = .ok (.iconst 0, 1) := by decide +kernel
theorem dX8_valueOf_240 : decode cX8_valueOf 240 = .ok (.putfield 341, 3) := by decide +kernel
theorem dX8_valueOf_243 : decode cX8_valueOf 243 = .ok (.aload_n 0, 1) := by decide +kernel
theorem dX8_valueOf_244 : decode cX8_valueOf 244 = .ok (.getfield 341, 3) := by decide +kernel
theorem dX8_valueOf_247 : decode cX8_valueOf 247 = .ok (.ifCond .eq 7, 3) := by decide +kernel
theorem dX8_valueOf_250 : decode cX8_valueOf 250 = .ok (.lconst 0, 1) := by decide +kernel
theorem dX8_valueOf_251 : decode cX8_valueOf 251 = .ok (.goto 7, 3) := by decide +kernel
theorem dX8_valueOf_254 : decode cX8_valueOf 254 = .ok (.lload_n 2, 1) := by decide +kernel
theorem dX8_valueOf_255 : decode cX8_valueOf 255 = .ok (.lload 4, 2) := by decide +kernel
theorem dX8_valueOf_257 : decode cX8_valueOf 257 = .ok (.ldiv, 1) := by decide +kernel
theorem dX8_valueOf_258 : decode cX8_valueOf 258 = .ok (.lreturn, 1) := by decide +kernel
theorem dX8_valueOf_259 : decode cX8_valueOf 259 = .ok (.aload_n 0, 1) := by decide +kernel
theorem dX8_valueOf_260 : decode cX8_valueOf 260 = .ok (.getfield 63, 3) := by decide +kernel
theorem dX8_valueOf_263 : decode cX8_valueOf 263 = .ok (.iload_n 1, 1) := by decide +kernel
theorem dX8_valueOf_264 : decode cX8_valueOf 264 = .ok (.iaload, 1) := by decide +kernel
theorem dX8_valueOf_265 : decode cX8_valueOf 265 = .ok (.lload_n 2, 1) := by decide +kernel
theorem dX8_valueOf_266 : decode cX8_valueOf 266 = .ok (.lload 4, 2) := by decide +kernel
theorem dX8_valueOf_268 : decode cX8_valueOf 268 = .ok (.invokestatic 356, 3) := by decide +kernel
theorem dX8_valueOf_271 : decode cX8_valueOf 271 = .ok (.ifCond .eq 7, 3) := by decide +kernel
theorem dX8_valueOf_274 : decode cX8_valueOf 274 = .ok (.lconst 1, 1) := by decide +kernel
theorem dX8_valueOf_275 : decode cX8_valueOf 275 = .ok (.goto 4, 3) := by decide +kernel
theorem dX8_valueOf_278 : decode cX8_valueOf 278 = .ok (.lconst 0, 1) := by decide +kernel
theorem dX8_valueOf_279 : decode cX8_valueOf 279 = .ok (.lreturn, 1) := by decide +kernel
def f_X8_text_55 (N : Nat) (r55 : Int32 → Hp → Option (Int32 × Hp)) (v9 : Int32) (h10 : Hp) : Option (Int32 × Hp) :=
  if (gI h10 8 0 8) = 0 then
    (f_X8_keepText N h10).bind fun h11 =>
    some (v9, h11)
  else
  bd2 (f_X8_lineRead N h10) fun v13 h12 =>
  if ¬ (b2i v13) = 0 then
    lt_ (v9 + 1) fun v14 =>
    r55 v14 h12
  else
  some ((-1), h12)
def f_X8_text (N : Nat) (h : Hp) (p1 : Int32) : Option (Int32 × Hp) :=
  lt_ (sI h 8 0 2 0) fun h1 =>
  jn (
    some ((-2), h1)) fun (j17 : Option (Int32 × Hp)) =>
  if p1 < 0 then
    j17
  else
  if p1 ≤ (gI h1 8 0 1) then
    lt_ (sI h1 8 0 6 p1) fun h2 =>
    lt_ (sI h2 8 0 1 0) fun h3 =>
    lt_ (sI h3 8 0 4 0) fun h4 =>
    lt_ (sI h4 8 0 5 (-1)) fun h5 =>
    lt_ (sI h5 8 0 7 0) fun h6 =>
    (f_X8_plain N h6).bind fun h7 =>
    (f_X8_token N h7).bind fun h8 =>
    iter (fun _ _ => none) (f_X8_text_55 N) N 0 h8
  else
  j17
abbrev rmX8_text : Room := { frames := 5, cells := 0, slots := 0, locals := 113 }
set_option maxRecDepth 100000 in
set_option maxHeartbeats 4000000 in
theorem w_X8_text (X : Cx) (F : Fx X cX8_text RX8 (some .int) rmX8_text) (hA : xA X = Aw (xG X)) (hL : xL X = 3) (N : Nat) (h : Hp) (p1 : Int32) : Wm X (fun v => some (.int v.1)) (fun v => v.2) (fun _ => True) 0 [(0, .ref (adr (xG X) 8 0 0)), (1, .int p1)] [] h (f_X8_text N h p1) := by
  have hS : ∀ i : Nat, i < 3 → i < xL X := fun i z => by rw [hL]; exact z
  unfold f_X8_text
  refine r_aload_n F 0 rfl dX8_text_0 rfl ?_
  refine r_iconst F (v := 0) dX8_text_1 (by decide) ?_
  refine r_putI F frX8_163 (by decide) rfl rfl dX8_text_2 fun h1 => ?_
  refine r_iload_n F 1 rfl dX8_text_5 rfl ?_
  refine Wt_jn (fun (j17 : Option (Int32 × Hp)) => Wm X (fun v => some (.int v.1)) (fun v => v.2) (fun _ => True) 17 [] [] h1 (j17)) ?_ fun j17 hj17 => ?_
  · skip
    refine r_bipush F (v := (-2)) dX8_text_17 (by decide) ?_
    exact r_iret F hA rfl rfl trivial dX8_text_19
  refine r_iflt F (tgt := 17) dX8_text_6 (by decide) ?_ ?_
  · skip
    exact Wt_pick [] rfl (hj17)
  refine r_iload_n F 1 rfl dX8_text_9 rfl ?_
  refine r_aload_n F 0 rfl dX8_text_10 rfl ?_
  refine r_getI F frX8_166 (by decide) dX8_text_11 ?_
  refine r_icmple F (tgt := 20) dX8_text_14 (by decide) ?_ ?_
  · skip
    refine r_aload_n F 0 rfl dX8_text_20 rfl ?_
    refine r_iload_n F 1 rfl dX8_text_21 rfl ?_
    refine r_putI F frX8_175 (by decide) rfl rfl dX8_text_22 fun h2 => ?_
    refine r_aload_n F 0 rfl dX8_text_25 rfl ?_
    refine r_iconst F (v := 0) dX8_text_26 (by decide) ?_
    refine r_putI F frX8_166 (by decide) rfl rfl dX8_text_27 fun h3 => ?_
    refine r_aload_n F 0 rfl dX8_text_30 rfl ?_
    refine r_iconst F (v := 0) dX8_text_31 (by decide) ?_
    refine r_putI F frX8_169 (by decide) rfl rfl dX8_text_32 fun h4 => ?_
    refine r_aload_n F 0 rfl dX8_text_35 rfl ?_
    refine r_iconst F (v := (-1)) dX8_text_36 (by decide) ?_
    refine r_putI F frX8_16 (by decide) rfl rfl dX8_text_37 fun h5 => ?_
    refine r_aload_n F 0 rfl dX8_text_40 rfl ?_
    refine r_iconst F (v := 0) dX8_text_41 (by decide) ?_
    refine r_putI F frX8_178 (by decide) rfl rfl dX8_text_42 fun h6 => ?_
    refine r_aload_n F 0 rfl dX8_text_45 rfl ?_
    refine k_vH (run_V F cvX8_157 (by decide) (c_X8_plain (xG X) _ N h6) rfl rfl ⟨⟨rfl, rfl⟩, Nat.le_of_ble_eq_true rfl, Nat.le_of_ble_eq_true rfl⟩ (Nat.le_of_ble_eq_true rfl) dX8_text_46) fun h7 => ?_
    refine r_aload_n F 0 rfl dX8_text_49 rfl ?_
    refine k_vH (run_V F cvX8_215 (by decide) (c_X8_token (xG X) _ N h7) rfl rfl ⟨⟨rfl, rfl⟩, Nat.le_of_ble_eq_true rfl, Nat.le_of_ble_eq_true rfl⟩ (Nat.le_of_ble_eq_true rfl) dX8_text_50) fun h8 => ?_
    refine r_iconst F (v := 0) dX8_text_53 (by decide) ?_
    refine r_istore_n F [(2, .int 0), (0, .ref (adr (xG X) 8 0 0)), (1, .int p1)] rfl dX8_text_54 rfl (hS _ (by decide)) ?_
    have hl55 : ∀ n : Nat, ∀ v9 : Int32, ∀ h10 : Hp, Wm X (fun v => some (.int v.1)) (fun v => v.2) (fun _ => True) 55 [(0, .ref (adr (xG X) 8 0 0)), (2, .int v9)] [] h10 (iter (fun _ _ => none) (f_X8_text_55 N) n v9 h10) := by
      intro n
      induction n with
      | zero => intro v9 h10; exact Wt_none
      | succ n ih =>
        revert ih
        show (∀ v9 : Int32, ∀ h10 : Hp, Wm X (fun v => some (.int v.1)) (fun v => v.2) (fun _ => True) 55 [(0, .ref (adr (xG X) 8 0 0)), (2, .int v9)] [] h10 (iter (fun _ _ => none) (f_X8_text_55 N) n v9 h10)) → _
        intro ih55 v9 h10
        show Wm X (fun v => some (.int v.1)) (fun v => v.2) (fun _ => True) 55 [(0, .ref (adr (xG X) 8 0 0)), (2, .int v9)] [] h10 (f_X8_text_55 N (iter (fun _ _ => none) (f_X8_text_55 N) n) v9 h10)
        revert ih55
        generalize iter (fun _ _ => none) (f_X8_text_55 N) n = r55
        intro ih55
        unfold f_X8_text_55
        refine r_aload_n F 0 rfl dX8_text_55 rfl ?_
        refine r_getI F frX8_181 (by decide) dX8_text_56 ?_
        refine r_ifeq F (tgt := 77) dX8_text_59 (by decide) ?_ ?_
        · skip
          refine r_aload_n F 0 rfl dX8_text_77 rfl ?_
          refine k_vH (run_V F cvX8_160 (by decide) (c_X8_keepText (xG X) _ N h10) rfl rfl ⟨⟨rfl, rfl⟩, Nat.le_of_ble_eq_true rfl, Nat.le_of_ble_eq_true rfl⟩ (Nat.le_of_ble_eq_true rfl) dX8_text_78) fun h11 => ?_
          refine r_iload_n F 1 rfl dX8_text_81 rfl ?_
          exact r_iret F hA rfl rfl trivial dX8_text_82
        refine r_aload_n F 0 rfl dX8_text_62 rfl ?_
        refine k_zH (run_V F cvX8_288 (by decide) (c_X8_lineRead (xG X) _ N h10) rfl rfl ⟨⟨rfl, rfl⟩, Nat.le_of_ble_eq_true rfl, Nat.le_of_ble_eq_true rfl⟩ (Nat.le_of_ble_eq_true rfl) dX8_text_63) fun v13 h12 => ?_
        refine r_ifne F (tgt := 71) dX8_text_66 (by decide) ?_ ?_
        · skip
          refine r_iinc F (v := 1) 1 rfl (by decide) (fun v14 => [(2, .int v14), (0, .ref (adr (xG X) 8 0 0))]) (fun _ => rfl) dX8_text_71 (hS _ (by decide)) fun v14 => ?_
          refine r_goto F (tgt := 55) dX8_text_74 (by decide) ?_
          exact Wt_pick [1, 0] rfl (ih55 v14 h12)
        refine r_iconst F (v := (-1)) dX8_text_69 (by decide) ?_
        exact r_iret F hA rfl rfl trivial dX8_text_70
    exact Wt_pick [1, 0] rfl (hl55 N 0 h8)
  exact Wt_pick [] rfl (hj17)
theorem c_X8_text (G : Gx) (l : Launch) (N : Nat) (h : Hp) (p1 : Int32) : Ctr G l yX8_text (.code yX8_text cX8_text 3 (some .int) :: GT) rmX8_text [.ref (adr G 8 0 0), .int p1] h (f_X8_text N h p1) (fun v => some (.int v.1)) (fun v => v.2) (fun _ => True) :=
  ctr_of (by decide) (Nat.le_of_ble_eq_true rfl) ⟨rfl, rfl⟩ fun X _ e2 hA hL F => by subst e2; exact w_X8_text X F hA hL N h p1
def f_X8_fault (h : Hp) (p1 : Int32) : Option (Int32 × Hp) :=
  lt_ (sI h 8 0 2 0) fun h1 =>
  jn (fun (v2 : Int32) =>
    some (v2, h1)) fun (j29 : Int32 → Option (Int32 × Hp)) =>
  if ¬ p1 = 0 then
    if ¬ p1 = 1 then
      j29 (-1)
    else
    j29 (gI h1 8 0 5)
  else
  j29 (gI h1 8 0 4)
abbrev rmX8_fault : Room := { frames := 0, cells := 0, slots := 0, locals := 0 }
set_option maxRecDepth 100000 in
set_option maxHeartbeats 4000000 in
theorem w_X8_fault (X : Cx) (F : Fx X cX8_fault RX8 (some .int) rmX8_fault) (hA : xA X = Aw (xG X)) (hL : xL X = 2) (h : Hp) (p1 : Int32) : Wm X (fun v => some (.int v.1)) (fun v => v.2) (fun _ => True) 0 [(0, .ref (adr (xG X) 8 0 0)), (1, .int p1)] [] h (f_X8_fault h p1) := by
  have hS : ∀ i : Nat, i < 2 → i < xL X := fun i z => by rw [hL]; exact z
  unfold f_X8_fault
  refine r_aload_n F 0 rfl dX8_fault_0 rfl ?_
  refine r_iconst F (v := 0) dX8_fault_1 (by decide) ?_
  refine r_putI F frX8_163 (by decide) rfl rfl dX8_fault_2 fun h1 => ?_
  refine r_iload_n F 1 rfl dX8_fault_5 rfl ?_
  refine Wt_jn (fun (j29 : Int32 → Option (Int32 × Hp)) => ∀ v2 : Int32, Wm X (fun v => some (.int v.1)) (fun v => v.2) (fun _ => True) 29 [] [.int v2] h1 (j29 v2)) ?_ fun j29 hj29 => ?_
  · intro v2
    exact r_iret F hA rfl rfl trivial dX8_fault_29
  refine r_ifne F (tgt := 16) dX8_fault_6 (by decide) ?_ ?_
  · skip
    refine r_iload_n F 1 rfl dX8_fault_16 rfl ?_
    refine r_iconst F (v := 1) dX8_fault_17 (by decide) ?_
    refine r_icmpne F (tgt := 28) dX8_fault_18 (by decide) ?_ ?_
    · skip
      refine r_iconst F (v := (-1)) dX8_fault_28 (by decide) ?_
      exact Wt_pick [] rfl (hj29 (-1))
    refine r_aload_n F 0 rfl dX8_fault_21 rfl ?_
    refine r_getI F frX8_16 (by decide) dX8_fault_22 ?_
    refine r_goto F (tgt := 29) dX8_fault_25 (by decide) ?_
    exact Wt_pick [] rfl (hj29 (gI h1 8 0 5))
  refine r_aload_n F 0 rfl dX8_fault_9 rfl ?_
  refine r_getI F frX8_169 (by decide) dX8_fault_10 ?_
  refine r_goto F (tgt := 29) dX8_fault_13 (by decide) ?_
  exact Wt_pick [] rfl (hj29 (gI h1 8 0 4))
theorem c_X8_fault (G : Gx) (l : Launch) (h : Hp) (p1 : Int32) : Ctr G l yX8_fault (.code yX8_fault cX8_fault 2 (some .int) :: GT) rmX8_fault [.ref (adr G 8 0 0), .int p1] h (f_X8_fault h p1) (fun v => some (.int v.1)) (fun v => v.2) (fun _ => True) :=
  ctr_of (by decide) (Nat.le_of_ble_eq_true rfl) ⟨rfl, rfl⟩ fun X _ e2 hA hL F => by subst e2; exact w_X8_fault X F hA hL h p1
def f_X8_named (N : Nat) (h : Hp) (p1 : Int32) : Option (Int32 × Hp) :=
  lt_ (sI h 8 0 2 0) fun h1 =>
  (f_X8_find N h1 8 0 5 0 (gI h1 8 0 13) p1).bind fun v2 =>
  some (v2, h1)
abbrev rmX8_named : Room := { frames := 1, cells := 0, slots := 0, locals := 24 }
set_option maxRecDepth 100000 in
set_option maxHeartbeats 4000000 in
theorem w_X8_named (X : Cx) (F : Fx X cX8_named RX8 (some .int) rmX8_named) (hA : xA X = Aw (xG X)) (hL : xL X = 2) (N : Nat) (h : Hp) (p1 : Int32) : Wm X (fun v => some (.int v.1)) (fun v => v.2) (fun _ => True) 0 [(0, .ref (adr (xG X) 8 0 0)), (1, .int p1)] [] h (f_X8_named N h p1) := by
  have hS : ∀ i : Nat, i < 2 → i < xL X := fun i z => by rw [hL]; exact z
  unfold f_X8_named
  refine r_aload_n F 0 rfl dX8_named_0 rfl ?_
  refine r_iconst F (v := 0) dX8_named_1 (by decide) ?_
  refine r_putI F frX8_163 (by decide) rfl rfl dX8_named_2 fun h1 => ?_
  refine r_aload_n F 0 rfl dX8_named_5 rfl ?_
  refine r_getA F frX8_30 (by decide) dX8_named_6 ?_
  refine r_iconst F (v := 0) dX8_named_9 (by decide) ?_
  refine r_aload_n F 0 rfl dX8_named_10 rfl ?_
  refine r_getI F frX8_246 (by decide) dX8_named_11 ?_
  refine r_iload_n F 1 rfl dX8_named_14 rfl ?_
  refine k_iP (run_S F csX8_265 (c_X8_find (xG X) _ N h1 8 0 5 (ar_8_5 0 (by decide)) 0 (gI h1 8 0 13) p1) rfl rfl ⟨⟨rfl, rfl⟩, Nat.le_of_ble_eq_true rfl, Nat.le_of_ble_eq_true rfl⟩ (Nat.le_of_ble_eq_true rfl) dX8_named_15) fun v2 _ => ?_
  exact r_iret F hA rfl rfl trivial dX8_named_18
theorem c_X8_named (G : Gx) (l : Launch) (N : Nat) (h : Hp) (p1 : Int32) : Ctr G l yX8_named (.code yX8_named cX8_named 2 (some .int) :: GT) rmX8_named [.ref (adr G 8 0 0), .int p1] h (f_X8_named N h p1) (fun v => some (.int v.1)) (fun v => v.2) (fun _ => True) :=
  ctr_of (by decide) (Nat.le_of_ble_eq_true rfl) ⟨rfl, rfl⟩ fun X _ e2 hA hL F => by subst e2; exact w_X8_named X F hA hL N h p1
def f_X8_bounded (h : Hp) (p1 : Int64) : Option (Int64 × Hp) :=
  jn (fun (v1 : Bool) =>
    lt_ (sZ h 8 0 49 v1) fun h2 =>
    jn (fun (v3 : Int64) =>
      some (v3, h2)) fun (j44 : Int64 → Option (Int64 × Hp)) =>
    if (b2i (gZ h2 8 0 49)) = 0 then
      j44 p1
    else
    j44 ((0 : Int64))) fun (j29 : Bool → Option (Int64 × Hp)) =>
  jn (
    j29 true) fun (j24 : Option (Int64 × Hp)) =>
  if ¬ (b2i (gZ h 8 0 49)) = 0 then
    j24
  else
  if 0 < (lg_cmp p1 (1000000000000 : Int64)) then
    j24
  else
  if 0 ≤ (lg_cmp p1 (-1000000000000 : Int64)) then
    j29 false
  else
  j24
abbrev rmX8_bounded : Room := { frames := 0, cells := 0, slots := 0, locals := 0 }
set_option maxRecDepth 100000 in
set_option maxHeartbeats 4000000 in
theorem w_X8_bounded (X : Cx) (F : Fx X cX8_bounded RX8 (some .long) rmX8_bounded) (hA : xA X = Aw (xG X)) (hL : xL X = 3) (h : Hp) (p1 : Int64) : Wm X (fun v => some (.long v.1)) (fun v => v.2) (fun _ => True) 0 [(0, .ref (adr (xG X) 8 0 0)), (1, .long p1)] [] h (f_X8_bounded h p1) := by
  have hS : ∀ i : Nat, i < 3 → i < xL X := fun i z => by rw [hL]; exact z
  unfold f_X8_bounded
  refine r_aload_n F 0 rfl dX8_bounded_0 rfl ?_
  refine r_aload_n F 0 rfl dX8_bounded_1 rfl ?_
  refine r_getZ F frX8_341 (by decide) dX8_bounded_2 ?_
  refine Wt_jn (fun (j29 : Bool → Option (Int64 × Hp)) => ∀ v1 : Bool, Wm X (fun v => some (.long v.1)) (fun v => v.2) (fun _ => True) 29 [(0, .ref (adr (xG X) 8 0 0)), (1, .long p1)] [.int (b2i v1), .ref (adr (xG X) 8 0 0)] h (j29 v1)) ?_ fun j29 hj29 => ?_
  · intro v1
    refine r_putZ F v1 rfl frX8_341 (by decide) rfl rfl dX8_bounded_29 fun h2 => ?_
    refine r_aload_n F 0 rfl dX8_bounded_32 rfl ?_
    refine r_getZ F frX8_341 (by decide) dX8_bounded_33 ?_
    refine Wt_jn (fun (j44 : Int64 → Option (Int64 × Hp)) => ∀ v3 : Int64, Wm X (fun v => some (.long v.1)) (fun v => v.2) (fun _ => True) 44 [] [.long v3] h2 (j44 v3)) ?_ fun j44 hj44 => ?_
    · intro v3
      exact r_lret F hA rfl rfl trivial dX8_bounded_44
    refine r_ifeq F (tgt := 43) dX8_bounded_36 (by decide) ?_ ?_
    · skip
      refine r_lload_n F 1 rfl dX8_bounded_43 rfl ?_
      exact Wt_pick [] rfl (hj44 p1)
    refine r_lconst F (v := 0) dX8_bounded_39 (by decide) ?_
    refine r_goto F (tgt := 44) dX8_bounded_40 (by decide) ?_
    exact Wt_pick [] rfl (hj44 ((0 : Int64)))
  refine Wt_jn (fun (j24 : Option (Int64 × Hp)) => Wm X (fun v => some (.long v.1)) (fun v => v.2) (fun _ => True) 24 [(0, .ref (adr (xG X) 8 0 0)), (1, .long p1)] [.ref (adr (xG X) 8 0 0)] h (j24)) ?_ fun j24 hj24 => ?_
  · skip
    refine r_iconst F (v := 1) dX8_bounded_24 (by decide) ?_
    refine r_goto F (tgt := 29) dX8_bounded_25 (by decide) ?_
    exact Wt_pick [0, 1] rfl (hj29 true)
  refine r_ifne F (tgt := 24) dX8_bounded_5 (by decide) ?_ ?_
  · skip
    exact Wt_pick [0, 1] rfl (hj24)
  refine r_lload_n F 1 rfl dX8_bounded_8 rfl ?_
  refine r_ldc2 F wd_1747 dX8_bounded_9 ?_
  refine r_lcmp F dX8_bounded_12 ?_
  refine r_ifgt F (tgt := 24) dX8_bounded_13 (by decide) ?_ ?_
  · skip
    exact Wt_pick [0, 1] rfl (hj24)
  refine r_lload_n F 1 rfl dX8_bounded_16 rfl ?_
  refine r_ldc2 F wd_1748 dX8_bounded_17 ?_
  refine r_lcmp F dX8_bounded_20 ?_
  refine r_ifge F (tgt := 28) dX8_bounded_21 (by decide) ?_ ?_
  · skip
    refine r_iconst F (v := 0) dX8_bounded_28 (by decide) ?_
    exact Wt_pick [0, 1] rfl (hj29 false)
  exact Wt_pick [0, 1] rfl (hj24)
theorem c_X8_bounded (G : Gx) (l : Launch) (h : Hp) (p1 : Int64) : Ctr G l yX8_bounded (.code yX8_bounded cX8_bounded 3 (some .long) :: GT) rmX8_bounded [.ref (adr G 8 0 0), .long p1] h (f_X8_bounded h p1) (fun v => some (.long v.1)) (fun v => v.2) (fun _ => True) :=
  ctr_of (by decide) (Nat.le_of_ble_eq_true rfl) ⟨rfl, rfl⟩ fun X _ e2 hA hL F => by subst e2; exact w_X8_bounded X F hA hL h p1
def f_X8_compares (p0 : Int32) (p1 : Int64) (p3 : Int64) : Option Bool :=
  if p0 = 5 then
    jn (fun (v1 : Bool) =>
      some v1) fun (j47 : Bool → Option Bool) =>
    if 0 ≤ (lg_cmp p1 p3) then
      j47 false
    else
    j47 true
  else
  if p0 = 6 then
    jn (fun (v2 : Bool) =>
      some v2) fun (j59 : Bool → Option Bool) =>
    if 0 < (lg_cmp p1 p3) then
      j59 false
    else
    j59 true
  else
  if p0 = 7 then
    jn (fun (v3 : Bool) =>
      some v3) fun (j71 : Bool → Option Bool) =>
    if ¬ (lg_cmp p1 p3) = 0 then
      j71 false
    else
    j71 true
  else
  if p0 = 8 then
    jn (fun (v4 : Bool) =>
      some v4) fun (j83 : Bool → Option Bool) =>
    if (lg_cmp p1 p3) = 0 then
      j83 false
    else
    j83 true
  else
  if p0 = 9 then
    jn (fun (v5 : Bool) =>
      some v5) fun (j95 : Bool → Option Bool) =>
    if (lg_cmp p1 p3) < 0 then
      j95 false
    else
    j95 true
  else
  jn (fun (v6 : Bool) =>
    some v6) fun (j107 : Bool → Option Bool) =>
  if (lg_cmp p1 p3) ≤ 0 then
    j107 false
  else
  j107 true
abbrev rmX8_compares : Room := { frames := 0, cells := 0, slots := 0, locals := 0 }
set_option maxRecDepth 100000 in
set_option maxHeartbeats 4000000 in
theorem w_X8_compares (X : Cx) (F : Fx X cX8_compares RX8 (some .boolean) rmX8_compares) (hA : xA X = Aw (xG X)) (hL : xL X = 5) (h : Hp) (p0 : Int32) (p1 : Int64) (p3 : Int64) : Wm X (fun v => some (.int (b2i v))) (fun _ => h) (fun _ => True) 0 [(0, .int p0), (1, .long p1), (3, .long p3)] [] h (f_X8_compares p0 p1 p3) := by
  have hS : ∀ i : Nat, i < 5 → i < xL X := fun i z => by rw [hL]; exact z
  unfold f_X8_compares
  refine r_iload_n F 0 rfl dX8_compares_0 rfl ?_
  refine r_tsc F (tgt := 36) 5 0 dX8_compares_1 rfl (by decide) (by decide) (by decide) ?_ fun n0 => ?_
  · skip
    refine r_lload_n F 1 rfl dX8_compares_36 rfl ?_
    refine r_lload_n F 2 rfl dX8_compares_37 rfl ?_
    refine r_lcmp F dX8_compares_38 ?_
    refine Wt_jn (fun (j47 : Bool → Option Bool) => ∀ v1 : Bool, Wm X (fun v => some (.int (b2i v))) (fun _ => h) (fun _ => True) 47 [] [.int (b2i v1)] h (j47 v1)) ?_ fun j47 hj47 => ?_
    · intro v1
      exact r_zret F hA v1 rfl rfl rfl trivial dX8_compares_47
    refine r_ifge F (tgt := 46) dX8_compares_39 (by decide) ?_ ?_
    · skip
      refine r_iconst F (v := 0) dX8_compares_46 (by decide) ?_
      exact Wt_pick [] rfl (hj47 false)
    refine r_iconst F (v := 1) dX8_compares_42 (by decide) ?_
    refine r_goto F (tgt := 47) dX8_compares_43 (by decide) ?_
    exact Wt_pick [] rfl (hj47 true)
  refine r_tsc F (tgt := 48) 6 1 dX8_compares_1 rfl (by decide) (by decide) (by decide) ?_ fun n1 => ?_
  · skip
    refine r_lload_n F 1 rfl dX8_compares_48 rfl ?_
    refine r_lload_n F 2 rfl dX8_compares_49 rfl ?_
    refine r_lcmp F dX8_compares_50 ?_
    refine Wt_jn (fun (j59 : Bool → Option Bool) => ∀ v2 : Bool, Wm X (fun v => some (.int (b2i v))) (fun _ => h) (fun _ => True) 59 [] [.int (b2i v2)] h (j59 v2)) ?_ fun j59 hj59 => ?_
    · intro v2
      exact r_zret F hA v2 rfl rfl rfl trivial dX8_compares_59
    refine r_ifgt F (tgt := 58) dX8_compares_51 (by decide) ?_ ?_
    · skip
      refine r_iconst F (v := 0) dX8_compares_58 (by decide) ?_
      exact Wt_pick [] rfl (hj59 false)
    refine r_iconst F (v := 1) dX8_compares_54 (by decide) ?_
    refine r_goto F (tgt := 59) dX8_compares_55 (by decide) ?_
    exact Wt_pick [] rfl (hj59 true)
  refine r_tsc F (tgt := 60) 7 2 dX8_compares_1 rfl (by decide) (by decide) (by decide) ?_ fun n2 => ?_
  · skip
    refine r_lload_n F 1 rfl dX8_compares_60 rfl ?_
    refine r_lload_n F 2 rfl dX8_compares_61 rfl ?_
    refine r_lcmp F dX8_compares_62 ?_
    refine Wt_jn (fun (j71 : Bool → Option Bool) => ∀ v3 : Bool, Wm X (fun v => some (.int (b2i v))) (fun _ => h) (fun _ => True) 71 [] [.int (b2i v3)] h (j71 v3)) ?_ fun j71 hj71 => ?_
    · intro v3
      exact r_zret F hA v3 rfl rfl rfl trivial dX8_compares_71
    refine r_ifne F (tgt := 70) dX8_compares_63 (by decide) ?_ ?_
    · skip
      refine r_iconst F (v := 0) dX8_compares_70 (by decide) ?_
      exact Wt_pick [] rfl (hj71 false)
    refine r_iconst F (v := 1) dX8_compares_66 (by decide) ?_
    refine r_goto F (tgt := 71) dX8_compares_67 (by decide) ?_
    exact Wt_pick [] rfl (hj71 true)
  refine r_tsc F (tgt := 72) 8 3 dX8_compares_1 rfl (by decide) (by decide) (by decide) ?_ fun n3 => ?_
  · skip
    refine r_lload_n F 1 rfl dX8_compares_72 rfl ?_
    refine r_lload_n F 2 rfl dX8_compares_73 rfl ?_
    refine r_lcmp F dX8_compares_74 ?_
    refine Wt_jn (fun (j83 : Bool → Option Bool) => ∀ v4 : Bool, Wm X (fun v => some (.int (b2i v))) (fun _ => h) (fun _ => True) 83 [] [.int (b2i v4)] h (j83 v4)) ?_ fun j83 hj83 => ?_
    · intro v4
      exact r_zret F hA v4 rfl rfl rfl trivial dX8_compares_83
    refine r_ifeq F (tgt := 82) dX8_compares_75 (by decide) ?_ ?_
    · skip
      refine r_iconst F (v := 0) dX8_compares_82 (by decide) ?_
      exact Wt_pick [] rfl (hj83 false)
    refine r_iconst F (v := 1) dX8_compares_78 (by decide) ?_
    refine r_goto F (tgt := 83) dX8_compares_79 (by decide) ?_
    exact Wt_pick [] rfl (hj83 true)
  refine r_tsc F (tgt := 84) 9 4 dX8_compares_1 rfl (by decide) (by decide) (by decide) ?_ fun n4 => ?_
  · skip
    refine r_lload_n F 1 rfl dX8_compares_84 rfl ?_
    refine r_lload_n F 2 rfl dX8_compares_85 rfl ?_
    refine r_lcmp F dX8_compares_86 ?_
    refine Wt_jn (fun (j95 : Bool → Option Bool) => ∀ v5 : Bool, Wm X (fun v => some (.int (b2i v))) (fun _ => h) (fun _ => True) 95 [] [.int (b2i v5)] h (j95 v5)) ?_ fun j95 hj95 => ?_
    · intro v5
      exact r_zret F hA v5 rfl rfl rfl trivial dX8_compares_95
    refine r_iflt F (tgt := 94) dX8_compares_87 (by decide) ?_ ?_
    · skip
      refine r_iconst F (v := 0) dX8_compares_94 (by decide) ?_
      exact Wt_pick [] rfl (hj95 false)
    refine r_iconst F (v := 1) dX8_compares_90 (by decide) ?_
    refine r_goto F (tgt := 95) dX8_compares_91 (by decide) ?_
    exact Wt_pick [] rfl (hj95 true)
  refine r_tsd F (tgt := 96) dX8_compares_1 (by have e0 := lv_neT n0 (a := 5) (by decide); have e1 := lv_neT n1 (a := 6) (by decide); have e2 := lv_neT n2 (a := 7) (by decide); have e3 := lv_neT n3 (a := 8) (by decide); have e4 := lv_neT n4 (a := 9) (by decide); omega) (by decide) ?_
  refine r_lload_n F 1 rfl dX8_compares_96 rfl ?_
  refine r_lload_n F 2 rfl dX8_compares_97 rfl ?_
  refine r_lcmp F dX8_compares_98 ?_
  refine Wt_jn (fun (j107 : Bool → Option Bool) => ∀ v6 : Bool, Wm X (fun v => some (.int (b2i v))) (fun _ => h) (fun _ => True) 107 [] [.int (b2i v6)] h (j107 v6)) ?_ fun j107 hj107 => ?_
  · intro v6
    exact r_zret F hA v6 rfl rfl rfl trivial dX8_compares_107
  refine r_ifle F (tgt := 106) dX8_compares_99 (by decide) ?_ ?_
  · skip
    refine r_iconst F (v := 0) dX8_compares_106 (by decide) ?_
    exact Wt_pick [] rfl (hj107 false)
  refine r_iconst F (v := 1) dX8_compares_102 (by decide) ?_
  refine r_goto F (tgt := 107) dX8_compares_103 (by decide) ?_
  exact Wt_pick [] rfl (hj107 true)
theorem c_X8_compares (G : Gx) (l : Launch) (h : Hp) (p0 : Int32) (p1 : Int64) (p3 : Int64) : Ctr G l yX8_compares (.code yX8_compares cX8_compares 5 (some .boolean) :: GT) rmX8_compares [.int p0, .long p1, .long p3] h (f_X8_compares p0 p1 p3) (fun v => some (.int (b2i v))) (fun _ => h) (fun _ => True) :=
  ctr_of (by decide) (Nat.le_of_ble_eq_true rfl) ⟨rfl, rfl⟩ fun X _ e2 hA hL F => by subst e2; exact w_X8_compares X F hA hL h p0 p1 p3
def f_X8_times (h : Hp) (p1 : Int64) (p3 : Int64) : Option (Int64 × Hp) :=
  jn (fun (v1 : Bool) =>
    jn (fun (v2 : Bool) =>
      lt_ (sZ h 8 0 49 v2) fun h3 =>
      jn (fun (v4 : Int64) =>
        some (v4, h3)) fun (j86 : Int64 → Option (Int64 × Hp)) =>
      if (b2i (gZ h3 8 0 49)) = 0 then
        j86 ((p1 * p3))
      else
      j86 ((0 : Int64))) fun (j69 : Bool → Option (Int64 × Hp)) =>
    jn (
      j69 true) fun (j64 : Option (Int64 × Hp)) =>
    if ¬ (b2i (gZ h 8 0 49)) = 0 then
      j64
    else
    if (b2i v1) = 0 then
      j69 false
    else
    j64) fun (j49 : Bool → Option (Int64 × Hp)) =>
  jn (
    j49 false) fun (j48 : Option (Int64 × Hp)) =>
  if (lg_cmp p1 (0 : Int64)) = 0 then
    j48
  else
  if (lg_cmp p3 (0 : Int64)) = 0 then
    j48
  else
  jn (fun (v5 : Int64) =>
    jn (fun (v6 : Int64) =>
      grd (¬ v6 = 0) <|
      if (lg_cmp v5 ((1000000000000 : Int64) / v6)) ≤ 0 then
        j48
      else
      j49 true) fun (j39 : Int64 → Option (Int64 × Hp)) =>
    if 0 ≤ (lg_cmp p1 (0 : Int64)) then
      j39 p1
    else
    j39 ((-p1))) fun (j24 : Int64 → Option (Int64 × Hp)) =>
  if 0 ≤ (lg_cmp p3 (0 : Int64)) then
    j24 p3
  else
  j24 ((-p3))
abbrev rmX8_times : Room := { frames := 0, cells := 0, slots := 0, locals := 0 }
set_option maxRecDepth 100000 in
set_option maxHeartbeats 4000000 in
theorem w_X8_times (X : Cx) (F : Fx X cX8_times RX8 (some .long) rmX8_times) (hA : xA X = Aw (xG X)) (hL : xL X = 6) (h : Hp) (p1 : Int64) (p3 : Int64) : Wm X (fun v => some (.long v.1)) (fun v => v.2) (fun _ => True) 0 [(0, .ref (adr (xG X) 8 0 0)), (1, .long p1), (3, .long p3)] [] h (f_X8_times h p1 p3) := by
  have hS : ∀ i : Nat, i < 6 → i < xL X := fun i z => by rw [hL]; exact z
  unfold f_X8_times
  refine r_lload_n F 1 rfl dX8_times_0 rfl ?_
  refine r_lconst F (v := 0) dX8_times_1 (by decide) ?_
  refine r_lcmp F dX8_times_2 ?_
  refine Wt_jn (fun (j49 : Bool → Option (Int64 × Hp)) => ∀ v1 : Bool, Wm X (fun v => some (.long v.1)) (fun v => v.2) (fun _ => True) 49 [(0, .ref (adr (xG X) 8 0 0)), (1, .long p1), (3, .long p3)] [.int (b2i v1)] h (j49 v1)) ?_ fun j49 hj49 => ?_
  · intro v1
    refine r_istore F [(5, .int (b2i v1)), (0, .ref (adr (xG X) 8 0 0)), (1, .long p1), (3, .long p3)] rfl dX8_times_49 (hS _ (by decide)) ?_
    refine r_aload_n F 1 rfl dX8_times_51 rfl ?_
    refine r_aload_n F 1 rfl dX8_times_52 rfl ?_
    refine r_getZ F frX8_341 (by decide) dX8_times_53 ?_
    refine Wt_jn (fun (j69 : Bool → Option (Int64 × Hp)) => ∀ v2 : Bool, Wm X (fun v => some (.long v.1)) (fun v => v.2) (fun _ => True) 69 [(0, .ref (adr (xG X) 8 0 0)), (1, .long p1), (3, .long p3)] [.int (b2i v2), .ref (adr (xG X) 8 0 0)] h (j69 v2)) ?_ fun j69 hj69 => ?_
    · intro v2
      refine r_putZ F v2 rfl frX8_341 (by decide) rfl rfl dX8_times_69 fun h3 => ?_
      refine r_aload_n F 0 rfl dX8_times_72 rfl ?_
      refine r_getZ F frX8_341 (by decide) dX8_times_73 ?_
      refine Wt_jn (fun (j86 : Int64 → Option (Int64 × Hp)) => ∀ v4 : Int64, Wm X (fun v => some (.long v.1)) (fun v => v.2) (fun _ => True) 86 [] [.long v4] h3 (j86 v4)) ?_ fun j86 hj86 => ?_
      · intro v4
        exact r_lret F hA rfl rfl trivial dX8_times_86
      refine r_ifeq F (tgt := 83) dX8_times_76 (by decide) ?_ ?_
      · skip
        refine r_lload_n F 1 rfl dX8_times_83 rfl ?_
        refine r_lload_n F 2 rfl dX8_times_84 rfl ?_
        refine r_lmul F dX8_times_85 ?_
        exact Wt_pick [] rfl (hj86 ((p1 * p3)))
      refine r_lconst F (v := 0) dX8_times_79 (by decide) ?_
      refine r_goto F (tgt := 86) dX8_times_80 (by decide) ?_
      exact Wt_pick [] rfl (hj86 ((0 : Int64)))
    refine Wt_jn (fun (j64 : Option (Int64 × Hp)) => Wm X (fun v => some (.long v.1)) (fun v => v.2) (fun _ => True) 64 [(0, .ref (adr (xG X) 8 0 0)), (1, .long p1), (3, .long p3)] [.ref (adr (xG X) 8 0 0)] h (j64)) ?_ fun j64 hj64 => ?_
    · skip
      refine r_iconst F (v := 1) dX8_times_64 (by decide) ?_
      refine r_goto F (tgt := 69) dX8_times_65 (by decide) ?_
      exact Wt_pick [0, 1, 2] rfl (hj69 true)
    refine r_ifne F (tgt := 64) dX8_times_56 (by decide) ?_ ?_
    · skip
      exact Wt_pick [1, 2, 3] rfl (hj64)
    refine r_iload F 0 rfl dX8_times_59 ?_
    refine r_ifeq F (tgt := 68) dX8_times_61 (by decide) ?_ ?_
    · skip
      refine r_iconst F (v := 0) dX8_times_68 (by decide) ?_
      exact Wt_pick [1, 2, 3] rfl (hj69 false)
    exact Wt_pick [1, 2, 3] rfl (hj64)
  refine Wt_jn (fun (j48 : Option (Int64 × Hp)) => Wm X (fun v => some (.long v.1)) (fun v => v.2) (fun _ => True) 48 [(0, .ref (adr (xG X) 8 0 0)), (1, .long p1), (3, .long p3)] [] h (j48)) ?_ fun j48 hj48 => ?_
  · skip
    refine r_iconst F (v := 0) dX8_times_48 (by decide) ?_
    exact Wt_pick [0, 1, 2] rfl (hj49 false)
  refine r_ifeq F (tgt := 48) dX8_times_3 (by decide) ?_ ?_
  · skip
    exact Wt_pick [0, 1, 2] rfl (hj48)
  refine r_lload_n F 2 rfl dX8_times_6 rfl ?_
  refine r_lconst F (v := 0) dX8_times_7 (by decide) ?_
  refine r_lcmp F dX8_times_8 ?_
  refine r_ifeq F (tgt := 48) dX8_times_9 (by decide) ?_ ?_
  · skip
    exact Wt_pick [0, 1, 2] rfl (hj48)
  refine r_lload_n F 2 rfl dX8_times_12 rfl ?_
  refine r_lconst F (v := 0) dX8_times_13 (by decide) ?_
  refine r_lcmp F dX8_times_14 ?_
  refine Wt_jn (fun (j24 : Int64 → Option (Int64 × Hp)) => ∀ v5 : Int64, Wm X (fun v => some (.long v.1)) (fun v => v.2) (fun _ => True) 24 [(0, .ref (adr (xG X) 8 0 0)), (1, .long p1), (3, .long p3)] [.long v5] h (j24 v5)) ?_ fun j24 hj24 => ?_
  · intro v5
    refine r_ldc2 F wd_1747 dX8_times_24 ?_
    refine r_lload_n F 1 rfl dX8_times_27 rfl ?_
    refine r_lconst F (v := 0) dX8_times_28 (by decide) ?_
    refine r_lcmp F dX8_times_29 ?_
    refine Wt_jn (fun (j39 : Int64 → Option (Int64 × Hp)) => ∀ v6 : Int64, Wm X (fun v => some (.long v.1)) (fun v => v.2) (fun _ => True) 39 [(0, .ref (adr (xG X) 8 0 0)), (1, .long p1), (3, .long p3)] [.long v6, .long (1000000000000 : Int64), .long v5] h (j39 v6)) ?_ fun j39 hj39 => ?_
    · intro v6
      refine r_ldiv F dX8_times_39 ?_
      refine r_lcmp F dX8_times_40 ?_
      refine r_ifle F (tgt := 48) dX8_times_41 (by decide) ?_ ?_
      · skip
        exact Wt_pick [0, 1, 2] rfl (hj48)
      refine r_iconst F (v := 1) dX8_times_44 (by decide) ?_
      refine r_goto F (tgt := 49) dX8_times_45 (by decide) ?_
      exact Wt_pick [0, 1, 2] rfl (hj49 true)
    refine r_ifge F (tgt := 38) dX8_times_30 (by decide) ?_ ?_
    · skip
      refine r_lload_n F 1 rfl dX8_times_38 rfl ?_
      exact Wt_pick [0, 1, 2] rfl (hj39 p1)
    refine r_lload_n F 1 rfl dX8_times_33 rfl ?_
    refine r_lneg F dX8_times_34 ?_
    refine r_goto F (tgt := 39) dX8_times_35 (by decide) ?_
    exact Wt_pick [0, 1, 2] rfl (hj39 ((-p1)))
  refine r_ifge F (tgt := 23) dX8_times_15 (by decide) ?_ ?_
  · skip
    refine r_lload_n F 2 rfl dX8_times_23 rfl ?_
    exact Wt_pick [0, 1, 2] rfl (hj24 p3)
  refine r_lload_n F 2 rfl dX8_times_18 rfl ?_
  refine r_lneg F dX8_times_19 ?_
  refine r_goto F (tgt := 24) dX8_times_20 (by decide) ?_
  exact Wt_pick [0, 1, 2] rfl (hj24 ((-p3)))
theorem c_X8_times (G : Gx) (l : Launch) (h : Hp) (p1 : Int64) (p3 : Int64) : Ctr G l yX8_times (.code yX8_times cX8_times 6 (some .long) :: GT) rmX8_times [.ref (adr G 8 0 0), .long p1, .long p3] h (f_X8_times h p1 p3) (fun v => some (.long v.1)) (fun v => v.2) (fun _ => True) :=
  ctr_of (by decide) (Nat.le_of_ble_eq_true rfl) ⟨rfl, rfl⟩ fun X _ e2 hA hL F => by subst e2; exact w_X8_times X F hA hL h p1 p3
def f_X8_valueOf (h : Hp) (p1 : Int32) : Option (Int64 × Hp) :=
  grd (inb p1 128) <|
  if ¬ (gA h 8 0 16 p1.toNatClampNeg) = 0 then
    grd (inb p1 128) <|
    if ¬ (gA h 8 0 16 p1.toNatClampNeg) = 1 then
      grd (inb p1 128) <|
      grd (inb (gA h 8 0 17 p1.toNatClampNeg) 64) <|
      lt_ ((gB h 8 0 22 (gA h 8 0 17 p1.toNatClampNeg).toNatClampNeg)) fun v1 =>
      grd (inb p1 128) <|
      if ¬ (gA h 8 0 16 p1.toNatClampNeg) = 2 then
        grd (inb p1 128) <|
        grd (inb (gA h 8 0 18 p1.toNatClampNeg) 64) <|
        lt_ ((gB h 8 0 22 (gA h 8 0 18 p1.toNatClampNeg).toNatClampNeg)) fun v2 =>
        grd (inb p1 128) <|
        if (gA h 8 0 16 p1.toNatClampNeg) = 3 then
          jn (fun (v3 : Int64) =>
            some (v3, h)) fun (j174 : Int64 → Option (Int64 × Hp)) =>
          jn (
            j174 ((0 : Int64))) fun (j173 : Option (Int64 × Hp)) =>
          if (lg_cmp v1 (0 : Int64)) = 0 then
            j173
          else
          if (lg_cmp v2 (0 : Int64)) = 0 then
            j173
          else
          j174 ((1 : Int64))
        else
        if (gA h 8 0 16 p1.toNatClampNeg) = 4 then
          jn (fun (v4 : Int64) =>
            some (v4, h)) fun (j193 : Int64 → Option (Int64 × Hp)) =>
          jn (
            j193 ((1 : Int64))) fun (j188 : Option (Int64 × Hp)) =>
          if ¬ (lg_cmp v1 (0 : Int64)) = 0 then
            j188
          else
          if (lg_cmp v2 (0 : Int64)) = 0 then
            j193 ((0 : Int64))
          else
          j188
        else
        if (gA h 8 0 16 p1.toNatClampNeg) = 11 then
          bd2 (f_X8_bounded h (v1 + v2)) fun v6 h5 =>
          some (v6, h5)
        else
        if (gA h 8 0 16 p1.toNatClampNeg) = 12 then
          bd2 (f_X8_bounded h (v1 - v2)) fun v8 h7 =>
          some (v8, h7)
        else
        if (gA h 8 0 16 p1.toNatClampNeg) = 13 then
          bd2 (f_X8_times h v1 v2) fun v10 h9 =>
          some (v10, h9)
        else
        if (gA h 8 0 16 p1.toNatClampNeg) = 14 then
          jn (fun (v11 : Bool) =>
            lt_ (sZ h 8 0 49 v11) fun h12 =>
            jn (fun (v13 : Int64) =>
              some (v13, h12)) fun (j258 : Int64 → Option (Int64 × Hp)) =>
            if (b2i (gZ h12 8 0 49)) = 0 then
              grd (¬ v2 = 0) <|
              j258 ((v1 / v2))
            else
            j258 ((0 : Int64))) fun (j240 : Bool → Option (Int64 × Hp)) =>
          jn (
            j240 true) fun (j235 : Option (Int64 × Hp)) =>
          if ¬ (b2i (gZ h 8 0 49)) = 0 then
            j235
          else
          if ¬ (lg_cmp v2 (0 : Int64)) = 0 then
            j240 false
          else
          j235
        else
        grd (inb p1 128) <|
        (f_X8_compares (gA h 8 0 16 p1.toNatClampNeg) v1 v2).bind fun v14 =>
        jn (fun (v15 : Int64) =>
          some (v15, h)) fun (j279 : Int64 → Option (Int64 × Hp)) =>
        if (b2i v14) = 0 then
          j279 ((0 : Int64))
        else
        j279 ((1 : Int64))
      else
      jn (fun (v16 : Int64) =>
        some (v16, h)) fun (j72 : Int64 → Option (Int64 × Hp)) =>
      if ¬ (lg_cmp v1 (0 : Int64)) = 0 then
        j72 ((0 : Int64))
      else
      j72 ((1 : Int64))
    else
    grd (inb p1 128) <|
    grd (inb (gA h 8 0 17 p1.toNatClampNeg) 7) <|
    some ((gB h 8 0 21 (gA h 8 0 17 p1.toNatClampNeg).toNatClampNeg), h)
  else
  grd (inb p1 128) <|
  some (((gA h 8 0 17 p1.toNatClampNeg)).toInt64, h)
abbrev rmX8_valueOf : Room := { frames := 1, cells := 0, slots := 0, locals := 25 }
set_option maxRecDepth 100000 in
set_option maxHeartbeats 4000000 in
theorem w_X8_valueOf (X : Cx) (F : Fx X cX8_valueOf RX8 (some .long) rmX8_valueOf) (hA : xA X = Aw (xG X)) (hL : xL X = 6) (h : Hp) (p1 : Int32) : Wm X (fun v => some (.long v.1)) (fun v => v.2) (fun _ => True) 0 [(0, .ref (adr (xG X) 8 0 0)), (1, .int p1)] [] h (f_X8_valueOf h p1) := by
  have hS : ∀ i : Nat, i < 6 → i < xL X := fun i z => by rw [hL]; exact z
  unfold f_X8_valueOf
  refine r_aload_n F 0 rfl dX8_valueOf_0 rfl ?_
  refine r_getA F frX8_63 (by decide) dX8_valueOf_1 ?_
  refine r_iload_n F 1 rfl dX8_valueOf_4 rfl ?_
  refine r_iaload F (ar_8_16 0 (by decide)) dX8_valueOf_5 ?_
  refine r_ifne F (tgt := 17) dX8_valueOf_6 (by decide) ?_ ?_
  · skip
    refine r_aload_n F 0 rfl dX8_valueOf_17 rfl ?_
    refine r_getA F frX8_63 (by decide) dX8_valueOf_18 ?_
    refine r_iload_n F 1 rfl dX8_valueOf_21 rfl ?_
    refine r_iaload F (ar_8_16 0 (by decide)) dX8_valueOf_22 ?_
    refine r_iconst F (v := 1) dX8_valueOf_23 (by decide) ?_
    refine r_icmpne F (tgt := 39) dX8_valueOf_24 (by decide) ?_ ?_
    · skip
      refine r_aload_n F 0 rfl dX8_valueOf_39 rfl ?_
      refine r_getA F frX8_82 (by decide) dX8_valueOf_40 ?_
      refine r_aload_n F 0 rfl dX8_valueOf_43 rfl ?_
      refine r_getA F frX8_66 (by decide) dX8_valueOf_44 ?_
      refine r_iload_n F 1 rfl dX8_valueOf_47 rfl ?_
      refine r_iaload F (ar_8_17 0 (by decide)) dX8_valueOf_48 ?_
      refine r_laload F (ar_8_22 0 (by decide)) dX8_valueOf_49 ?_
      refine r_nmJ fun v1 => ?_
      refine r_lstore_n F [(2, .long v1), (0, .ref (adr (xG X) 8 0 0)), (1, .int p1)] rfl dX8_valueOf_50 rfl (hS _ (by decide)) ?_
      refine r_aload_n F 1 rfl dX8_valueOf_51 rfl ?_
      refine r_getA F frX8_63 (by decide) dX8_valueOf_52 ?_
      refine r_iload_n F 2 rfl dX8_valueOf_55 rfl ?_
      refine r_iaload F (ar_8_16 0 (by decide)) dX8_valueOf_56 ?_
      refine r_iconst F (v := 2) dX8_valueOf_57 (by decide) ?_
      refine r_icmpne F (tgt := 73) dX8_valueOf_58 (by decide) ?_ ?_
      · skip
        refine r_aload_n F 1 rfl dX8_valueOf_73 rfl ?_
        refine r_getA F frX8_82 (by decide) dX8_valueOf_74 ?_
        refine r_aload_n F 1 rfl dX8_valueOf_77 rfl ?_
        refine r_getA F frX8_69 (by decide) dX8_valueOf_78 ?_
        refine r_iload_n F 2 rfl dX8_valueOf_81 rfl ?_
        refine r_iaload F (ar_8_18 0 (by decide)) dX8_valueOf_82 ?_
        refine r_laload F (ar_8_22 0 (by decide)) dX8_valueOf_83 ?_
        refine r_nmJ fun v2 => ?_
        refine r_lstore F [(4, .long v2), (2, .long v1), (0, .ref (adr (xG X) 8 0 0)), (1, .int p1)] rfl dX8_valueOf_84 (hS _ (by decide)) ?_
        refine r_aload_n F 2 rfl dX8_valueOf_86 rfl ?_
        refine r_getA F frX8_63 (by decide) dX8_valueOf_87 ?_
        refine r_iload_n F 3 rfl dX8_valueOf_90 rfl ?_
        refine r_iaload F (ar_8_16 0 (by decide)) dX8_valueOf_91 ?_
        refine r_tsc F (tgt := 156) 3 0 dX8_valueOf_92 rfl (by decide) (by decide) (by decide) ?_ fun n0 => ?_
        · skip
          refine r_lload_n F 1 rfl dX8_valueOf_156 rfl ?_
          refine r_lconst F (v := 0) dX8_valueOf_157 (by decide) ?_
          refine r_lcmp F dX8_valueOf_158 ?_
          refine Wt_jn (fun (j174 : Int64 → Option (Int64 × Hp)) => ∀ v3 : Int64, Wm X (fun v => some (.long v.1)) (fun v => v.2) (fun _ => True) 174 [] [.long v3] h (j174 v3)) ?_ fun j174 hj174 => ?_
          · intro v3
            exact r_lret F hA rfl rfl trivial dX8_valueOf_174
          refine Wt_jn (fun (j173 : Option (Int64 × Hp)) => Wm X (fun v => some (.long v.1)) (fun v => v.2) (fun _ => True) 173 [] [] h (j173)) ?_ fun j173 hj173 => ?_
          · skip
            refine r_lconst F (v := 0) dX8_valueOf_173 (by decide) ?_
            exact Wt_pick [] rfl (hj174 ((0 : Int64)))
          refine r_ifeq F (tgt := 173) dX8_valueOf_159 (by decide) ?_ ?_
          · skip
            exact Wt_pick [] rfl (hj173)
          refine r_lload F 0 rfl dX8_valueOf_162 ?_
          refine r_lconst F (v := 0) dX8_valueOf_164 (by decide) ?_
          refine r_lcmp F dX8_valueOf_165 ?_
          refine r_ifeq F (tgt := 173) dX8_valueOf_166 (by decide) ?_ ?_
          · skip
            exact Wt_pick [] rfl (hj173)
          refine r_lconst F (v := 1) dX8_valueOf_169 (by decide) ?_
          refine r_goto F (tgt := 174) dX8_valueOf_170 (by decide) ?_
          exact Wt_pick [] rfl (hj174 ((1 : Int64)))
        refine r_tsc F (tgt := 175) 4 1 dX8_valueOf_92 rfl (by decide) (by decide) (by decide) ?_ fun n1 => ?_
        · skip
          refine r_lload_n F 1 rfl dX8_valueOf_175 rfl ?_
          refine r_lconst F (v := 0) dX8_valueOf_176 (by decide) ?_
          refine r_lcmp F dX8_valueOf_177 ?_
          refine Wt_jn (fun (j193 : Int64 → Option (Int64 × Hp)) => ∀ v4 : Int64, Wm X (fun v => some (.long v.1)) (fun v => v.2) (fun _ => True) 193 [] [.long v4] h (j193 v4)) ?_ fun j193 hj193 => ?_
          · intro v4
            exact r_lret F hA rfl rfl trivial dX8_valueOf_193
          refine Wt_jn (fun (j188 : Option (Int64 × Hp)) => Wm X (fun v => some (.long v.1)) (fun v => v.2) (fun _ => True) 188 [] [] h (j188)) ?_ fun j188 hj188 => ?_
          · skip
            refine r_lconst F (v := 1) dX8_valueOf_188 (by decide) ?_
            refine r_goto F (tgt := 193) dX8_valueOf_189 (by decide) ?_
            exact Wt_pick [] rfl (hj193 ((1 : Int64)))
          refine r_ifne F (tgt := 188) dX8_valueOf_178 (by decide) ?_ ?_
          · skip
            exact Wt_pick [] rfl (hj188)
          refine r_lload F 0 rfl dX8_valueOf_181 ?_
          refine r_lconst F (v := 0) dX8_valueOf_183 (by decide) ?_
          refine r_lcmp F dX8_valueOf_184 ?_
          refine r_ifeq F (tgt := 192) dX8_valueOf_185 (by decide) ?_ ?_
          · skip
            refine r_lconst F (v := 0) dX8_valueOf_192 (by decide) ?_
            exact Wt_pick [] rfl (hj193 ((0 : Int64)))
          exact Wt_pick [] rfl (hj188)
        refine r_tsc F (tgt := 194) 11 8 dX8_valueOf_92 rfl (by decide) (by decide) (by decide) ?_ fun n8 => ?_
        · skip
          refine r_aload_n F 2 rfl dX8_valueOf_194 rfl ?_
          refine r_lload_n F 1 rfl dX8_valueOf_195 rfl ?_
          refine r_lload F 0 rfl dX8_valueOf_196 ?_
          refine r_ladd F dX8_valueOf_198 ?_
          refine k_lH (run_V F cvX8_348 (by decide) (c_X8_bounded (xG X) _ h (v1 + v2)) rfl rfl ⟨⟨rfl, rfl⟩, Nat.le_of_ble_eq_true rfl, Nat.le_of_ble_eq_true rfl⟩ (Nat.le_of_ble_eq_true rfl) dX8_valueOf_199) fun v6 h5 => ?_
          exact r_lret F hA rfl rfl trivial dX8_valueOf_202
        refine r_tsc F (tgt := 203) 12 9 dX8_valueOf_92 rfl (by decide) (by decide) (by decide) ?_ fun n9 => ?_
        · skip
          refine r_aload_n F 2 rfl dX8_valueOf_203 rfl ?_
          refine r_lload_n F 1 rfl dX8_valueOf_204 rfl ?_
          refine r_lload F 0 rfl dX8_valueOf_205 ?_
          refine r_lsub F dX8_valueOf_207 ?_
          refine k_lH (run_V F cvX8_348 (by decide) (c_X8_bounded (xG X) _ h (v1 - v2)) rfl rfl ⟨⟨rfl, rfl⟩, Nat.le_of_ble_eq_true rfl, Nat.le_of_ble_eq_true rfl⟩ (Nat.le_of_ble_eq_true rfl) dX8_valueOf_208) fun v8 h7 => ?_
          exact r_lret F hA rfl rfl trivial dX8_valueOf_211
        refine r_tsc F (tgt := 212) 13 10 dX8_valueOf_92 rfl (by decide) (by decide) (by decide) ?_ fun n10 => ?_
        · skip
          refine r_aload_n F 2 rfl dX8_valueOf_212 rfl ?_
          refine r_lload_n F 1 rfl dX8_valueOf_213 rfl ?_
          refine r_lload F 0 rfl dX8_valueOf_214 ?_
          refine k_lH (run_V F cvX8_352 (by decide) (c_X8_times (xG X) _ h v1 v2) rfl rfl ⟨⟨rfl, rfl⟩, Nat.le_of_ble_eq_true rfl, Nat.le_of_ble_eq_true rfl⟩ (Nat.le_of_ble_eq_true rfl) dX8_valueOf_216) fun v10 h9 => ?_
          exact r_lret F hA rfl rfl trivial dX8_valueOf_219
        refine r_tsc F (tgt := 220) 14 11 dX8_valueOf_92 rfl (by decide) (by decide) (by decide) ?_ fun n11 => ?_
        · skip
          refine r_aload_n F 2 rfl dX8_valueOf_220 rfl ?_
          refine r_aload_n F 2 rfl dX8_valueOf_221 rfl ?_
          refine r_getZ F frX8_341 (by decide) dX8_valueOf_222 ?_
          refine Wt_jn (fun (j240 : Bool → Option (Int64 × Hp)) => ∀ v11 : Bool, Wm X (fun v => some (.long v.1)) (fun v => v.2) (fun _ => True) 240 [(0, .ref (adr (xG X) 8 0 0)), (2, .long v1), (4, .long v2)] [.int (b2i v11), .ref (adr (xG X) 8 0 0)] h (j240 v11)) ?_ fun j240 hj240 => ?_
          · intro v11
            refine r_putZ F v11 rfl frX8_341 (by decide) rfl rfl dX8_valueOf_240 fun h12 => ?_
            refine r_aload_n F 0 rfl dX8_valueOf_243 rfl ?_
            refine r_getZ F frX8_341 (by decide) dX8_valueOf_244 ?_
            refine Wt_jn (fun (j258 : Int64 → Option (Int64 × Hp)) => ∀ v13 : Int64, Wm X (fun v => some (.long v.1)) (fun v => v.2) (fun _ => True) 258 [] [.long v13] h12 (j258 v13)) ?_ fun j258 hj258 => ?_
            · intro v13
              exact r_lret F hA rfl rfl trivial dX8_valueOf_258
            refine r_ifeq F (tgt := 254) dX8_valueOf_247 (by decide) ?_ ?_
            · skip
              refine r_lload_n F 1 rfl dX8_valueOf_254 rfl ?_
              refine r_lload F 2 rfl dX8_valueOf_255 ?_
              refine r_ldiv F dX8_valueOf_257 ?_
              exact Wt_pick [] rfl (hj258 ((v1 / v2)))
            refine r_lconst F (v := 0) dX8_valueOf_250 (by decide) ?_
            refine r_goto F (tgt := 258) dX8_valueOf_251 (by decide) ?_
            exact Wt_pick [] rfl (hj258 ((0 : Int64)))
          refine Wt_jn (fun (j235 : Option (Int64 × Hp)) => Wm X (fun v => some (.long v.1)) (fun v => v.2) (fun _ => True) 235 [(0, .ref (adr (xG X) 8 0 0)), (2, .long v1), (4, .long v2)] [.ref (adr (xG X) 8 0 0)] h (j235)) ?_ fun j235 hj235 => ?_
          · skip
            refine r_iconst F (v := 1) dX8_valueOf_235 (by decide) ?_
            refine r_goto F (tgt := 240) dX8_valueOf_236 (by decide) ?_
            exact Wt_pick [0, 1, 2] rfl (hj240 true)
          refine r_ifne F (tgt := 235) dX8_valueOf_225 (by decide) ?_ ?_
          · skip
            exact Wt_pick [2, 1, 0] rfl (hj235)
          refine r_lload F 0 rfl dX8_valueOf_228 ?_
          refine r_lconst F (v := 0) dX8_valueOf_230 (by decide) ?_
          refine r_lcmp F dX8_valueOf_231 ?_
          refine r_ifne F (tgt := 239) dX8_valueOf_232 (by decide) ?_ ?_
          · skip
            refine r_iconst F (v := 0) dX8_valueOf_239 (by decide) ?_
            exact Wt_pick [2, 1, 0] rfl (hj240 false)
          exact Wt_pick [2, 1, 0] rfl (hj235)
        refine r_tsh F (tgt := 259) dX8_valueOf_92 (by
          have e0 := lv_neT n0 (a := 3) (by decide); have e1 := lv_neT n1 (a := 4) (by decide); have e8 := lv_neT n8 (a := 11) (by decide); have e9 := lv_neT n9 (a := 12) (by decide); have e10 := lv_neT n10 (a := 13) (by decide); have e11 := lv_neT n11 (a := 14) (by decide); have hh : ((gA h 8 0 16 p1.toNatClampNeg)).toInt < 3 ∨ 14 < ((gA h 8 0 16 p1.toNatClampNeg)).toInt ∨ ((gA h 8 0 16 p1.toNatClampNeg)).toInt = 5 ∨ ((gA h 8 0 16 p1.toNatClampNeg)).toInt = 6 ∨ ((gA h 8 0 16 p1.toNatClampNeg)).toInt = 7 ∨ ((gA h 8 0 16 p1.toNatClampNeg)).toInt = 8 ∨ ((gA h 8 0 16 p1.toNatClampNeg)).toInt = 9 ∨ ((gA h 8 0 16 p1.toNatClampNeg)).toInt = 10 := by omega
          rcases hh with z | z | z | z | z | z | z | z
          · exact Or.inl z
          · exact Or.inr (Or.inl z)
          · exact Or.inr (Or.inr ⟨2, z, by decide, rfl⟩)
          · exact Or.inr (Or.inr ⟨3, z, by decide, rfl⟩)
          · exact Or.inr (Or.inr ⟨4, z, by decide, rfl⟩)
          · exact Or.inr (Or.inr ⟨5, z, by decide, rfl⟩)
          · exact Or.inr (Or.inr ⟨6, z, by decide, rfl⟩)
          · exact Or.inr (Or.inr ⟨7, z, by decide, rfl⟩)) (by decide) ?_
        refine r_aload_n F 2 rfl dX8_valueOf_259 rfl ?_
        refine r_getA F frX8_63 (by decide) dX8_valueOf_260 ?_
        refine r_iload_n F 3 rfl dX8_valueOf_263 rfl ?_
        refine r_iaload F (ar_8_16 0 (by decide)) dX8_valueOf_264 ?_
        refine r_lload_n F 1 rfl dX8_valueOf_265 rfl ?_
        refine r_lload F 0 rfl dX8_valueOf_266 ?_
        refine k_zP (run_S F csX8_356 (c_X8_compares (xG X) _ h (gA h 8 0 16 p1.toNatClampNeg) v1 v2) rfl rfl ⟨⟨rfl, rfl⟩, Nat.le_of_ble_eq_true rfl, Nat.le_of_ble_eq_true rfl⟩ (Nat.le_of_ble_eq_true rfl) dX8_valueOf_268) fun v14 _ => ?_
        refine Wt_jn (fun (j279 : Int64 → Option (Int64 × Hp)) => ∀ v15 : Int64, Wm X (fun v => some (.long v.1)) (fun v => v.2) (fun _ => True) 279 [] [.long v15] h (j279 v15)) ?_ fun j279 hj279 => ?_
        · intro v15
          exact r_lret F hA rfl rfl trivial dX8_valueOf_279
        refine r_ifeq F (tgt := 278) dX8_valueOf_271 (by decide) ?_ ?_
        · skip
          refine r_lconst F (v := 0) dX8_valueOf_278 (by decide) ?_
          exact Wt_pick [] rfl (hj279 ((0 : Int64)))
        refine r_lconst F (v := 1) dX8_valueOf_274 (by decide) ?_
        refine r_goto F (tgt := 279) dX8_valueOf_275 (by decide) ?_
        exact Wt_pick [] rfl (hj279 ((1 : Int64)))
      refine r_lload_n F 0 rfl dX8_valueOf_61 rfl ?_
      refine r_lconst F (v := 0) dX8_valueOf_62 (by decide) ?_
      refine r_lcmp F dX8_valueOf_63 ?_
      refine Wt_jn (fun (j72 : Int64 → Option (Int64 × Hp)) => ∀ v16 : Int64, Wm X (fun v => some (.long v.1)) (fun v => v.2) (fun _ => True) 72 [] [.long v16] h (j72 v16)) ?_ fun j72 hj72 => ?_
      · intro v16
        exact r_lret F hA rfl rfl trivial dX8_valueOf_72
      refine r_ifne F (tgt := 71) dX8_valueOf_64 (by decide) ?_ ?_
      · skip
        refine r_lconst F (v := 0) dX8_valueOf_71 (by decide) ?_
        exact Wt_pick [] rfl (hj72 ((0 : Int64)))
      refine r_lconst F (v := 1) dX8_valueOf_67 (by decide) ?_
      refine r_goto F (tgt := 72) dX8_valueOf_68 (by decide) ?_
      exact Wt_pick [] rfl (hj72 ((1 : Int64)))
    refine r_aload_n F 0 rfl dX8_valueOf_27 rfl ?_
    refine r_getA F frX8_78 (by decide) dX8_valueOf_28 ?_
    refine r_aload_n F 0 rfl dX8_valueOf_31 rfl ?_
    refine r_getA F frX8_66 (by decide) dX8_valueOf_32 ?_
    refine r_iload_n F 1 rfl dX8_valueOf_35 rfl ?_
    refine r_iaload F (ar_8_17 0 (by decide)) dX8_valueOf_36 ?_
    refine r_laload F (ar_8_21 0 (by decide)) dX8_valueOf_37 ?_
    exact r_lret F hA rfl rfl trivial dX8_valueOf_38
  refine r_aload_n F 0 rfl dX8_valueOf_9 rfl ?_
  refine r_getA F frX8_66 (by decide) dX8_valueOf_10 ?_
  refine r_iload_n F 1 rfl dX8_valueOf_13 rfl ?_
  refine r_iaload F (ar_8_17 0 (by decide)) dX8_valueOf_14 ?_
  refine r_i2l F dX8_valueOf_15 ?_
  exact r_lret F hA rfl rfl trivial dX8_valueOf_16
theorem c_X8_valueOf (G : Gx) (l : Launch) (h : Hp) (p1 : Int32) : Ctr G l yX8_valueOf (.code yX8_valueOf cX8_valueOf 6 (some .long) :: GT) rmX8_valueOf [.ref (adr G 8 0 0), .int p1] h (f_X8_valueOf h p1) (fun v => some (.long v.1)) (fun v => v.2) (fun _ => True) :=
  ctr_of (by decide) (Nat.le_of_ble_eq_true rfl) ⟨rfl, rfl⟩ fun X _ e2 hA hL F => by subst e2; exact w_X8_valueOf X F hA hL h p1
