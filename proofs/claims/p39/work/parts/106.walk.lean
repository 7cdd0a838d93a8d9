theorem dX3_sum_0 : decode cX3_sum 0 = .ok (.iconst 0, 1) := by decide +kernel
theorem dX3_sum_1 : decode cX3_sum 1 = .ok (.istore_n 2, 1) := by decide +kernel
theorem dX3_sum_2 : decode cX3_sum 2 = .ok (.iconst 0, 1) := by decide +kernel
theorem dX3_sum_3 : decode cX3_sum 3 = .ok (.istore_n 3, 1) := by decide +kernel
theorem dX3_sum_4 : decode cX3_sum 4 = .ok (.iload_n 3, 1) := by decide +kernel
theorem dX3_sum_5 : decode cX3_sum 5 = .ok (.iload_n 1, 1) := by decide +kernel
theorem dX3_sum_6 : decode cX3_sum 6 = .ok (.if_icmp .ge 21, 3) := by decide +kernel
theorem dX3_sum_9 : decode cX3_sum 9 = .ok (.iload_n 3, 1) := by decide +kernel
theorem dX3_sum_10 : decode cX3_sum 10 = .ok (.aload_n 0, 1) := by decide +kernel
theorem dX3_sum_11 : decode cX3_sum 11 = .ok (.arraylength, 1) := by decide +kernel
theorem dX3_sum_12 : decode cX3_sum 12 = .ok (.if_icmp .ge 15, 3) := by decide +kernel
theorem dX3_sum_15 : decode cX3_sum 15 = .ok (.iload_n 2, 1) := by decide +kernel
theorem dX3_sum_16 : decode cX3_sum 16 = .ok (.aload_n 0, 1) := by decide +kernel
theorem dX3_sum_17 : decode cX3_sum 17 = .ok (.iload_n 3, 1) := by decide +kernel
theorem dX3_sum_18 : decode cX3_sum 18 = .ok (.iaload, 1) := by decide +kernel
theorem dX3_sum_19 : decode cX3_sum 19 = .ok (.iadd, 1) := by decide +kernel
theorem dX3_sum_20 : decode cX3_sum 20 = .ok (.istore_n 2, 1) := by decide +kernel
theorem dX3_sum_21 : decode cX3_sum 21 = .ok (.iinc 3 1, 3) := by decide +kernel
theorem dX3_sum_24 : decode cX3_sum 24 = .ok (.goto (-20), 3) := by decide +kernel
theorem dX3_sum_27 : decode cX3_sum 27 = .ok (.iload_n 2, 1) := by decide +kernel
theorem dX3_sum_28 : decode cX3_sum 28 = .ok (.ireturn, 1) := by decide +kernel
theorem dX3_allLying_0 : decode cX3_allLying 0 = .ok (.aload_n 0, 1) := by decide +kernel
theorem dX3_allLying_1 : decode cX3_allLying 1 = .ok (.getfield 11, 3) := by decide +kernel
theorem dX3_allLying_4 : decode cX3_allLying 4 = .ok (.aload_n 0, 1) := by decide +kernel
theorem dX3_allLying_5 : decode cX3_allLying 5 = .ok (.getfield 44, 3) := by decide +kernel
theorem dX3_allLying_8 : decode cX3_allLying 8 = .ok (.getfield 108, 3) := by decide +kernel
theorem dX3_allLying_11 : decode cX3_allLying 11 = .ok (.invokestatic 198, 3) := by decide +kernel
theorem dX3_allLying_14 : decode cX3_allLying 14 = .ok (.ireturn, 1) := by decide +kernel
theorem dX3_ruledAct_0 : decode cX3_ruledAct 0 = .ok (.aload_n 0, 1) := by decide +kernel
theorem dX3_ruledAct_1 : decode cX3_ruledAct 1 = .ok (.getfield 68, 3) := by decide +kernel
theorem dX3_ruledAct_4 : decode cX3_ruledAct 4 = .ok (.iconst 2, 1) := by decide +kernel
theorem dX3_ruledAct_5 : decode cX3_ruledAct 5 = .ok (.if_icmp .ne 14, 3) := by decide +kernel
theorem dX3_ruledAct_8 : decode cX3_ruledAct 8 = .ok (.aload_n 0, 1) := by decide +kernel
theorem dX3_ruledAct_9 : decode cX3_ruledAct 9 = .ok (.invokevirtual 137, 3) := by decide +kernel
theorem dX3_ruledAct_12 : decode cX3_ruledAct 12 = .ok (.ifCond .le 7, 3) := by decide +kernel
theorem dX3_ruledAct_15 : decode cX3_ruledAct 15 = .ok (.iconst 2, 1) := by decide +kernel
theorem dX3_ruledAct_16 : decode cX3_ruledAct 16 = .ok (.goto 4, 3) := by decide +kernel
theorem dX3_ruledAct_19 : decode cX3_ruledAct 19 = .ok (.iconst 1, 1) := by decide +kernel
theorem dX3_ruledAct_20 : decode cX3_ruledAct 20 = .ok (.ireturn, 1) := by decide +kernel
theorem dX3_sourceOf_0 : decode cX3_sourceOf 0 = .ok (.aload_n 0, 1) := by decide +kernel
theorem dX3_sourceOf_1 : decode cX3_sourceOf 1 = .ok (.getfield 61, 3) := by decide +kernel
theorem dX3_sourceOf_4 : decode cX3_sourceOf 4 = .ok (.ifCond .le 11, 3) := by decide +kernel
theorem dX3_sourceOf_7 : decode cX3_sourceOf 7 = .ok (.iload_n 2, 1) := by decide +kernel
theorem dX3_sourceOf_8 : decode cX3_sourceOf 8 = .ok (.ifCond .ne 7, 3) := by decide +kernel
theorem dX3_sourceOf_11 : decode cX3_sourceOf 11 = .ok (.iconst 1, 1) := by decide +kernel
theorem dX3_sourceOf_12 : decode cX3_sourceOf 12 = .ok (.goto 4, 3) := by decide +kernel
theorem dX3_sourceOf_15 : decode cX3_sourceOf 15 = .ok (.iconst 0, 1) := by decide +kernel
theorem dX3_sourceOf_16 : decode cX3_sourceOf 16 = .ok (.istore_n 3, 1) := by decide +kernel
theorem dX3_sourceOf_17 : decode cX3_sourceOf 17 = .ok (.aload_n 0, 1) := by decide +kernel
theorem dX3_sourceOf_18 : decode cX3_sourceOf 18 = .ok (.getfield 68, 3) := by decide +kernel
theorem dX3_sourceOf_21 : decode cX3_sourceOf 21 = .ok (.iconst 2, 1) := by decide +kernel
theorem dX3_sourceOf_22 : decode cX3_sourceOf 22 = .ok (.if_icmp .ne 10, 3) := by decide +kernel
theorem dX3_sourceOf_25 : decode cX3_sourceOf 25 = .ok (.iload_n 3, 1) := by decide +kernel
theorem dX3_sourceOf_26 : decode cX3_sourceOf 26 = .ok (.ifCond .eq 6, 3) := by decide +kernel
theorem dX3_sourceOf_29 : decode cX3_sourceOf 29 = .ok (.bipush (-3), 2) := by decide +kernel
theorem dX3_sourceOf_31 : decode cX3_sourceOf 31 = .ok (.ireturn, 1) := by decide +kernel
theorem dX3_sourceOf_32 : decode cX3_sourceOf 32 = .ok (.bipush (-2), 2) := by decide +kernel
theorem dX3_sourceOf_34 : decode cX3_sourceOf 34 = .ok (.istore 4, 2) := by decide +kernel
theorem dX3_sourceOf_36 : decode cX3_sourceOf 36 = .ok (.iconst 0, 1) := by decide +kernel
theorem dX3_sourceOf_37 : decode cX3_sourceOf 37 = .ok (.istore 5, 2) := by decide +kernel
theorem dX3_sourceOf_39 : decode cX3_sourceOf 39 = .ok (.iconst 0, 1) := by decide +kernel
theorem dX3_sourceOf_40 : decode cX3_sourceOf 40 = .ok (.istore 6, 2) := by decide +kernel
theorem dX3_sourceOf_42 : decode cX3_sourceOf 42 = .ok (.iload 6, 2) := by decide +kernel
theorem dX3_sourceOf_44 : decode cX3_sourceOf 44 = .ok (.aload_n 0, 1) := by decide +kernel
theorem dX3_sourceOf_45 : decode cX3_sourceOf 45 = .ok (.getfield 44, 3) := by decide +kernel
theorem dX3_sourceOf_48 : decode cX3_sourceOf 48 = .ok (.getfield 108, 3) := by decide +kernel
theorem dX3_sourceOf_51 : decode cX3_sourceOf 51 = .ok (.if_icmp .ge 53, 3) := by decide +kernel
theorem dX3_sourceOf_54 : decode cX3_sourceOf 54 = .ok (.aload_n 0, 1) := by decide +kernel
theorem dX3_sourceOf_55 : decode cX3_sourceOf 55 = .ok (.getfield 11, 3) := by decide +kernel
theorem dX3_sourceOf_58 : decode cX3_sourceOf 58 = .ok (.iload 6, 2) := by decide +kernel
theorem dX3_sourceOf_60 : decode cX3_sourceOf 60 = .ok (.iaload, 1) := by decide +kernel
theorem dX3_sourceOf_61 : decode cX3_sourceOf 61 = .ok (.iload 5, 2) := by decide +kernel
theorem dX3_sourceOf_63 : decode cX3_sourceOf 63 = .ok (.if_icmp .le 35, 3) := by decide +kernel
theorem dX3_sourceOf_66 : decode cX3_sourceOf 66 = .ok (.aload_n 0, 1) := by decide +kernel
theorem dX3_sourceOf_67 : decode cX3_sourceOf 67 = .ok (.getfield 68, 3) := by decide +kernel
theorem dX3_sourceOf_70 : decode cX3_sourceOf 70 = .ok (.iconst 1, 1) := by decide +kernel
theorem dX3_sourceOf_71 : decode cX3_sourceOf 71 = .ok (.if_icmp .ne 14, 3) := by decide +kernel
theorem dX3_sourceOf_74 : decode cX3_sourceOf 74 = .ok (.aload_n 0, 1) := by decide +kernel
theorem dX3_sourceOf_75 : decode cX3_sourceOf 75 = .ok (.getfield 17, 3) := by decide +kernel
theorem dX3_sourceOf_78 : decode cX3_sourceOf 78 = .ok (.iload 6, 2) := by decide +kernel
theorem dX3_sourceOf_80 : decode cX3_sourceOf 80 = .ok (.iaload, 1) := by decide +kernel
theorem dX3_sourceOf_81 : decode cX3_sourceOf 81 = .ok (.iload_n 1, 1) := by decide +kernel
theorem dX3_sourceOf_82 : decode cX3_sourceOf 82 = .ok (.if_icmp .ne 16, 3) := by decide +kernel
theorem dX3_sourceOf_85 : decode cX3_sourceOf 85 = .ok (.aload_n 0, 1) := by decide +kernel
theorem dX3_sourceOf_86 : decode cX3_sourceOf 86 = .ok (.getfield 11, 3) := by decide +kernel
theorem dX3_sourceOf_89 : decode cX3_sourceOf 89 = .ok (.iload 6, 2) := by decide +kernel
theorem dX3_sourceOf_91 : decode cX3_sourceOf 91 = .ok (.iaload, 1) := by decide +kernel
theorem dX3_sourceOf_92 : decode cX3_sourceOf 92 = .ok (.istore 5, 2) := by decide +kernel
theorem dX3_sourceOf_94 : decode cX3_sourceOf 94 = .ok (.iload 6, 2) := by decide +kernel
theorem dX3_sourceOf_96 : decode cX3_sourceOf 96 = .ok (.istore 4, 2) := by decide +kernel
theorem dX3_sourceOf_98 : decode cX3_sourceOf 98 = .ok (.iinc 6 1, 3) := by decide +kernel
theorem dX3_sourceOf_101 : decode cX3_sourceOf 101 = .ok (.goto (-59), 3) := by decide +kernel
theorem dX3_sourceOf_104 : decode cX3_sourceOf 104 = .ok (.iload 4, 2) := by decide +kernel
theorem dX3_sourceOf_106 : decode cX3_sourceOf 106 = .ok (.bipush (-2), 2) := by decide +kernel
theorem dX3_sourceOf_108 : decode cX3_sourceOf 108 = .ok (.if_icmp .ne 12, 3) := by decide +kernel
theorem dX3_sourceOf_111 : decode cX3_sourceOf 111 = .ok (.iload_n 3, 1) := by decide +kernel
theorem dX3_sourceOf_112 : decode cX3_sourceOf 112 = .ok (.ifCond .eq 8, 3) := by decide +kernel
theorem dX3_sourceOf_115 : decode cX3_sourceOf 115 = .ok (.bipush (-3), 2) := by decide +kernel
theorem dX3_sourceOf_117 : decode cX3_sourceOf 117 = .ok (.goto 5, 3) := by decide +kernel
theorem dX3_sourceOf_120 : decode cX3_sourceOf 120 = .ok (.iload 4, 2) := by decide +kernel
theorem dX3_sourceOf_122 : decode cX3_sourceOf 122 = .ok (.ireturn, 1) := by decide +kernel
theorem dX3_nameField_0 : decode cX3_nameField 0 = .ok (.aload_n 0, 1) := by decide +kernel
theorem dX3_nameField_1 : decode cX3_nameField 1 = .ok (.getfield 44, 3) := by decide +kernel
theorem dX3_nameField_4 : decode cX3_nameField 4 = .ok (.getfield 147, 3) := by decide +kernel
theorem dX3_nameField_7 : decode cX3_nameField 7 = .ok (.iload_n 1, 1) := by decide +kernel
theorem dX3_nameField_8 : decode cX3_nameField 8 = .ok (.iaload, 1) := by decide +kernel
theorem dX3_nameField_9 : decode cX3_nameField 9 = .ok (.istore_n 2, 1) := by decide +kernel
theorem dX3_nameField_10 : decode cX3_nameField 10 = .ok (.aload_n 0, 1) := by decide +kernel
theorem dX3_nameField_11 : decode cX3_nameField 11 = .ok (.getfield 44, 3) := by decide +kernel
theorem dX3_nameField_14 : decode cX3_nameField 14 = .ok (.getfield 161, 3) := by decide +kernel
theorem dX3_nameField_17 : decode cX3_nameField 17 = .ok (.getfield 183, 3) := by decide +kernel
theorem dX3_nameField_20 : decode cX3_nameField 20 = .ok (.astore_n 3, 1) := by decide +kernel
theorem dX3_nameField_21 : decode cX3_nameField 21 = .ok (.aload_n 3, 1) := by decide +kernel
theorem dX3_nameField_22 : decode cX3_nameField 22 = .ok (.iconst 0, 1) := by decide +kernel
theorem dX3_nameField_23 : decode cX3_nameField 23 = .ok (.lconst 0, 1) := by decide +kernel
theorem dX3_nameField_24 : decode cX3_nameField 24 = .ok (.lastore, 1) := by decide +kernel
theorem dX3_nameField_25 : decode cX3_nameField 25 = .ok (.aload_n 3, 1) := by decide +kernel
theorem dX3_nameField_26 : decode cX3_nameField 26 = .ok (.iconst 1, 1) := by decide +kernel
theorem dX3_nameField_27 : decode cX3_nameField 27 = .ok (.aload_n 0, 1) := by decide +kernel
theorem dX3_nameField_28 : decode cX3_nameField 28 = .ok (.getfield 20, 3) := by decide +kernel
theorem dX3_nameField_31 : decode cX3_nameField 31 = .ok (.iload_n 2, 1) := by decide +kernel
theorem dX3_nameField_32 : decode cX3_nameField 32 = .ok (.iaload, 1) := by decide +kernel
theorem dX3_nameField_33 : decode cX3_nameField 33 = .ok (.i2l, 1) := by decide +kernel
theorem dX3_nameField_34 : decode cX3_nameField 34 = .ok (.lastore, 1) := by decide +kernel
theorem dX3_nameField_35 : decode cX3_nameField 35 = .ok (.aload_n 3, 1) := by decide +kernel
theorem dX3_nameField_36 : decode cX3_nameField 36 = .ok (.iconst 2, 1) := by decide +kernel
theorem dX3_nameField_37 : decode cX3_nameField 37 = .ok (.aload_n 0, 1) := by decide +kernel
theorem dX3_nameField_38 : decode cX3_nameField 38 = .ok (.getfield 23, 3) := by decide +kernel
theorem dX3_nameField_41 : decode cX3_nameField 41 = .ok (.iload_n 2, 1) := by decide +kernel
theorem dX3_nameField_42 : decode cX3_nameField 42 = .ok (.iaload, 1) := by decide +kernel
theorem dX3_nameField_43 : decode cX3_nameField 43 = .ok (.i2l, 1) := by decide +kernel
theorem dX3_nameField_44 : decode cX3_nameField 44 = .ok (.lastore, 1) := by decide +kernel
theorem dX3_nameField_45 : decode cX3_nameField 45 = .ok (.aload_n 3, 1) := by decide +kernel
theorem dX3_nameField_46 : decode cX3_nameField 46 = .ok (.iconst 3, 1) := by decide +kernel
theorem dX3_nameField_47 : decode cX3_nameField 47 = .ok (.aload_n 0, 1) := by decide +kernel
theorem dX3_nameField_48 : decode cX3_nameField 48 = .ok (.getfield 52, 3) := by decide +kernel
theorem dX3_nameField_51 : decode cX3_nameField 51 = .ok (.bipush 24, 2) := by decide +kernel
theorem dX3_nameField_53 : decode cX3_nameField 53 = .ok (.irem, 1) := by decide +kernel
theorem dX3_nameField_54 : decode cX3_nameField 54 = .ok (.i2l, 1) := by decide +kernel
theorem dX3_nameField_55 : decode cX3_nameField 55 = .ok (.lastore, 1) := by decide +kernel
theorem dX3_nameField_56 : decode cX3_nameField 56 = .ok (.aload_n 3, 1) := by decide +kernel
theorem dX3_nameField_57 : decode cX3_nameField 57 = .ok (.iconst 4, 1) := by decide +kernel
theorem dX3_nameField_58 : decode cX3_nameField 58 = .ok (.aload_n 0, 1) := by decide +kernel
theorem dX3_nameField_59 : decode cX3_nameField 59 = .ok (.getfield 41, 3) := by decide +kernel
theorem dX3_nameField_62 : decode cX3_nameField 62 = .ok (.iload_n 1, 1) := by decide +kernel
theorem dX3_nameField_63 : decode cX3_nameField 63 = .ok (.iaload, 1) := by decide +kernel
theorem dX3_nameField_64 : decode cX3_nameField 64 = .ok (.i2l, 1) := by decide +kernel
theorem dX3_nameField_65 : decode cX3_nameField 65 = .ok (.lastore, 1) := by decide +kernel
theorem dX3_nameField_66 : decode cX3_nameField 66 = .ok (.aload_n 3, 1) := by decide +kernel
theorem dX3_nameField_67 : decode cX3_nameField 67 = .ok (.iconst 5, 1) := by decide +kernel
theorem dX3_nameField_68 : decode cX3_nameField 68 = .ok (.aload_n 0, 1) := by decide +kernel
theorem dX3_nameField_69 : decode cX3_nameField 69 = .ok (.getfield 44, 3) := by decide +kernel
theorem dX3_nameField_72 : decode cX3_nameField 72 = .ok (.getfield 180, 3) := by decide +kernel
theorem dX3_nameField_75 : decode cX3_nameField 75 = .ok (.iload_n 1, 1) := by decide +kernel
theorem dX3_nameField_76 : decode cX3_nameField 76 = .ok (.iaload, 1) := by decide +kernel
theorem dX3_nameField_77 : decode cX3_nameField 77 = .ok (.i2l, 1) := by decide +kernel
theorem dX3_nameField_78 : decode cX3_nameField 78 = .ok (.lastore, 1) := by decide +kernel
theorem dX3_nameField_79 : decode cX3_nameField 79 = .ok (.aload_n 3, 1) := by decide +kernel
theorem dX3_nameField_80 : decode cX3_nameField 80 = .ok (.bipush 6, 2) := by decide +kernel
theorem dX3_nameField_82 : decode cX3_nameField 82 = .ok (.aload_n 0, 1) := by decide +kernel
theorem dX3_nameField_83 : decode cX3_nameField 83 = .ok (.getfield 44, 3) := by decide +kernel
theorem dX3_nameField_86 : decode cX3_nameField 86 = .ok (.getfield 187, 3) := by decide +kernel
theorem dX3_nameField_89 : decode cX3_nameField 89 = .ok (.iload_n 1, 1) := by decide +kernel
theorem dX3_nameField_90 : decode cX3_nameField 90 = .ok (.iaload, 1) := by decide +kernel
theorem dX3_nameField_91 : decode cX3_nameField 91 = .ok (.i2l, 1) := by decide +kernel
theorem dX3_nameField_92 : decode cX3_nameField 92 = .ok (.lastore, 1) := by decide +kernel
theorem dX3_nameField_93 : decode cX3_nameField 93 = .ok (.return_, 1) := by decide +kernel
theorem dX3_putWithin_0 : decode cX3_putWithin 0 = .ok (.lload_n 0, 1) := by decide +kernel
theorem dX3_putWithin_1 : decode cX3_putWithin 1 = .ok (.lconst 0, 1) := by decide +kernel
theorem dX3_putWithin_2 : decode cX3_putWithin 2 = .ok (.lcmp, 1) := by decide +kernel
theorem dX3_putWithin_3 : decode cX3_putWithin 3 = .ok (.ifCond .ge 7, 3) := by decide +kernel
theorem dX3_putWithin_6 : decode cX3_putWithin 6 = .ok (.lconst 0, 1) := by decide +kernel
theorem dX3_putWithin_7 : decode cX3_putWithin 7 = .ok (.goto 16, 3) := by decide +kernel
theorem dX3_putWithin_10 : decode cX3_putWithin 10 = .ok (.lload_n 0, 1) := by decide +kernel
theorem dX3_putWithin_11 : decode cX3_putWithin 11 = .ok (.iload_n 2, 1) := by decide +kernel
theorem dX3_putWithin_12 : decode cX3_putWithin 12 = .ok (.i2l, 1) := by decide +kernel
theorem dX3_putWithin_13 : decode cX3_putWithin 13 = .ok (.lcmp, 1) := by decide +kernel
theorem dX3_putWithin_14 : decode cX3_putWithin 14 = .ok (.ifCond .le 8, 3) := by decide +kernel
theorem dX3_putWithin_17 : decode cX3_putWithin 17 = .ok (.iload_n 2, 1) := by decide +kernel
theorem dX3_putWithin_18 : decode cX3_putWithin 18 = .ok (.i2l, 1) := by decide +kernel
theorem dX3_putWithin_19 : decode cX3_putWithin 19 = .ok (.goto 4, 3) := by decide +kernel
theorem dX3_putWithin_22 : decode cX3_putWithin 22 = .ok (.lload_n 0, 1) := by decide +kernel
theorem dX3_putWithin_23 : decode cX3_putWithin 23 = .ok (.l2i, 1) := by decide +kernel
theorem dX3_putWithin_24 : decode cX3_putWithin 24 = .ok (.ireturn, 1) := by decide +kernel
theorem dX3_worthOf_0 : decode cX3_worthOf 0 = .ok (.aload_n 0, 1) := by decide +kernel
theorem dX3_worthOf_1 : decode cX3_worthOf 1 = .ok (.iload_n 1, 1) := by decide +kernel
theorem dX3_worthOf_2 : decode cX3_worthOf 2 = .ok (.invokevirtual 177, 3) := by decide +kernel
theorem dX3_worthOf_5 : decode cX3_worthOf 5 = .ok (.aload_n 0, 1) := by decide +kernel
theorem dX3_worthOf_6 : decode cX3_worthOf 6 = .ok (.getfield 44, 3) := by decide +kernel
theorem dX3_worthOf_9 : decode cX3_worthOf 9 = .ok (.getfield 161, 3) := by decide +kernel
theorem dX3_worthOf_12 : decode cX3_worthOf 12 = .ok (.iconst 3, 1) := by decide +kernel
theorem dX3_worthOf_13 : decode cX3_worthOf 13 = .ok (.invokevirtual 165, 3) := by decide +kernel
theorem dX3_worthOf_16 : decode cX3_worthOf 16 = .ok (.lstore_n 2, 1) := by decide +kernel
theorem dX3_worthOf_17 : decode cX3_worthOf 17 = .ok (.lload_n 2, 1) := by decide +kernel
theorem dX3_worthOf_18 : decode cX3_worthOf 18 = .ok (.ldc2_w 171, 3) := by decide +kernel
theorem dX3_worthOf_21 : decode cX3_worthOf 21 = .ok (.lcmp, 1) := by decide +kernel
theorem dX3_worthOf_22 : decode cX3_worthOf 22 = .ok (.ifCond .ne 23, 3) := by decide +kernel
theorem dX3_worthOf_25 : decode cX3_worthOf 25 = .ok (.aload_n 0, 1) := by decide +kernel
theorem dX3_worthOf_26 : decode cX3_worthOf 26 = .ok (.getfield 44, 3) := by decide +kernel
theorem dX3_worthOf_29 : decode cX3_worthOf 29 = .ok (.getfield 180, 3) := by decide +kernel
theorem dX3_worthOf_32 : decode cX3_worthOf 32 = .ok (.iload_n 1, 1) := by decide +kernel
theorem dX3_worthOf_33 : decode cX3_worthOf 33 = .ok (.iaload, 1) := by decide +kernel
theorem dX3_worthOf_34 : decode cX3_worthOf 34 = .ok (.aload_n 0, 1) := by decide +kernel
theorem dX3_worthOf_35 : decode cX3_worthOf 35 = .ok (.getfield 41, 3) := by decide +kernel
theorem dX3_worthOf_38 : decode cX3_worthOf 38 = .ok (.iload_n 1, 1) := by decide +kernel
theorem dX3_worthOf_39 : decode cX3_worthOf 39 = .ok (.iaload, 1) := by decide +kernel
theorem dX3_worthOf_40 : decode cX3_worthOf 40 = .ok (.isub, 1) := by decide +kernel
theorem dX3_worthOf_41 : decode cX3_worthOf 41 = .ok (.i2l, 1) := by decide +kernel
theorem dX3_worthOf_42 : decode cX3_worthOf 42 = .ok (.goto 4, 3) := by decide +kernel
theorem dX3_worthOf_45 : decode cX3_worthOf 45 = .ok (.lload_n 2, 1) := by decide +kernel
theorem dX3_worthOf_46 : decode cX3_worthOf 46 = .ok (.bipush 99, 2) := by decide +kernel
theorem dX3_worthOf_48 : decode cX3_worthOf 48 = .ok (.invokestatic 173, 3) := by decide +kernel
theorem dX3_worthOf_51 : decode cX3_worthOf 51 = .ok (.ireturn, 1) := by decide +kernel
theorem dX3_namePlace_0 : decode cX3_namePlace 0 = .ok (.aload_n 0, 1) := by decide +kernel
theorem dX3_namePlace_1 : decode cX3_namePlace 1 = .ok (.getfield 44, 3) := by decide +kernel
theorem dX3_namePlace_4 : decode cX3_namePlace 4 = .ok (.getfield 161, 3) := by decide +kernel
theorem dX3_namePlace_7 : decode cX3_namePlace 7 = .ok (.getfield 183, 3) := by decide +kernel
theorem dX3_namePlace_10 : decode cX3_namePlace 10 = .ok (.astore_n 3, 1) := by decide +kernel
theorem dX3_namePlace_11 : decode cX3_namePlace 11 = .ok (.aload_n 3, 1) := by decide +kernel
theorem dX3_namePlace_12 : decode cX3_namePlace 12 = .ok (.iconst 0, 1) := by decide +kernel
theorem dX3_namePlace_13 : decode cX3_namePlace 13 = .ok (.iload_n 1, 1) := by decide +kernel
theorem dX3_namePlace_14 : decode cX3_namePlace 14 = .ok (.i2l, 1) := by decide +kernel
theorem dX3_namePlace_15 : decode cX3_namePlace 15 = .ok (.lastore, 1) := by decide +kernel
theorem dX3_namePlace_16 : decode cX3_namePlace 16 = .ok (.aload_n 3, 1) := by decide +kernel
theorem dX3_namePlace_17 : decode cX3_namePlace 17 = .ok (.iconst 1, 1) := by decide +kernel
theorem dX3_namePlace_18 : decode cX3_namePlace 18 = .ok (.iload_n 2, 1) := by decide +kernel
theorem dX3_namePlace_19 : decode cX3_namePlace 19 = .ok (.iconst (-1), 1) := by decide +kernel
theorem dX3_namePlace_20 : decode cX3_namePlace 20 = .ok (.if_icmp .ne 7, 3) := by decide +kernel
theorem dX3_namePlace_23 : decode cX3_namePlace 23 = .ok (.lconst 0, 1) := by decide +kernel
theorem dX3_namePlace_24 : decode cX3_namePlace 24 = .ok (.goto 10, 3) := by decide +kernel
theorem dX3_namePlace_27 : decode cX3_namePlace 27 = .ok (.aload_n 0, 1) := by decide +kernel
theorem dX3_namePlace_28 : decode cX3_namePlace 28 = .ok (.getfield 20, 3) := by decide +kernel
theorem dX3_namePlace_31 : decode cX3_namePlace 31 = .ok (.iload_n 2, 1) := by decide +kernel
theorem dX3_namePlace_32 : decode cX3_namePlace 32 = .ok (.iaload, 1) := by decide +kernel
theorem dX3_namePlace_33 : decode cX3_namePlace 33 = .ok (.i2l, 1) := by decide +kernel
theorem dX3_namePlace_34 : decode cX3_namePlace 34 = .ok (.lastore, 1) := by decide +kernel
theorem dX3_namePlace_35 : decode cX3_namePlace 35 = .ok (.aload_n 3, 1) := by decide +kernel
theorem dX3_namePlace_36 : decode cX3_namePlace 36 = .ok (.iconst 2, 1) := by decide +kernel
theorem dX3_namePlace_37 : decode cX3_namePlace 37 = .ok (.iload_n 2, 1) := by decide +kernel
theorem dX3_namePlace_38 : decode cX3_namePlace 38 = .ok (.iconst (-1), 1) := by decide +kernel
theorem dX3_namePlace_39 : decode cX3_namePlace 39 = .ok (.if_icmp .ne 7, 3) := by decide +kernel
theorem dX3_namePlace_42 : decode cX3_namePlace 42 = .ok (.lconst 0, 1) := by decide +kernel
theorem dX3_namePlace_43 : decode cX3_namePlace 43 = .ok (.goto 10, 3) := by decide +kernel
theorem dX3_namePlace_46 : decode cX3_namePlace 46 = .ok (.aload_n 0, 1) := by decide +kernel
theorem dX3_namePlace_47 : decode cX3_namePlace 47 = .ok (.getfield 23, 3) := by decide +kernel
theorem dX3_namePlace_50 : decode cX3_namePlace 50 = .ok (.iload_n 2, 1) := by decide +kernel
theorem dX3_namePlace_51 : decode cX3_namePlace 51 = .ok (.iaload, 1) := by decide +kernel
theorem dX3_namePlace_52 : decode cX3_namePlace 52 = .ok (.i2l, 1) := by decide +kernel
theorem dX3_namePlace_53 : decode cX3_namePlace 53 = .ok (.lastore, 1) := by decide +kernel
theorem dX3_namePlace_54 : decode cX3_namePlace 54 = .ok (.aload_n 3, 1) := by decide +kernel
theorem dX3_namePlace_55 : decode cX3_namePlace 55 = .ok (.iconst 3, 1) := by decide +kernel
theorem dX3_namePlace_56 : decode cX3_namePlace 56 = .ok (.aload_n 0, 1) := by decide +kernel
theorem dX3_namePlace_57 : decode cX3_namePlace 57 = .ok (.getfield 52, 3) := by decide +kernel
theorem dX3_namePlace_60 : decode cX3_namePlace 60 = .ok (.bipush 24, 2) := by decide +kernel
theorem dX3_namePlace_62 : decode cX3_namePlace 62 = .ok (.irem, 1) := by decide +kernel
theorem dX3_namePlace_63 : decode cX3_namePlace 63 = .ok (.i2l, 1) := by decide +kernel
theorem dX3_namePlace_64 : decode cX3_namePlace 64 = .ok (.lastore, 1) := by decide +kernel
theorem dX3_namePlace_65 : decode cX3_namePlace 65 = .ok (.aload_n 3, 1) := by decide +kernel
theorem dX3_namePlace_66 : decode cX3_namePlace 66 = .ok (.iconst 4, 1) := by decide +kernel
theorem dX3_namePlace_67 : decode cX3_namePlace 67 = .ok (.lconst 0, 1) := by decide +kernel
theorem dX3_namePlace_68 : decode cX3_namePlace 68 = .ok (.lastore, 1) := by decide +kernel
theorem dX3_namePlace_69 : decode cX3_namePlace 69 = .ok (.aload_n 3, 1) := by decide +kernel
theorem dX3_namePlace_70 : decode cX3_namePlace 70 = .ok (.iconst 5, 1) := by decide +kernel
theorem dX3_namePlace_71 : decode cX3_namePlace 71 = .ok (.lconst 0, 1) := by decide +kernel
theorem dX3_namePlace_72 : decode cX3_namePlace 72 = .ok (.lastore, 1) := by decide +kernel
theorem dX3_namePlace_73 : decode cX3_namePlace 73 = .ok (.aload_n 3, 1) := by decide +kernel
theorem dX3_namePlace_74 : decode cX3_namePlace 74 = .ok (.bipush 6, 2) := by decide +kernel
theorem dX3_namePlace_76 : decode cX3_namePlace 76 = .ok (.lconst 0, 1) := by decide +kernel
theorem dX3_namePlace_77 : decode cX3_namePlace 77 = .ok (.lastore, 1) := by decide +kernel
theorem dX3_namePlace_78 : decode cX3_namePlace 78 = .ok (.return_, 1) := by decide +kernel
theorem dX3_loadOf_0 : decode cX3_loadOf 0 = .ok (.aload_n 0, 1) := by decide +kernel
theorem dX3_loadOf_1 : decode cX3_loadOf 1 = .ok (.iload_n 2, 1) := by decide +kernel
theorem dX3_loadOf_2 : decode cX3_loadOf 2 = .ok (.iload_n 1, 1) := by decide +kernel
theorem dX3_loadOf_3 : decode cX3_loadOf 3 = .ok (.invokevirtual 157, 3) := by decide +kernel
theorem dX3_loadOf_6 : decode cX3_loadOf 6 = .ok (.aload_n 0, 1) := by decide +kernel
theorem dX3_loadOf_7 : decode cX3_loadOf 7 = .ok (.getfield 44, 3) := by decide +kernel
theorem dX3_loadOf_10 : decode cX3_loadOf 10 = .ok (.getfield 161, 3) := by decide +kernel
theorem dX3_loadOf_13 : decode cX3_loadOf 13 = .ok (.iconst 0, 1) := by decide +kernel
theorem dX3_loadOf_14 : decode cX3_loadOf 14 = .ok (.invokevirtual 165, 3) := by decide +kernel
theorem dX3_loadOf_17 : decode cX3_loadOf 17 = .ok (.lstore_n 3, 1) := by decide +kernel
theorem dX3_loadOf_18 : decode cX3_loadOf 18 = .ok (.lload_n 3, 1) := by decide +kernel
theorem dX3_loadOf_19 : decode cX3_loadOf 19 = .ok (.ldc2_w 171, 3) := by decide +kernel
theorem dX3_loadOf_22 : decode cX3_loadOf 22 = .ok (.lcmp, 1) := by decide +kernel
theorem dX3_loadOf_23 : decode cX3_loadOf 23 = .ok (.ifCond .ne 20, 3) := by decide +kernel
theorem dX3_loadOf_26 : decode cX3_loadOf 26 = .ok (.iconst 5, 1) := by decide +kernel
theorem dX3_loadOf_27 : decode cX3_loadOf 27 = .ok (.aload_n 0, 1) := by decide +kernel
theorem dX3_loadOf_28 : decode cX3_loadOf 28 = .ok (.getfield 20, 3) := by decide +kernel
theorem dX3_loadOf_31 : decode cX3_loadOf 31 = .ok (.iload_n 1, 1) := by decide +kernel
theorem dX3_loadOf_32 : decode cX3_loadOf 32 = .ok (.iaload, 1) := by decide +kernel
theorem dX3_loadOf_33 : decode cX3_loadOf 33 = .ok (.imul, 1) := by decide +kernel
theorem dX3_loadOf_34 : decode cX3_loadOf 34 = .ok (.aload_n 0, 1) := by decide +kernel
theorem dX3_loadOf_35 : decode cX3_loadOf 35 = .ok (.getfield 23, 3) := by decide +kernel
theorem dX3_loadOf_38 : decode cX3_loadOf 38 = .ok (.iload_n 1, 1) := by decide +kernel
theorem dX3_loadOf_39 : decode cX3_loadOf 39 = .ok (.iaload, 1) := by decide +kernel
theorem dX3_loadOf_40 : decode cX3_loadOf 40 = .ok (.isub, 1) := by decide +kernel
theorem dX3_loadOf_41 : decode cX3_loadOf 41 = .ok (.i2l, 1) := by decide +kernel
theorem dX3_loadOf_42 : decode cX3_loadOf 42 = .ok (.lstore_n 3, 1) := by decide +kernel
theorem dX3_loadOf_43 : decode cX3_loadOf 43 = .ok (.lload_n 3, 1) := by decide +kernel
theorem dX3_loadOf_44 : decode cX3_loadOf 44 = .ok (.bipush 99, 2) := by decide +kernel
theorem dX3_loadOf_46 : decode cX3_loadOf 46 = .ok (.invokestatic 173, 3) := by decide +kernel
theorem dX3_loadOf_49 : decode cX3_loadOf 49 = .ok (.iload_n 2, 1) := by decide +kernel
theorem dX3_loadOf_50 : decode cX3_loadOf 50 = .ok (.invokestatic 114, 3) := by decide +kernel
theorem dX3_loadOf_53 : decode cX3_loadOf 53 = .ok (.ireturn, 1) := by decide +kernel
def f_X3_sum_4 (h : Hp) (p0c : Nat) (p0o : Nat) (p0a : Nat) (p1 : Int32) (r4 : Int32 → Int32 → Option Int32) (v1 : Int32) (v2 : Int32) : Option Int32 :=
  jn (
    some v1) fun (j27 : Option Int32) =>
  if p1 ≤ v2 then
    j27
  else
  if (Int32.ofNat (ak p0c p0a).2) ≤ v2 then
    j27
  else
  grd (inb v2 (ak p0c p0a).2) <|
  lt_ ((v1 + (gA h p0c p0o p0a v2.toNatClampNeg))) fun v3 =>
  lt_ (v2 + 1) fun v4 =>
  r4 v3 v4
def f_X3_sum (N : Nat) (h : Hp) (p0c p0o p0a : Nat) (p1 : Int32) : Option Int32 :=
  iter (fun _ _ => none) (f_X3_sum_4 h p0c p0o p0a p1) N 0 0
abbrev rmX3_sum : Room := { frames := 0, cells := 0, slots := 0, locals := 0 }
set_option maxRecDepth 100000 in
set_option maxHeartbeats 4000000 in
theorem w_X3_sum (X : Cx) (F : Fx X cX3_sum RX3 (some .int) rmX3_sum) (hA : xA X = Aw (xG X)) (hL : xL X = 4) (N : Nat) (h : Hp) (p0c p0o p0a : Nat) (h_p0 : AR p0c p0o p0a 0 (ak p0c p0a).2) (p1 : Int32) : Wm X (fun v => some (.int v)) (fun _ => h) (fun _ => True) 0 [(0, .ref (adr (xG X) p0c p0o (p0a + 1))), (1, .int p1)] [] h (f_X3_sum N h p0c p0o p0a p1) := by
  have hS : ∀ i : Nat, i < 4 → i < xL X := fun i z => by rw [hL]; exact z
  unfold f_X3_sum
  refine r_iconst F (v := 0) dX3_sum_0 (by decide) ?_
  refine r_istore_n F [(2, .int 0), (0, .ref (adr (xG X) p0c p0o (p0a + 1))), (1, .int p1)] rfl dX3_sum_1 rfl (hS _ (by decide)) ?_
  refine r_iconst F (v := 0) dX3_sum_2 (by decide) ?_
  refine r_istore_n F [(3, .int 0), (2, .int 0), (0, .ref (adr (xG X) p0c p0o (p0a + 1))), (1, .int p1)] rfl dX3_sum_3 rfl (hS _ (by decide)) ?_
  have hl4 : ∀ n : Nat, ∀ v1 : Int32, ∀ v2 : Int32, Wm X (fun v => some (.int v)) (fun _ => h) (fun _ => True) 4 [(0, .ref (adr (xG X) p0c p0o (p0a + 1))), (1, .int p1), (2, .int v1), (3, .int v2)] [] h (iter (fun _ _ => none) (f_X3_sum_4 h p0c p0o p0a p1) n v1 v2) := by
    intro n
    induction n with
    | zero => intro v1 v2; exact Wt_none
    | succ n ih =>
      revert ih
      show (∀ v1 : Int32, ∀ v2 : Int32, Wm X (fun v => some (.int v)) (fun _ => h) (fun _ => True) 4 [(0, .ref (adr (xG X) p0c p0o (p0a + 1))), (1, .int p1), (2, .int v1), (3, .int v2)] [] h (iter (fun _ _ => none) (f_X3_sum_4 h p0c p0o p0a p1) n v1 v2)) → _
      intro ih4 v1 v2
      show Wm X (fun v => some (.int v)) (fun _ => h) (fun _ => True) 4 [(0, .ref (adr (xG X) p0c p0o (p0a + 1))), (1, .int p1), (2, .int v1), (3, .int v2)] [] h (f_X3_sum_4 h p0c p0o p0a p1 (iter (fun _ _ => none) (f_X3_sum_4 h p0c p0o p0a p1) n) v1 v2)
      revert ih4
      generalize iter (fun _ _ => none) (f_X3_sum_4 h p0c p0o p0a p1) n = r4
      intro ih4
      unfold f_X3_sum_4
      refine r_iload_n F 3 rfl dX3_sum_4 rfl ?_
      refine r_iload_n F 1 rfl dX3_sum_5 rfl ?_
      refine Wt_jn (fun (j27 : Option Int32) => Wm X (fun v => some (.int v)) (fun _ => h) (fun _ => True) 27 [(2, .int v1)] [] h (j27)) ?_ fun j27 hj27 => ?_
      · skip
        refine r_iload_n F 0 rfl dX3_sum_27 rfl ?_
        exact r_iret F hA rfl rfl trivial dX3_sum_28
      refine r_icmpge F (tgt := 27) dX3_sum_6 (by decide) ?_ ?_
      · skip
        exact Wt_pick [2] rfl (hj27)
      refine r_iload_n F 3 rfl dX3_sum_9 rfl ?_
      refine r_aload_n F 0 rfl dX3_sum_10 rfl ?_
      refine r_alen0 F h_p0 rfl dX3_sum_11 ?_
      refine r_icmpge F (tgt := 27) dX3_sum_12 (by decide) ?_ ?_
      · skip
        exact Wt_pick [2] rfl (hj27)
      refine r_iload_n F 2 rfl dX3_sum_15 rfl ?_
      refine r_aload_n F 0 rfl dX3_sum_16 rfl ?_
      refine r_iload_n F 3 rfl dX3_sum_17 rfl ?_
      refine r_iaload F h_p0 dX3_sum_18 ?_
      refine r_iadd F dX3_sum_19 ?_
      refine r_nmI fun v3 => ?_
      refine r_istore_n F [(2, .int v3), (0, .ref (adr (xG X) p0c p0o (p0a + 1))), (1, .int p1), (3, .int v2)] rfl dX3_sum_20 rfl (hS _ (by decide)) ?_
      refine r_iinc F (v := 1) 3 rfl (by decide) (fun v4 => [(3, .int v4), (2, .int v3), (0, .ref (adr (xG X) p0c p0o (p0a + 1))), (1, .int p1)]) (fun _ => rfl) dX3_sum_21 (hS _ (by decide)) fun v4 => ?_
      refine r_goto F (tgt := 4) dX3_sum_24 (by decide) ?_
      exact Wt_pick [2, 3, 1, 0] rfl (ih4 v3 v4)
  exact Wt_pick [2, 3, 1, 0] rfl (hl4 N 0 0)
theorem c_X3_sum (G : Gx) (l : Launch) (N : Nat) (h : Hp) (p0c p0o p0a : Nat) (h_p0 : AR p0c p0o p0a 0 (ak p0c p0a).2) (p1 : Int32) : Ctr G l yX3_sum (.code yX3_sum cX3_sum 4 (some .int) :: GT) rmX3_sum [.ref (adr G p0c p0o (p0a + 1)), .int p1] h (f_X3_sum N h p0c p0o p0a p1) (fun v => some (.int v)) (fun _ => h) (fun _ => True) :=
  ctr_of (by decide) (Nat.le_of_ble_eq_true rfl) ⟨rfl, rfl⟩ fun X _ e2 hA hL F => by subst e2; exact w_X3_sum X F hA hL N h p0c p0o p0a h_p0 p1
def f_X3_allLying (N : Nat) (h : Hp) (o : Nat) : Option Int32 :=
  onO (gO h 3 o 10) fun o1 =>
  (f_X3_sum N h 3 o 0 (gI h 5 o1 11)).bind fun v2 =>
  some v2
abbrev rmX3_allLying : Room := { frames := 1, cells := 0, slots := 0, locals := 23 }
set_option maxRecDepth 100000 in
set_option maxHeartbeats 4000000 in
theorem w_X3_allLying (X : Cx) (F : Fx X cX3_allLying RX3 (some .int) rmX3_allLying) (hA : xA X = Aw (xG X)) (hL : xL X = 1) (N : Nat) (h : Hp) (o : Nat) (h_o : o < cnt 3) : Wm X (fun v => some (.int v)) (fun _ => h) (fun _ => True) 0 [(0, .ref (adr (xG X) 3 o 0))] [] h (f_X3_allLying N h o) := by
  have hS : ∀ i : Nat, i < 1 → i < xL X := fun i z => by rw [hL]; exact z
  unfold f_X3_allLying
  refine r_aload_n F 0 rfl dX3_allLying_0 rfl ?_
  refine r_getA F frX3_11 h_o dX3_allLying_1 ?_
  refine r_aload_n F 0 rfl dX3_allLying_4 rfl ?_
  refine r_getO F frX3_44 h_o dX3_allLying_5 fun o1 hp_o1 => ?_
  refine r_getI F frX3_108 hp_o1 dX3_allLying_8 ?_
  refine k_iP (run_S F csX3_198 (c_X3_sum (xG X) _ N h 3 o 0 (ar_3_0 o h_o) (gI h 5 o1 11)) rfl rfl ⟨⟨rfl, rfl⟩, Nat.le_of_ble_eq_true rfl, Nat.le_of_ble_eq_true rfl⟩ (Nat.le_of_ble_eq_true rfl) dX3_allLying_11) fun v2 _ => ?_
  exact r_iret F hA rfl rfl trivial dX3_allLying_14
theorem c_X3_allLying (G : Gx) (l : Launch) (N : Nat) (h : Hp) (o : Nat) (h_o : o < cnt 3) : Ctr G l yX3_allLying (.code yX3_allLying cX3_allLying 1 (some .int) :: GT) rmX3_allLying [.ref (adr G 3 o 0)] h (f_X3_allLying N h o) (fun v => some (.int v)) (fun _ => h) (fun _ => True) :=
  ctr_of (by decide) (Nat.le_of_ble_eq_true rfl) ⟨rfl, rfl⟩ fun X _ e2 hA hL F => by subst e2; exact w_X3_allLying X F hA hL N h o h_o
def f_X3_ruledAct (N : Nat) (h : Hp) (o : Nat) : Option Int32 :=
  jn (fun (v1 : Int32) =>
    some v1) fun (j20 : Int32 → Option Int32) =>
  jn (
    j20 1) fun (j19 : Option Int32) =>
  if ¬ (gI h 3 o 14) = 2 then
    j19
  else
  (f_X3_allLying N h o).bind fun v2 =>
  if v2 ≤ 0 then
    j19
  else
  j20 2
abbrev rmX3_ruledAct : Room := { frames := 2, cells := 0, slots := 0, locals := 43 }
set_option maxRecDepth 100000 in
set_option maxHeartbeats 4000000 in
theorem w_X3_ruledAct (X : Cx) (F : Fx X cX3_ruledAct RX3 (some .int) rmX3_ruledAct) (hA : xA X = Aw (xG X)) (hL : xL X = 1) (N : Nat) (h : Hp) (o : Nat) (h_o : o < cnt 3) : Wm X (fun v => some (.int v)) (fun _ => h) (fun _ => True) 0 [(0, .ref (adr (xG X) 3 o 0))] [] h (f_X3_ruledAct N h o) := by
  have hS : ∀ i : Nat, i < 1 → i < xL X := fun i z => by rw [hL]; exact z
  unfold f_X3_ruledAct
  refine r_aload_n F 0 rfl dX3_ruledAct_0 rfl ?_
  refine r_getI F frX3_68 h_o dX3_ruledAct_1 ?_
  refine r_iconst F (v := 2) dX3_ruledAct_4 (by decide) ?_
  refine Wt_jn (fun (j20 : Int32 → Option Int32) => ∀ v1 : Int32, Wm X (fun v => some (.int v)) (fun _ => h) (fun _ => True) 20 [] [.int v1] h (j20 v1)) ?_ fun j20 hj20 => ?_
  · intro v1
    exact r_iret F hA rfl rfl trivial dX3_ruledAct_20
  refine Wt_jn (fun (j19 : Option Int32) => Wm X (fun v => some (.int v)) (fun _ => h) (fun _ => True) 19 [] [] h (j19)) ?_ fun j19 hj19 => ?_
  · skip
    refine r_iconst F (v := 1) dX3_ruledAct_19 (by decide) ?_
    exact Wt_pick [] rfl (hj20 1)
  refine r_icmpne F (tgt := 19) dX3_ruledAct_5 (by decide) ?_ ?_
  · skip
    exact Wt_pick [] rfl (hj19)
  refine r_aload_n F 0 rfl dX3_ruledAct_8 rfl ?_
  refine k_iP (run_V F cvX3_137 h_o (c_X3_allLying (xG X) _ N h o h_o) rfl rfl ⟨⟨rfl, rfl⟩, Nat.le_of_ble_eq_true rfl, Nat.le_of_ble_eq_true rfl⟩ (Nat.le_of_ble_eq_true rfl) dX3_ruledAct_9) fun v2 _ => ?_
  refine r_ifle F (tgt := 19) dX3_ruledAct_12 (by decide) ?_ ?_
  · skip
    exact Wt_pick [] rfl (hj19)
  refine r_iconst F (v := 2) dX3_ruledAct_15 (by decide) ?_
  refine r_goto F (tgt := 20) dX3_ruledAct_16 (by decide) ?_
  exact Wt_pick [] rfl (hj20 2)
theorem c_X3_ruledAct (G : Gx) (l : Launch) (N : Nat) (h : Hp) (o : Nat) (h_o : o < cnt 3) : Ctr G l yX3_ruledAct (.code yX3_ruledAct cX3_ruledAct 1 (some .int) :: GT) rmX3_ruledAct [.ref (adr G 3 o 0)] h (f_X3_ruledAct N h o) (fun v => some (.int v)) (fun _ => h) (fun _ => True) :=
  ctr_of (by decide) (Nat.le_of_ble_eq_true rfl) ⟨rfl, rfl⟩ fun X _ e2 hA hL F => by subst e2; exact w_X3_ruledAct X F hA hL N h o h_o
def f_X3_sourceOf_42 (h : Hp) (o : Nat) (p1 : Int32) (v1 : Bool) (r42 : Int32 → Int32 → Int32 → Option Int32) (v2 : Int32) (v3 : Int32) (v4 : Int32) : Option Int32 :=
  onO (gO h 3 o 10) fun o5 =>
  if (gI h 5 o5 11) ≤ v4 then
    jn (fun (v6 : Int32) =>
      some v6) fun (j122 : Int32 → Option Int32) =>
    jn (
      j122 v2) fun (j120 : Option Int32) =>
    if ¬ v2 = (-2) then
      j120
    else
    if (b2i v1) = 0 then
      j120
    else
    j122 (-3)
  else
  grd (inb v4 8) <|
  jn (fun (v7 : Int32) (v8 : Int32) =>
    lt_ (v4 + 1) fun v9 =>
    r42 v7 v8 v9) fun (j98 : Int32 → Int32 → Option Int32) =>
  if (gA h 3 o 0 v4.toNatClampNeg) ≤ v3 then
    j98 v2 v3
  else
  jn (
    grd (inb v4 8) <|
    lt_ ((gA h 3 o 0 v4.toNatClampNeg)) fun v10 =>
    j98 v4 v10) fun (j85 : Option Int32) =>
  if ¬ (gI h 3 o 14) = 1 then
    j85
  else
  grd (inb v4 8) <|
  if ¬ (gA h 3 o 1 v4.toNatClampNeg) = p1 then
    j98 v2 v3
  else
  j85
def f_X3_sourceOf (N : Nat) (h : Hp) (o : Nat) (p1 : Int32) (p2 : Bool) : Option Int32 :=
  jn (fun (v1 : Bool) =>
    jn (
      iter (fun _ _ _ => none) (f_X3_sourceOf_42 h o p1 v1) N (-2) 0 0) fun (j32 : Option Int32) =>
    if ¬ (gI h 3 o 14) = 2 then
      j32
    else
    if (b2i v1) = 0 then
      j32
    else
    some (-3)) fun (j16 : Bool → Option Int32) =>
  jn (
    j16 false) fun (j15 : Option Int32) =>
  if (gI h 3 o 12) ≤ 0 then
    j15
  else
  if ¬ (b2i p2) = 0 then
    j15
  else
  j16 true
abbrev rmX3_sourceOf : Room := { frames := 0, cells := 0, slots := 0, locals := 0 }
set_option maxRecDepth 100000 in
set_option maxHeartbeats 4000000 in
theorem w_X3_sourceOf (X : Cx) (F : Fx X cX3_sourceOf RX3 (some .int) rmX3_sourceOf) (hA : xA X = Aw (xG X)) (hL : xL X = 7) (N : Nat) (h : Hp) (o : Nat) (h_o : o < cnt 3) (p1 : Int32) (p2 : Bool) : Wm X (fun v => some (.int v)) (fun _ => h) (fun _ => True) 0 [(0, .ref (adr (xG X) 3 o 0)), (1, .int p1), (2, .int (b2i p2))] [] h (f_X3_sourceOf N h o p1 p2) := by
  have hS : ∀ i : Nat, i < 7 → i < xL X := fun i z => by rw [hL]; exact z
  unfold f_X3_sourceOf
  refine r_aload_n F 0 rfl dX3_sourceOf_0 rfl ?_
  refine r_getI F frX3_61 h_o dX3_sourceOf_1 ?_
  refine Wt_jn (fun (j16 : Bool → Option Int32) => ∀ v1 : Bool, Wm X (fun v => some (.int v)) (fun _ => h) (fun _ => True) 16 [(0, .ref (adr (xG X) 3 o 0)), (1, .int p1)] [.int (b2i v1)] h (j16 v1)) ?_ fun j16 hj16 => ?_
  · intro v1
    refine r_istore_n F [(3, .int (b2i v1)), (0, .ref (adr (xG X) 3 o 0)), (1, .int p1)] rfl dX3_sourceOf_16 rfl (hS _ (by decide)) ?_
    refine r_aload_n F 1 rfl dX3_sourceOf_17 rfl ?_
    refine r_getI F frX3_68 h_o dX3_sourceOf_18 ?_
    refine r_iconst F (v := 2) dX3_sourceOf_21 (by decide) ?_
    refine Wt_jn (fun (j32 : Option Int32) => Wm X (fun v => some (.int v)) (fun _ => h) (fun _ => True) 32 [(0, .ref (adr (xG X) 3 o 0)), (1, .int p1), (3, .int (b2i v1))] [] h (j32)) ?_ fun j32 hj32 => ?_
    · skip
      refine r_bipush F (v := (-2)) dX3_sourceOf_32 (by decide) ?_
      refine r_istore F [(4, .int (-2)), (0, .ref (adr (xG X) 3 o 0)), (1, .int p1), (3, .int (b2i v1))] rfl dX3_sourceOf_34 (hS _ (by decide)) ?_
      refine r_iconst F (v := 0) dX3_sourceOf_36 (by decide) ?_
      refine r_istore F [(5, .int 0), (4, .int (-2)), (0, .ref (adr (xG X) 3 o 0)), (1, .int p1), (3, .int (b2i v1))] rfl dX3_sourceOf_37 (hS _ (by decide)) ?_
      refine r_iconst F (v := 0) dX3_sourceOf_39 (by decide) ?_
      refine r_istore F [(6, .int 0), (5, .int 0), (4, .int (-2)), (0, .ref (adr (xG X) 3 o 0)), (1, .int p1), (3, .int (b2i v1))] rfl dX3_sourceOf_40 (hS _ (by decide)) ?_
      have hl42 : ∀ n : Nat, ∀ v2 : Int32, ∀ v3 : Int32, ∀ v4 : Int32, Wm X (fun v => some (.int v)) (fun _ => h) (fun _ => True) 42 [(0, .ref (adr (xG X) 3 o 0)), (1, .int p1), (3, .int (b2i v1)), (4, .int v2), (5, .int v3), (6, .int v4)] [] h (iter (fun _ _ _ => none) (f_X3_sourceOf_42 h o p1 v1) n v2 v3 v4) := by
        intro n
        induction n with
        | zero => intro v2 v3 v4; exact Wt_none
        | succ n ih =>
          revert ih
          show (∀ v2 : Int32, ∀ v3 : Int32, ∀ v4 : Int32, Wm X (fun v => some (.int v)) (fun _ => h) (fun _ => True) 42 [(0, .ref (adr (xG X) 3 o 0)), (1, .int p1), (3, .int (b2i v1)), (4, .int v2), (5, .int v3), (6, .int v4)] [] h (iter (fun _ _ _ => none) (f_X3_sourceOf_42 h o p1 v1) n v2 v3 v4)) → _
          intro ih42 v2 v3 v4
          show Wm X (fun v => some (.int v)) (fun _ => h) (fun _ => True) 42 [(0, .ref (adr (xG X) 3 o 0)), (1, .int p1), (3, .int (b2i v1)), (4, .int v2), (5, .int v3), (6, .int v4)] [] h (f_X3_sourceOf_42 h o p1 v1 (iter (fun _ _ _ => none) (f_X3_sourceOf_42 h o p1 v1) n) v2 v3 v4)
          revert ih42
          generalize iter (fun _ _ _ => none) (f_X3_sourceOf_42 h o p1 v1) n = r42
          intro ih42
          unfold f_X3_sourceOf_42
          refine r_iload F 5 rfl dX3_sourceOf_42 ?_
          refine r_aload_n F 0 rfl dX3_sourceOf_44 rfl ?_
          refine r_getO F frX3_44 h_o dX3_sourceOf_45 fun o5 hp_o5 => ?_
          refine r_getI F frX3_108 hp_o5 dX3_sourceOf_48 ?_
          refine r_icmpge F (tgt := 104) dX3_sourceOf_51 (by decide) ?_ ?_
          · skip
            refine r_iload F 3 rfl dX3_sourceOf_104 ?_
            refine r_bipush F (v := (-2)) dX3_sourceOf_106 (by decide) ?_
            refine Wt_jn (fun (j122 : Int32 → Option Int32) => ∀ v6 : Int32, Wm X (fun v => some (.int v)) (fun _ => h) (fun _ => True) 122 [] [.int v6] h (j122 v6)) ?_ fun j122 hj122 => ?_
            · intro v6
              exact r_iret F hA rfl rfl trivial dX3_sourceOf_122
            refine Wt_jn (fun (j120 : Option Int32) => Wm X (fun v => some (.int v)) (fun _ => h) (fun _ => True) 120 [(4, .int v2)] [] h (j120)) ?_ fun j120 hj120 => ?_
            · skip
              refine r_iload F 0 rfl dX3_sourceOf_120 ?_
              exact Wt_pick [] rfl (hj122 v2)
            refine r_icmpne F (tgt := 120) dX3_sourceOf_108 (by decide) ?_ ?_
            · skip
              exact Wt_pick [3] rfl (hj120)
            refine r_iload_n F 2 rfl dX3_sourceOf_111 rfl ?_
            refine r_ifeq F (tgt := 120) dX3_sourceOf_112 (by decide) ?_ ?_
            · skip
              exact Wt_pick [3] rfl (hj120)
            refine r_bipush F (v := (-3)) dX3_sourceOf_115 (by decide) ?_
            refine r_goto F (tgt := 122) dX3_sourceOf_117 (by decide) ?_
            exact Wt_pick [] rfl (hj122 (-3))
          refine r_aload_n F 0 rfl dX3_sourceOf_54 rfl ?_
          refine r_getA F frX3_11 h_o dX3_sourceOf_55 ?_
          refine r_iload F 5 rfl dX3_sourceOf_58 ?_
          refine r_iaload F (ar_3_0 o h_o) dX3_sourceOf_60 ?_
          refine r_iload F 4 rfl dX3_sourceOf_61 ?_
          refine Wt_jn (fun (j98 : Int32 → Int32 → Option Int32) => ∀ v7 : Int32, ∀ v8 : Int32, Wm X (fun v => some (.int v)) (fun _ => h) (fun _ => True) 98 [(0, .ref (adr (xG X) 3 o 0)), (1, .int p1), (3, .int (b2i v1)), (4, .int v7), (5, .int v8), (6, .int v4)] [] h (j98 v7 v8)) ?_ fun j98 hj98 => ?_
          · intro v7 v8
            refine r_iinc F (v := 1) 5 rfl (by decide) (fun v9 => [(6, .int v9), (0, .ref (adr (xG X) 3 o 0)), (1, .int p1), (3, .int (b2i v1)), (4, .int v7), (5, .int v8)]) (fun _ => rfl) dX3_sourceOf_98 (hS _ (by decide)) fun v9 => ?_
            refine r_goto F (tgt := 42) dX3_sourceOf_101 (by decide) ?_
            exact Wt_pick [1, 2, 3, 4, 5, 0] rfl (ih42 v7 v8 v9)
          refine r_icmple F (tgt := 98) dX3_sourceOf_63 (by decide) ?_ ?_
          · skip
            exact Wt_pick [0, 1, 2, 3, 4, 5] rfl (hj98 v2 v3)
          refine r_aload_n F 0 rfl dX3_sourceOf_66 rfl ?_
          refine r_getI F frX3_68 h_o dX3_sourceOf_67 ?_
          refine r_iconst F (v := 1) dX3_sourceOf_70 (by decide) ?_
          refine Wt_jn (fun (j85 : Option Int32) => Wm X (fun v => some (.int v)) (fun _ => h) (fun _ => True) 85 [(0, .ref (adr (xG X) 3 o 0)), (1, .int p1), (3, .int (b2i v1)), (6, .int v4)] [] h (j85)) ?_ fun j85 hj85 => ?_
          · skip
            refine r_aload_n F 0 rfl dX3_sourceOf_85 rfl ?_
            refine r_getA F frX3_11 h_o dX3_sourceOf_86 ?_
            refine r_iload F 3 rfl dX3_sourceOf_89 ?_
            refine r_iaload F (ar_3_0 o h_o) dX3_sourceOf_91 ?_
            refine r_nmI fun v10 => ?_
            refine r_istore F [(5, .int v10), (0, .ref (adr (xG X) 3 o 0)), (1, .int p1), (3, .int (b2i v1)), (6, .int v4)] rfl dX3_sourceOf_92 (hS _ (by decide)) ?_
            refine r_iload F 4 rfl dX3_sourceOf_94 ?_
            refine r_istore F [(4, .int v4), (5, .int v10), (0, .ref (adr (xG X) 3 o 0)), (1, .int p1), (3, .int (b2i v1)), (6, .int v4)] rfl dX3_sourceOf_96 (hS _ (by decide)) ?_
            exact Wt_pick [2, 3, 4, 0, 1, 5] rfl (hj98 v4 v10)
          refine r_icmpne F (tgt := 85) dX3_sourceOf_71 (by decide) ?_ ?_
          · skip
            exact Wt_pick [0, 1, 2, 5] rfl (hj85)
          refine r_aload_n F 0 rfl dX3_sourceOf_74 rfl ?_
          refine r_getA F frX3_17 h_o dX3_sourceOf_75 ?_
          refine r_iload F 5 rfl dX3_sourceOf_78 ?_
          refine r_iaload F (ar_3_1 o h_o) dX3_sourceOf_80 ?_
          refine r_iload_n F 1 rfl dX3_sourceOf_81 rfl ?_
          refine r_icmpne F (tgt := 98) dX3_sourceOf_82 (by decide) ?_ ?_
          · skip
            exact Wt_pick [0, 1, 2, 3, 4, 5] rfl (hj98 v2 v3)
          exact Wt_pick [0, 1, 2, 5] rfl (hj85)
      exact Wt_pick [3, 4, 5, 2, 1, 0] rfl (hl42 N (-2) 0 0)
    refine r_icmpne F (tgt := 32) dX3_sourceOf_22 (by decide) ?_ ?_
    · skip
      exact Wt_pick [1, 2, 0] rfl (hj32)
    refine r_iload_n F 0 rfl dX3_sourceOf_25 rfl ?_
    refine r_ifeq F (tgt := 32) dX3_sourceOf_26 (by decide) ?_ ?_
    · skip
      exact Wt_pick [1, 2, 0] rfl (hj32)
    refine r_bipush F (v := (-3)) dX3_sourceOf_29 (by decide) ?_
    exact r_iret F hA rfl rfl trivial dX3_sourceOf_31
  refine Wt_jn (fun (j15 : Option Int32) => Wm X (fun v => some (.int v)) (fun _ => h) (fun _ => True) 15 [(0, .ref (adr (xG X) 3 o 0)), (1, .int p1)] [] h (j15)) ?_ fun j15 hj15 => ?_
  · skip
    refine r_iconst F (v := 0) dX3_sourceOf_15 (by decide) ?_
    exact Wt_pick [0, 1] rfl (hj16 false)
  refine r_ifle F (tgt := 15) dX3_sourceOf_4 (by decide) ?_ ?_
  · skip
    exact Wt_pick [0, 1] rfl (hj15)
  refine r_iload_n F 2 rfl dX3_sourceOf_7 rfl ?_
  refine r_ifne F (tgt := 15) dX3_sourceOf_8 (by decide) ?_ ?_
  · skip
    exact Wt_pick [0, 1] rfl (hj15)
  refine r_iconst F (v := 1) dX3_sourceOf_11 (by decide) ?_
  refine r_goto F (tgt := 16) dX3_sourceOf_12 (by decide) ?_
  exact Wt_pick [0, 1] rfl (hj16 true)
theorem c_X3_sourceOf (G : Gx) (l : Launch) (N : Nat) (h : Hp) (o : Nat) (h_o : o < cnt 3) (p1 : Int32) (p2 : Bool) : Ctr G l yX3_sourceOf (.code yX3_sourceOf cX3_sourceOf 7 (some .int) :: GT) rmX3_sourceOf [.ref (adr G 3 o 0), .int p1, .int (b2i p2)] h (f_X3_sourceOf N h o p1 p2) (fun v => some (.int v)) (fun _ => h) (fun _ => True) :=
  ctr_of (by decide) (Nat.le_of_ble_eq_true rfl) ⟨rfl, rfl⟩ fun X _ e2 hA hL F => by subst e2; exact w_X3_sourceOf X F hA hL N h o h_o p1 p2
def f_X3_nameField (h : Hp) (o : Nat) (p1 : Int32) : Option Hp :=
  onO (gO h 3 o 10) fun o1 =>
  grd (inb p1 6) <|
  lt_ ((gA h 5 o1 5 p1.toNatClampNeg)) fun v2 =>
  onO (gO h 3 o 10) fun o3 =>
  grd (inb 0 7) <| lt_ (sB h 0 o3 4 (0 : Int32).toNatClampNeg (0 : Int64)) fun h4 =>
  grd (inb v2 4) <|
  grd (inb 1 7) <| lt_ (sB h4 0 o3 4 (1 : Int32).toNatClampNeg ((gA h4 3 o 2 v2.toNatClampNeg)).toInt64) fun h5 =>
  grd (inb v2 4) <|
  grd (inb 2 7) <| lt_ (sB h5 0 o3 4 (2 : Int32).toNatClampNeg ((gA h5 3 o 3 v2.toNatClampNeg)).toInt64) fun h6 =>
  grd (inb 3 7) <| lt_ (sB h6 0 o3 4 (3 : Int32).toNatClampNeg (((gI h6 3 o 11) - (gI h6 3 o 11) / 24 * 24)).toInt64) fun h7 =>
  grd (inb p1 6) <|
  grd (inb 4 7) <| lt_ (sB h7 0 o3 4 (4 : Int32).toNatClampNeg ((gA h7 3 o 9 p1.toNatClampNeg)).toInt64) fun h8 =>
  onO (gO h8 3 o 10) fun o9 =>
  grd (inb p1 6) <|
  grd (inb 5 7) <| lt_ (sB h8 0 o3 4 (5 : Int32).toNatClampNeg ((gA h8 5 o9 6 p1.toNatClampNeg)).toInt64) fun h10 =>
  onO (gO h10 3 o 10) fun o11 =>
  grd (inb p1 6) <|
  grd (inb 6 7) <| lt_ (sB h10 0 o3 4 (6 : Int32).toNatClampNeg ((gA h10 5 o11 7 p1.toNatClampNeg)).toInt64) fun h12 =>
  some h12
abbrev rmX3_nameField : Room := { frames := 0, cells := 0, slots := 0, locals := 0 }
set_option maxRecDepth 100000 in
set_option maxHeartbeats 4000000 in
theorem w_X3_nameField (X : Cx) (F : Fx X cX3_nameField RX3 none rmX3_nameField) (hA : xA X = Aw (xG X)) (hL : xL X = 4) (h : Hp) (o : Nat) (h_o : o < cnt 3) (p1 : Int32) : Wm X (fun _ => none) (fun v => v) (fun _ => True) 0 [(0, .ref (adr (xG X) 3 o 0)), (1, .int p1)] [] h (f_X3_nameField h o p1) := by
  have hS : ∀ i : Nat, i < 4 → i < xL X := fun i z => by rw [hL]; exact z
  unfold f_X3_nameField
  refine r_aload_n F 0 rfl dX3_nameField_0 rfl ?_
  refine r_getO F frX3_44 h_o dX3_nameField_1 fun o1 hp_o1 => ?_
  refine r_getA F frX3_147 hp_o1 dX3_nameField_4 ?_
  refine r_iload_n F 1 rfl dX3_nameField_7 rfl ?_
  refine r_iaload F (ar_5_5 o1 hp_o1) dX3_nameField_8 ?_
  refine r_nmI fun v2 => ?_
  refine r_istore_n F [(2, .int v2), (0, .ref (adr (xG X) 3 o 0)), (1, .int p1)] rfl dX3_nameField_9 rfl (hS _ (by decide)) ?_
  refine r_aload_n F 1 rfl dX3_nameField_10 rfl ?_
  refine r_getO F frX3_44 h_o dX3_nameField_11 fun o3 hp_o3 => ?_
  refine r_getS F frX3_161 hp_o3 o3 rfl dX3_nameField_14 ?_
  refine r_getA F frX3_183 hp_o3 dX3_nameField_17 ?_
  refine r_astore_n F [(3, .ref (adr (xG X) 0 o3 5)), (2, .int v2), (0, .ref (adr (xG X) 3 o 0)), (1, .int p1)] rfl dX3_nameField_20 rfl (hS _ (by decide)) ?_
  refine r_aload_n F 0 rfl dX3_nameField_21 rfl ?_
  refine r_iconst F (v := 0) dX3_nameField_22 (by decide) ?_
  refine r_lconst F (v := 0) dX3_nameField_23 (by decide) ?_
  refine r_lastore F (ar_0_4 o3 hp_o3) dX3_nameField_24 fun h4 => ?_
  refine r_aload_n F 0 rfl dX3_nameField_25 rfl ?_
  refine r_iconst F (v := 1) dX3_nameField_26 (by decide) ?_
  refine r_aload_n F 2 rfl dX3_nameField_27 rfl ?_
  refine r_getA F frX3_20 h_o dX3_nameField_28 ?_
  refine r_iload_n F 1 rfl dX3_nameField_31 rfl ?_
  refine r_iaload F (ar_3_2 o h_o) dX3_nameField_32 ?_
  refine r_i2l F dX3_nameField_33 ?_
  refine r_lastore F (ar_0_4 o3 hp_o3) dX3_nameField_34 fun h5 => ?_
  refine r_aload_n F 0 rfl dX3_nameField_35 rfl ?_
  refine r_iconst F (v := 2) dX3_nameField_36 (by decide) ?_
  refine r_aload_n F 2 rfl dX3_nameField_37 rfl ?_
  refine r_getA F frX3_23 h_o dX3_nameField_38 ?_
  refine r_iload_n F 1 rfl dX3_nameField_41 rfl ?_
  refine r_iaload F (ar_3_3 o h_o) dX3_nameField_42 ?_
  refine r_i2l F dX3_nameField_43 ?_
  refine r_lastore F (ar_0_4 o3 hp_o3) dX3_nameField_44 fun h6 => ?_
  refine r_aload_n F 0 rfl dX3_nameField_45 rfl ?_
  refine r_iconst F (v := 3) dX3_nameField_46 (by decide) ?_
  refine r_aload_n F 2 rfl dX3_nameField_47 rfl ?_
  refine r_getI F frX3_52 h_o dX3_nameField_48 ?_
  refine r_bipush F (v := 24) dX3_nameField_51 (by decide) ?_
  refine r_iremc F (by decide) dX3_nameField_53 ?_
  refine r_i2l F dX3_nameField_54 ?_
  refine r_lastore F (ar_0_4 o3 hp_o3) dX3_nameField_55 fun h7 => ?_
  refine r_aload_n F 0 rfl dX3_nameField_56 rfl ?_
  refine r_iconst F (v := 4) dX3_nameField_57 (by decide) ?_
  refine r_aload_n F 2 rfl dX3_nameField_58 rfl ?_
  refine r_getA F frX3_41 h_o dX3_nameField_59 ?_
  refine r_iload_n F 3 rfl dX3_nameField_62 rfl ?_
  refine r_iaload F (ar_3_9 o h_o) dX3_nameField_63 ?_
  refine r_i2l F dX3_nameField_64 ?_
  refine r_lastore F (ar_0_4 o3 hp_o3) dX3_nameField_65 fun h8 => ?_
  refine r_aload_n F 0 rfl dX3_nameField_66 rfl ?_
  refine r_iconst F (v := 5) dX3_nameField_67 (by decide) ?_
  refine r_aload_n F 2 rfl dX3_nameField_68 rfl ?_
  refine r_getO F frX3_44 h_o dX3_nameField_69 fun o9 hp_o9 => ?_
  refine r_getA F frX3_180 hp_o9 dX3_nameField_72 ?_
  refine r_iload_n F 3 rfl dX3_nameField_75 rfl ?_
  refine r_iaload F (ar_5_6 o9 hp_o9) dX3_nameField_76 ?_
  refine r_i2l F dX3_nameField_77 ?_
  refine r_lastore F (ar_0_4 o3 hp_o3) dX3_nameField_78 fun h10 => ?_
  refine r_aload_n F 0 rfl dX3_nameField_79 rfl ?_
  refine r_bipush F (v := 6) dX3_nameField_80 (by decide) ?_
  refine r_aload_n F 2 rfl dX3_nameField_82 rfl ?_
  refine r_getO F frX3_44 h_o dX3_nameField_83 fun o11 hp_o11 => ?_
  refine r_getA F frX3_187 hp_o11 dX3_nameField_86 ?_
  refine r_iload_n F 3 rfl dX3_nameField_89 rfl ?_
  refine r_iaload F (ar_5_7 o11 hp_o11) dX3_nameField_90 ?_
  refine r_i2l F dX3_nameField_91 ?_
  refine r_lastore F (ar_0_4 o3 hp_o3) dX3_nameField_92 fun h12 => ?_
  exact r_vret F hA rfl rfl trivial dX3_nameField_93
theorem c_X3_nameField (G : Gx) (l : Launch) (h : Hp) (o : Nat) (h_o : o < cnt 3) (p1 : Int32) : Ctr G l yX3_nameField (.code yX3_nameField cX3_nameField 4 none :: GT) rmX3_nameField [.ref (adr G 3 o 0), .int p1] h (f_X3_nameField h o p1) (fun _ => none) (fun v => v) (fun _ => True) :=
  ctr_of (by decide) (Nat.le_of_ble_eq_true rfl) ⟨rfl, rfl⟩ fun X _ e2 hA hL F => by subst e2; exact w_X3_nameField X F hA hL h o h_o p1
def f_X3_putWithin (p0 : Int64) (p2 : Int32) : Option Int32 :=
  jn (fun (v1 : Int64) =>
    some (v1).toInt32) fun (j23 : Int64 → Option Int32) =>
  if 0 ≤ (lg_cmp p0 (0 : Int64)) then
    if (lg_cmp p0 (p2).toInt64) ≤ 0 then
      j23 p0
    else
    j23 ((p2).toInt64)
  else
  j23 ((0 : Int64))
abbrev rmX3_putWithin : Room := { frames := 0, cells := 0, slots := 0, locals := 0 }
set_option maxRecDepth 100000 in
set_option maxHeartbeats 4000000 in
theorem w_X3_putWithin (X : Cx) (F : Fx X cX3_putWithin RX3 (some .int) rmX3_putWithin) (hA : xA X = Aw (xG X)) (hL : xL X = 3) (h : Hp) (p0 : Int64) (p2 : Int32) : Wm X (fun v => some (.int v)) (fun _ => h) (fun _ => True) 0 [(0, .long p0), (2, .int p2)] [] h (f_X3_putWithin p0 p2) := by
  have hS : ∀ i : Nat, i < 3 → i < xL X := fun i z => by rw [hL]; exact z
  unfold f_X3_putWithin
  refine r_lload_n F 0 rfl dX3_putWithin_0 rfl ?_
  refine r_lconst F (v := 0) dX3_putWithin_1 (by decide) ?_
  refine r_lcmp F dX3_putWithin_2 ?_
  refine Wt_jn (fun (j23 : Int64 → Option Int32) => ∀ v1 : Int64, Wm X (fun v => some (.int v)) (fun _ => h) (fun _ => True) 23 [] [.long v1] h (j23 v1)) ?_ fun j23 hj23 => ?_
  · intro v1
    refine r_l2i F dX3_putWithin_23 ?_
    exact r_iret F hA rfl rfl trivial dX3_putWithin_24
  refine r_ifge F (tgt := 10) dX3_putWithin_3 (by decide) ?_ ?_
  · skip
    refine r_lload_n F 0 rfl dX3_putWithin_10 rfl ?_
    refine r_iload_n F 1 rfl dX3_putWithin_11 rfl ?_
    refine r_i2l F dX3_putWithin_12 ?_
    refine r_lcmp F dX3_putWithin_13 ?_
    refine r_ifle F (tgt := 22) dX3_putWithin_14 (by decide) ?_ ?_
    · skip
      refine r_lload_n F 0 rfl dX3_putWithin_22 rfl ?_
      exact Wt_pick [] rfl (hj23 p0)
    refine r_iload_n F 1 rfl dX3_putWithin_17 rfl ?_
    refine r_i2l F dX3_putWithin_18 ?_
    refine r_goto F (tgt := 23) dX3_putWithin_19 (by decide) ?_
    exact Wt_pick [] rfl (hj23 ((p2).toInt64))
  refine r_lconst F (v := 0) dX3_putWithin_6 (by decide) ?_
  refine r_goto F (tgt := 23) dX3_putWithin_7 (by decide) ?_
  exact Wt_pick [] rfl (hj23 ((0 : Int64)))
theorem c_X3_putWithin (G : Gx) (l : Launch) (h : Hp) (p0 : Int64) (p2 : Int32) : Ctr G l yX3_putWithin (.code yX3_putWithin cX3_putWithin 3 (some .int) :: GT) rmX3_putWithin [.long p0, .int p2] h (f_X3_putWithin p0 p2) (fun v => some (.int v)) (fun _ => h) (fun _ => True) :=
  ctr_of (by decide) (Nat.le_of_ble_eq_true rfl) ⟨rfl, rfl⟩ fun X _ e2 hA hL F => by subst e2; exact w_X3_putWithin X F hA hL h p0 p2
def f_X3_worthOf (N : Nat) (h : Hp) (o : Nat) (p1 : Int32) : Option (Int32 × Hp) :=
  (f_X3_nameField h o p1).bind fun h1 =>
  onO (gO h1 3 o 10) fun o2 =>
  bd2 (f_X0_value N h1 o2 3) fun v4 h3 =>
  jn (fun (v5 : Int64) =>
    (f_X3_putWithin v5 99).bind fun v6 =>
    some (v6, h3)) fun (j46 : Int64 → Option (Int32 × Hp)) =>
  if ¬ (lg_cmp v4 (-9223372036854775808 : Int64)) = 0 then
    j46 v4
  else
  onO (gO h3 3 o 10) fun o7 =>
  grd (inb p1 6) <|
  grd (inb p1 6) <|
  j46 ((((gA h3 5 o7 6 p1.toNatClampNeg) - (gA h3 3 o 9 p1.toNatClampNeg))).toInt64)
abbrev rmX3_worthOf : Room := { frames := 2, cells := 0, slots := 0, locals := 54 }
set_option maxRecDepth 100000 in
set_option maxHeartbeats 4000000 in
theorem w_X3_worthOf (X : Cx) (F : Fx X cX3_worthOf RX3 (some .int) rmX3_worthOf) (hA : xA X = Aw (xG X)) (hL : xL X = 4) (N : Nat) (h : Hp) (o : Nat) (h_o : o < cnt 3) (p1 : Int32) : Wm X (fun v => some (.int v.1)) (fun v => v.2) (fun _ => True) 0 [(0, .ref (adr (xG X) 3 o 0)), (1, .int p1)] [] h (f_X3_worthOf N h o p1) := by
  have hS : ∀ i : Nat, i < 4 → i < xL X := fun i z => by rw [hL]; exact z
  unfold f_X3_worthOf
  refine r_aload_n F 0 rfl dX3_worthOf_0 rfl ?_
  refine r_iload_n F 1 rfl dX3_worthOf_1 rfl ?_
  refine k_vH (run_V F cvX3_177 h_o (c_X3_nameField (xG X) _ h o h_o p1) rfl rfl ⟨⟨rfl, rfl⟩, Nat.le_of_ble_eq_true rfl, Nat.le_of_ble_eq_true rfl⟩ (Nat.le_of_ble_eq_true rfl) dX3_worthOf_2) fun h1 => ?_
  refine r_aload_n F 0 rfl dX3_worthOf_5 rfl ?_
  refine r_getO F frX3_44 h_o dX3_worthOf_6 fun o2 hp_o2 => ?_
  refine r_getS F frX3_161 hp_o2 o2 rfl dX3_worthOf_9 ?_
  refine r_iconst F (v := 3) dX3_worthOf_12 (by decide) ?_
  refine k_lH (run_V F cvX3_165 hp_o2 (c_X0_value (xG X) _ N h1 o2 hp_o2 3) rfl rfl ⟨⟨rfl, rfl⟩, Nat.le_of_ble_eq_true rfl, Nat.le_of_ble_eq_true rfl⟩ (Nat.le_of_ble_eq_true rfl) dX3_worthOf_13) fun v4 h3 => ?_
  refine r_lstore_n F [(2, .long v4), (0, .ref (adr (xG X) 3 o 0)), (1, .int p1)] rfl dX3_worthOf_16 rfl (hS _ (by decide)) ?_
  refine r_lload_n F 0 rfl dX3_worthOf_17 rfl ?_
  refine r_ldc2 F wd_670 dX3_worthOf_18 ?_
  refine r_lcmp F dX3_worthOf_21 ?_
  refine Wt_jn (fun (j46 : Int64 → Option (Int32 × Hp)) => ∀ v5 : Int64, Wm X (fun v => some (.int v.1)) (fun v => v.2) (fun _ => True) 46 [] [.long v5] h3 (j46 v5)) ?_ fun j46 hj46 => ?_
  · intro v5
    refine r_bipush F (v := 99) dX3_worthOf_46 (by decide) ?_
    refine k_iP (run_S F csX3_173 (c_X3_putWithin (xG X) _ h3 v5 99) rfl rfl ⟨⟨rfl, rfl⟩, Nat.le_of_ble_eq_true rfl, Nat.le_of_ble_eq_true rfl⟩ (Nat.le_of_ble_eq_true rfl) dX3_worthOf_48) fun v6 _ => ?_
    exact r_iret F hA rfl rfl trivial dX3_worthOf_51
  refine r_ifne F (tgt := 45) dX3_worthOf_22 (by decide) ?_ ?_
  · skip
    refine r_lload_n F 0 rfl dX3_worthOf_45 rfl ?_
    exact Wt_pick [] rfl (hj46 v4)
  refine r_aload_n F 1 rfl dX3_worthOf_25 rfl ?_
  refine r_getO F frX3_44 h_o dX3_worthOf_26 fun o7 hp_o7 => ?_
  refine r_getA F frX3_180 hp_o7 dX3_worthOf_29 ?_
  refine r_iload_n F 2 rfl dX3_worthOf_32 rfl ?_
  refine r_iaload F (ar_5_6 o7 hp_o7) dX3_worthOf_33 ?_
  refine r_aload_n F 1 rfl dX3_worthOf_34 rfl ?_
  refine r_getA F frX3_41 h_o dX3_worthOf_35 ?_
  refine r_iload_n F 2 rfl dX3_worthOf_38 rfl ?_
  refine r_iaload F (ar_3_9 o h_o) dX3_worthOf_39 ?_
  refine r_isub F dX3_worthOf_40 ?_
  refine r_i2l F dX3_worthOf_41 ?_
  refine r_goto F (tgt := 46) dX3_worthOf_42 (by decide) ?_
  exact Wt_pick [] rfl (hj46 ((((gA h3 5 o7 6 p1.toNatClampNeg) - (gA h3 3 o 9 p1.toNatClampNeg))).toInt64))
theorem c_X3_worthOf (G : Gx) (l : Launch) (N : Nat) (h : Hp) (o : Nat) (h_o : o < cnt 3) (p1 : Int32) : Ctr G l yX3_worthOf (.code yX3_worthOf cX3_worthOf 4 (some .int) :: GT) rmX3_worthOf [.ref (adr G 3 o 0), .int p1] h (f_X3_worthOf N h o p1) (fun v => some (.int v.1)) (fun v => v.2) (fun _ => True) :=
  ctr_of (by decide) (Nat.le_of_ble_eq_true rfl) ⟨rfl, rfl⟩ fun X _ e2 hA hL F => by subst e2; exact w_X3_worthOf X F hA hL N h o h_o p1
def f_X3_namePlace (h : Hp) (o : Nat) (p1 : Int32) (p2 : Int32) : Option Hp :=
  onO (gO h 3 o 10) fun o1 =>
  grd (inb 0 7) <| lt_ (sB h 0 o1 4 (0 : Int32).toNatClampNeg (p1).toInt64) fun h2 =>
  jn (fun (v3 : Int64) =>
    grd (inb 1 7) <| lt_ (sB h2 0 o1 4 (1 : Int32).toNatClampNeg v3) fun h4 =>
    jn (fun (v5 : Int64) =>
      grd (inb 2 7) <| lt_ (sB h4 0 o1 4 (2 : Int32).toNatClampNeg v5) fun h6 =>
      grd (inb 3 7) <| lt_ (sB h6 0 o1 4 (3 : Int32).toNatClampNeg (((gI h6 3 o 11) - (gI h6 3 o 11) / 24 * 24)).toInt64) fun h7 =>
      grd (inb 4 7) <| lt_ (sB h7 0 o1 4 (4 : Int32).toNatClampNeg (0 : Int64)) fun h8 =>
      grd (inb 5 7) <| lt_ (sB h8 0 o1 4 (5 : Int32).toNatClampNeg (0 : Int64)) fun h9 =>
      grd (inb 6 7) <| lt_ (sB h9 0 o1 4 (6 : Int32).toNatClampNeg (0 : Int64)) fun h10 =>
      some h10) fun (j53 : Int64 → Option Hp) =>
    if ¬ p2 = (-1) then
      grd (inb p2 4) <|
      j53 (((gA h4 3 o 3 p2.toNatClampNeg)).toInt64)
    else
    j53 ((0 : Int64))) fun (j34 : Int64 → Option Hp) =>
  if ¬ p2 = (-1) then
    grd (inb p2 4) <|
    j34 (((gA h2 3 o 2 p2.toNatClampNeg)).toInt64)
  else
  j34 ((0 : Int64))
abbrev rmX3_namePlace : Room := { frames := 0, cells := 0, slots := 0, locals := 0 }
set_option maxRecDepth 100000 in
set_option maxHeartbeats 4000000 in
theorem w_X3_namePlace (X : Cx) (F : Fx X cX3_namePlace RX3 none rmX3_namePlace) (hA : xA X = Aw (xG X)) (hL : xL X = 4) (h : Hp) (o : Nat) (h_o : o < cnt 3) (p1 : Int32) (p2 : Int32) : Wm X (fun _ => none) (fun v => v) (fun _ => True) 0 [(0, .ref (adr (xG X) 3 o 0)), (1, .int p1), (2, .int p2)] [] h (f_X3_namePlace h o p1 p2) := by
  have hS : ∀ i : Nat, i < 4 → i < xL X := fun i z => by rw [hL]; exact z
  unfold f_X3_namePlace
  refine r_aload_n F 0 rfl dX3_namePlace_0 rfl ?_
  refine r_getO F frX3_44 h_o dX3_namePlace_1 fun o1 hp_o1 => ?_
  refine r_getS F frX3_161 hp_o1 o1 rfl dX3_namePlace_4 ?_
  refine r_getA F frX3_183 hp_o1 dX3_namePlace_7 ?_
  refine r_astore_n F [(3, .ref (adr (xG X) 0 o1 5)), (0, .ref (adr (xG X) 3 o 0)), (1, .int p1), (2, .int p2)] rfl dX3_namePlace_10 rfl (hS _ (by decide)) ?_
  refine r_aload_n F 0 rfl dX3_namePlace_11 rfl ?_
  refine r_iconst F (v := 0) dX3_namePlace_12 (by decide) ?_
  refine r_iload_n F 2 rfl dX3_namePlace_13 rfl ?_
  refine r_i2l F dX3_namePlace_14 ?_
  refine r_lastore F (ar_0_4 o1 hp_o1) dX3_namePlace_15 fun h2 => ?_
  refine r_aload_n F 0 rfl dX3_namePlace_16 rfl ?_
  refine r_iconst F (v := 1) dX3_namePlace_17 (by decide) ?_
  refine r_iload_n F 3 rfl dX3_namePlace_18 rfl ?_
  refine r_iconst F (v := (-1)) dX3_namePlace_19 (by decide) ?_
  refine Wt_jn (fun (j34 : Int64 → Option Hp) => ∀ v3 : Int64, Wm X (fun _ => none) (fun v => v) (fun _ => True) 34 [(0, .ref (adr (xG X) 3 o 0)), (2, .int p2), (3, .ref (adr (xG X) 0 o1 5))] [.long v3, .int 1, .ref (adr (xG X) 0 o1 5)] h2 (j34 v3)) ?_ fun j34 hj34 => ?_
  · intro v3
    refine r_lastore F (ar_0_4 o1 hp_o1) dX3_namePlace_34 fun h4 => ?_
    refine r_aload_n F 2 rfl dX3_namePlace_35 rfl ?_
    refine r_iconst F (v := 2) dX3_namePlace_36 (by decide) ?_
    refine r_iload_n F 1 rfl dX3_namePlace_37 rfl ?_
    refine r_iconst F (v := (-1)) dX3_namePlace_38 (by decide) ?_
    refine Wt_jn (fun (j53 : Int64 → Option Hp) => ∀ v5 : Int64, Wm X (fun _ => none) (fun v => v) (fun _ => True) 53 [(0, .ref (adr (xG X) 3 o 0)), (3, .ref (adr (xG X) 0 o1 5))] [.long v5, .int 2, .ref (adr (xG X) 0 o1 5)] h4 (j53 v5)) ?_ fun j53 hj53 => ?_
    · intro v5
      refine r_lastore F (ar_0_4 o1 hp_o1) dX3_namePlace_53 fun h6 => ?_
      refine r_aload_n F 1 rfl dX3_namePlace_54 rfl ?_
      refine r_iconst F (v := 3) dX3_namePlace_55 (by decide) ?_
      refine r_aload_n F 0 rfl dX3_namePlace_56 rfl ?_
      refine r_getI F frX3_52 h_o dX3_namePlace_57 ?_
      refine r_bipush F (v := 24) dX3_namePlace_60 (by decide) ?_
      refine r_iremc F (by decide) dX3_namePlace_62 ?_
      refine r_i2l F dX3_namePlace_63 ?_
      refine r_lastore F (ar_0_4 o1 hp_o1) dX3_namePlace_64 fun h7 => ?_
      refine r_aload_n F 1 rfl dX3_namePlace_65 rfl ?_
      refine r_iconst F (v := 4) dX3_namePlace_66 (by decide) ?_
      refine r_lconst F (v := 0) dX3_namePlace_67 (by decide) ?_
      refine r_lastore F (ar_0_4 o1 hp_o1) dX3_namePlace_68 fun h8 => ?_
      refine r_aload_n F 1 rfl dX3_namePlace_69 rfl ?_
      refine r_iconst F (v := 5) dX3_namePlace_70 (by decide) ?_
      refine r_lconst F (v := 0) dX3_namePlace_71 (by decide) ?_
      refine r_lastore F (ar_0_4 o1 hp_o1) dX3_namePlace_72 fun h9 => ?_
      refine r_aload_n F 1 rfl dX3_namePlace_73 rfl ?_
      refine r_bipush F (v := 6) dX3_namePlace_74 (by decide) ?_
      refine r_lconst F (v := 0) dX3_namePlace_76 (by decide) ?_
      refine r_lastore F (ar_0_4 o1 hp_o1) dX3_namePlace_77 fun h10 => ?_
      exact r_vret F hA rfl rfl trivial dX3_namePlace_78
    refine r_icmpne F (tgt := 46) dX3_namePlace_39 (by decide) ?_ ?_
    · skip
      refine r_aload_n F 0 rfl dX3_namePlace_46 rfl ?_
      refine r_getA F frX3_23 h_o dX3_namePlace_47 ?_
      refine r_iload_n F 1 rfl dX3_namePlace_50 rfl ?_
      refine r_iaload F (ar_3_3 o h_o) dX3_namePlace_51 ?_
      refine r_i2l F dX3_namePlace_52 ?_
      exact Wt_pick [0, 2] rfl (hj53 (((gA h4 3 o 3 p2.toNatClampNeg)).toInt64))
    refine r_lconst F (v := 0) dX3_namePlace_42 (by decide) ?_
    refine r_goto F (tgt := 53) dX3_namePlace_43 (by decide) ?_
    exact Wt_pick [0, 2] rfl (hj53 ((0 : Int64)))
  refine r_icmpne F (tgt := 27) dX3_namePlace_20 (by decide) ?_ ?_
  · skip
    refine r_aload_n F 1 rfl dX3_namePlace_27 rfl ?_
    refine r_getA F frX3_20 h_o dX3_namePlace_28 ?_
    refine r_iload_n F 3 rfl dX3_namePlace_31 rfl ?_
    refine r_iaload F (ar_3_2 o h_o) dX3_namePlace_32 ?_
    refine r_i2l F dX3_namePlace_33 ?_
    exact Wt_pick [1, 3, 0] rfl (hj34 (((gA h2 3 o 2 p2.toNatClampNeg)).toInt64))
  refine r_lconst F (v := 0) dX3_namePlace_23 (by decide) ?_
  refine r_goto F (tgt := 34) dX3_namePlace_24 (by decide) ?_
  exact Wt_pick [1, 3, 0] rfl (hj34 ((0 : Int64)))
theorem c_X3_namePlace (G : Gx) (l : Launch) (h : Hp) (o : Nat) (h_o : o < cnt 3) (p1 : Int32) (p2 : Int32) : Ctr G l yX3_namePlace (.code yX3_namePlace cX3_namePlace 4 none :: GT) rmX3_namePlace [.ref (adr G 3 o 0), .int p1, .int p2] h (f_X3_namePlace h o p1 p2) (fun _ => none) (fun v => v) (fun _ => True) :=
  ctr_of (by decide) (Nat.le_of_ble_eq_true rfl) ⟨rfl, rfl⟩ fun X _ e2 hA hL F => by subst e2; exact w_X3_namePlace X F hA hL h o h_o p1 p2
def f_X3_loadOf (N : Nat) (h : Hp) (o : Nat) (p1 : Int32) (p2 : Int32) : Option (Int32 × Hp) :=
  (f_X3_namePlace h o p2 p1).bind fun h1 =>
  onO (gO h1 3 o 10) fun o2 =>
  bd2 (f_X0_value N h1 o2 0) fun v4 h3 =>
  jn (fun (v5 : Int64) =>
    (f_X3_putWithin v5 99).bind fun v6 =>
    some ((if p2 < v6 then p2 else v6), h3)) fun (j43 : Int64 → Option (Int32 × Hp)) =>
  if ¬ (lg_cmp v4 (-9223372036854775808 : Int64)) = 0 then
    j43 v4
  else
  grd (inb p1 4) <|
  grd (inb p1 4) <|
  lt_ ((((5 * (gA h3 3 o 2 p1.toNatClampNeg)) - (gA h3 3 o 3 p1.toNatClampNeg))).toInt64) fun v7 =>
  j43 v7
abbrev rmX3_loadOf : Room := { frames := 2, cells := 0, slots := 0, locals := 54 }
set_option maxRecDepth 100000 in
set_option maxHeartbeats 4000000 in
theorem w_X3_loadOf (X : Cx) (F : Fx X cX3_loadOf RX3 (some .int) rmX3_loadOf) (hA : xA X = Aw (xG X)) (hL : xL X = 5) (N : Nat) (h : Hp) (o : Nat) (h_o : o < cnt 3) (p1 : Int32) (p2 : Int32) : Wm X (fun v => some (.int v.1)) (fun v => v.2) (fun _ => True) 0 [(0, .ref (adr (xG X) 3 o 0)), (1, .int p1), (2, .int p2)] [] h (f_X3_loadOf N h o p1 p2) := by
  have hS : ∀ i : Nat, i < 5 → i < xL X := fun i z => by rw [hL]; exact z
  unfold f_X3_loadOf
  refine r_aload_n F 0 rfl dX3_loadOf_0 rfl ?_
  refine r_iload_n F 2 rfl dX3_loadOf_1 rfl ?_
  refine r_iload_n F 1 rfl dX3_loadOf_2 rfl ?_
  refine k_vH (run_V F cvX3_157 h_o (c_X3_namePlace (xG X) _ h o h_o p2 p1) rfl rfl ⟨⟨rfl, rfl⟩, Nat.le_of_ble_eq_true rfl, Nat.le_of_ble_eq_true rfl⟩ (Nat.le_of_ble_eq_true rfl) dX3_loadOf_3) fun h1 => ?_
  refine r_aload_n F 0 rfl dX3_loadOf_6 rfl ?_
  refine r_getO F frX3_44 h_o dX3_loadOf_7 fun o2 hp_o2 => ?_
  refine r_getS F frX3_161 hp_o2 o2 rfl dX3_loadOf_10 ?_
  refine r_iconst F (v := 0) dX3_loadOf_13 (by decide) ?_
  refine k_lH (run_V F cvX3_165 hp_o2 (c_X0_value (xG X) _ N h1 o2 hp_o2 0) rfl rfl ⟨⟨rfl, rfl⟩, Nat.le_of_ble_eq_true rfl, Nat.le_of_ble_eq_true rfl⟩ (Nat.le_of_ble_eq_true rfl) dX3_loadOf_14) fun v4 h3 => ?_
  refine r_lstore_n F [(3, .long v4), (0, .ref (adr (xG X) 3 o 0)), (1, .int p1), (2, .int p2)] rfl dX3_loadOf_17 rfl (hS _ (by decide)) ?_
  refine r_lload_n F 0 rfl dX3_loadOf_18 rfl ?_
  refine r_ldc2 F wd_670 dX3_loadOf_19 ?_
  refine r_lcmp F dX3_loadOf_22 ?_
  refine Wt_jn (fun (j43 : Int64 → Option (Int32 × Hp)) => ∀ v5 : Int64, Wm X (fun v => some (.int v.1)) (fun v => v.2) (fun _ => True) 43 [(2, .int p2), (3, .long v5)] [] h3 (j43 v5)) ?_ fun j43 hj43 => ?_
  · intro v5
    refine r_lload_n F 1 rfl dX3_loadOf_43 rfl ?_
    refine r_bipush F (v := 99) dX3_loadOf_44 (by decide) ?_
    refine k_iP (run_S F csX3_173 (c_X3_putWithin (xG X) _ h3 v5 99) rfl rfl ⟨⟨rfl, rfl⟩, Nat.le_of_ble_eq_true rfl, Nat.le_of_ble_eq_true rfl⟩ (Nat.le_of_ble_eq_true rfl) dX3_loadOf_46) fun v6 _ => ?_
    refine r_iload_n F 0 rfl dX3_loadOf_49 rfl ?_
    refine r_min F wd_736 ws_min ⟨Nat.le_of_ble_eq_true rfl, Nat.le_of_ble_eq_true rfl⟩ dX3_loadOf_50 ?_
    exact r_iret F hA rfl rfl trivial dX3_loadOf_53
  refine r_ifne F (tgt := 43) dX3_loadOf_23 (by decide) ?_ ?_
  · skip
    exact Wt_pick [3, 0] rfl (hj43 v4)
  refine r_iconst F (v := 5) dX3_loadOf_26 (by decide) ?_
  refine r_aload_n F 1 rfl dX3_loadOf_27 rfl ?_
  refine r_getA F frX3_20 h_o dX3_loadOf_28 ?_
  refine r_iload_n F 2 rfl dX3_loadOf_31 rfl ?_
  refine r_iaload F (ar_3_2 o h_o) dX3_loadOf_32 ?_
  refine r_imul F dX3_loadOf_33 ?_
  refine r_aload_n F 1 rfl dX3_loadOf_34 rfl ?_
  refine r_getA F frX3_23 h_o dX3_loadOf_35 ?_
  refine r_iload_n F 2 rfl dX3_loadOf_38 rfl ?_
  refine r_iaload F (ar_3_3 o h_o) dX3_loadOf_39 ?_
  refine r_isub F dX3_loadOf_40 ?_
  refine r_i2l F dX3_loadOf_41 ?_
  refine r_nmJ fun v7 => ?_
  refine r_lstore_n F [(3, .long v7), (0, .ref (adr (xG X) 3 o 0)), (1, .int p1), (2, .int p2)] rfl dX3_loadOf_42 rfl (hS _ (by decide)) ?_
  exact Wt_pick [3, 0] rfl (hj43 v7)
theorem c_X3_loadOf (G : Gx) (l : Launch) (N : Nat) (h : Hp) (o : Nat) (h_o : o < cnt 3) (p1 : Int32) (p2 : Int32) : Ctr G l yX3_loadOf (.code yX3_loadOf cX3_loadOf 5 (some .int) :: GT) rmX3_loadOf [.ref (adr G 3 o 0), .int p1, .int p2] h (f_X3_loadOf N h o p1 p2) (fun v => some (.int v.1)) (fun v => v.2) (fun _ => True) :=
  ctr_of (by decide) (Nat.le_of_ble_eq_true rfl) ⟨rfl, rfl⟩ fun X _ e2 hA hL F => by subst e2; exact w_X3_loadOf X F hA hL N h o h_o p1 p2
