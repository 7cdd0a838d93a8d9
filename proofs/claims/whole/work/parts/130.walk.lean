theorem dX8_take_0 : decode cX8_take 0 = .ok (.iconst 0, 1) := by decide +kernel
theorem dX8_take_1 : decode cX8_take 1 = .ok (.istore_n 3, 1) := by decide +kernel
theorem dX8_take_2 : decode cX8_take 2 = .ok (.iload_n 3, 1) := by decide +kernel
theorem dX8_take_3 : decode cX8_take 3 = .ok (.iconst 4, 1) := by decide +kernel
theorem dX8_take_4 : decode cX8_take 4 = .ok (.if_icmp .ge 33, 3) := by decide +kernel
theorem dX8_take_7 : decode cX8_take 7 = .ok (.aload_n 0, 1) := by decide +kernel
theorem dX8_take_8 : decode cX8_take 8 = .ok (.getfield 97, 3) := by decide +kernel
theorem dX8_take_11 : decode cX8_take 11 = .ok (.iload_n 3, 1) := by decide +kernel
theorem dX8_take_12 : decode cX8_take 12 = .ok (.aload_n 1, 1) := by decide +kernel
theorem dX8_take_13 : decode cX8_take 13 = .ok (.iload_n 2, 1) := by decide +kernel
theorem dX8_take_14 : decode cX8_take 14 = .ok (.iload_n 3, 1) := by decide +kernel
theorem dX8_take_15 : decode cX8_take 15 = .ok (.iadd, 1) := by decide +kernel
theorem dX8_take_16 : decode cX8_take 16 = .ok (.iaload, 1) := by decide +kernel
theorem dX8_take_17 : decode cX8_take 17 = .ok (.iastore, 1) := by decide +kernel
theorem dX8_take_18 : decode cX8_take 18 = .ok (.aload_n 0, 1) := by decide +kernel
theorem dX8_take_19 : decode cX8_take 19 = .ok (.getfield 91, 3) := by decide +kernel
theorem dX8_take_22 : decode cX8_take 22 = .ok (.iload_n 3, 1) := by decide +kernel
theorem dX8_take_23 : decode cX8_take 23 = .ok (.aload_n 1, 1) := by decide +kernel
theorem dX8_take_24 : decode cX8_take 24 = .ok (.iload_n 2, 1) := by decide +kernel
theorem dX8_take_25 : decode cX8_take 25 = .ok (.iconst 4, 1) := by decide +kernel
theorem dX8_take_26 : decode cX8_take 26 = .ok (.iadd, 1) := by decide +kernel
theorem dX8_take_27 : decode cX8_take 27 = .ok (.iload_n 3, 1) := by decide +kernel
theorem dX8_take_28 : decode cX8_take 28 = .ok (.iadd, 1) := by decide +kernel
theorem dX8_take_29 : decode cX8_take 29 = .ok (.iaload, 1) := by decide +kernel
theorem dX8_take_30 : decode cX8_take 30 = .ok (.iastore, 1) := by decide +kernel
theorem dX8_take_31 : decode cX8_take 31 = .ok (.iinc 3 1, 3) := by decide +kernel
theorem dX8_take_34 : decode cX8_take 34 = .ok (.goto (-32), 3) := by decide +kernel
theorem dX8_take_37 : decode cX8_take 37 = .ok (.iconst 0, 1) := by decide +kernel
theorem dX8_take_38 : decode cX8_take 38 = .ok (.istore_n 3, 1) := by decide +kernel
theorem dX8_take_39 : decode cX8_take 39 = .ok (.iload_n 3, 1) := by decide +kernel
theorem dX8_take_40 : decode cX8_take 40 = .ok (.bipush 8, 2) := by decide +kernel
theorem dX8_take_42 : decode cX8_take 42 = .ok (.if_icmp .ge 23, 3) := by decide +kernel
theorem dX8_take_45 : decode cX8_take 45 = .ok (.aload_n 0, 1) := by decide +kernel
theorem dX8_take_46 : decode cX8_take 46 = .ok (.getfield 88, 3) := by decide +kernel
theorem dX8_take_49 : decode cX8_take 49 = .ok (.iload_n 3, 1) := by decide +kernel
theorem dX8_take_50 : decode cX8_take 50 = .ok (.aload_n 1, 1) := by decide +kernel
theorem dX8_take_51 : decode cX8_take 51 = .ok (.iload_n 2, 1) := by decide +kernel
theorem dX8_take_52 : decode cX8_take 52 = .ok (.bipush 8, 2) := by decide +kernel
theorem dX8_take_54 : decode cX8_take 54 = .ok (.iadd, 1) := by decide +kernel
theorem dX8_take_55 : decode cX8_take 55 = .ok (.iload_n 3, 1) := by decide +kernel
theorem dX8_take_56 : decode cX8_take 56 = .ok (.iadd, 1) := by decide +kernel
theorem dX8_take_57 : decode cX8_take 57 = .ok (.iaload, 1) := by decide +kernel
theorem dX8_take_58 : decode cX8_take 58 = .ok (.iastore, 1) := by decide +kernel
theorem dX8_take_59 : decode cX8_take 59 = .ok (.iinc 3 1, 3) := by decide +kernel
theorem dX8_take_62 : decode cX8_take 62 = .ok (.goto (-23), 3) := by decide +kernel
theorem dX8_take_65 : decode cX8_take 65 = .ok (.aload_n 0, 1) := by decide +kernel
theorem dX8_take_66 : decode cX8_take 66 = .ok (.aload_n 1, 1) := by decide +kernel
theorem dX8_take_67 : decode cX8_take 67 = .ok (.iload_n 2, 1) := by decide +kernel
theorem dX8_take_68 : decode cX8_take 68 = .ok (.bipush 16, 2) := by decide +kernel
theorem dX8_take_70 : decode cX8_take 70 = .ok (.iadd, 1) := by decide +kernel
theorem dX8_take_71 : decode cX8_take 71 = .ok (.iaload, 1) := by decide +kernel
theorem dX8_take_72 : decode cX8_take 72 = .ok (.putfield 363, 3) := by decide +kernel
theorem dX8_take_75 : decode cX8_take 75 = .ok (.return_, 1) := by decide +kernel
theorem dX8_undo_0 : decode cX8_undo 0 = .ok (.aload_n 0, 1) := by decide +kernel
theorem dX8_undo_1 : decode cX8_undo 1 = .ok (.iconst 0, 1) := by decide +kernel
theorem dX8_undo_2 : decode cX8_undo 2 = .ok (.putfield 163, 3) := by decide +kernel
theorem dX8_undo_5 : decode cX8_undo 5 = .ok (.aload_n 0, 1) := by decide +kernel
theorem dX8_undo_6 : decode cX8_undo 6 = .ok (.getfield 376, 3) := by decide +kernel
theorem dX8_undo_9 : decode cX8_undo 9 = .ok (.ifCond .ne 5, 3) := by decide +kernel
theorem dX8_undo_12 : decode cX8_undo 12 = .ok (.iconst (-1), 1) := by decide +kernel
theorem dX8_undo_13 : decode cX8_undo 13 = .ok (.ireturn, 1) := by decide +kernel
theorem dX8_undo_14 : decode cX8_undo 14 = .ok (.aload_n 0, 1) := by decide +kernel
theorem dX8_undo_15 : decode cX8_undo 15 = .ok (.dup, 1) := by decide +kernel
theorem dX8_undo_16 : decode cX8_undo 16 = .ok (.getfield 376, 3) := by decide +kernel
theorem dX8_undo_19 : decode cX8_undo 19 = .ok (.iconst 1, 1) := by decide +kernel
theorem dX8_undo_20 : decode cX8_undo 20 = .ok (.isub, 1) := by decide +kernel
theorem dX8_undo_21 : decode cX8_undo 21 = .ok (.putfield 376, 3) := by decide +kernel
theorem dX8_undo_24 : decode cX8_undo 24 = .ok (.aload_n 0, 1) := by decide +kernel
theorem dX8_undo_25 : decode cX8_undo 25 = .ok (.aload_n 0, 1) := by decide +kernel
theorem dX8_undo_26 : decode cX8_undo 26 = .ok (.getfield 139, 3) := by decide +kernel
theorem dX8_undo_29 : decode cX8_undo 29 = .ok (.bipush 17, 2) := by decide +kernel
theorem dX8_undo_31 : decode cX8_undo 31 = .ok (.aload_n 0, 1) := by decide +kernel
theorem dX8_undo_32 : decode cX8_undo 32 = .ok (.getfield 376, 3) := by decide +kernel
theorem dX8_undo_35 : decode cX8_undo 35 = .ok (.imul, 1) := by decide +kernel
theorem dX8_undo_36 : decode cX8_undo 36 = .ok (.invokevirtual 550, 3) := by decide +kernel
theorem dX8_undo_39 : decode cX8_undo 39 = .ok (.aload_n 0, 1) := by decide +kernel
theorem dX8_undo_40 : decode cX8_undo 40 = .ok (.getfield 376, 3) := by decide +kernel
theorem dX8_undo_43 : decode cX8_undo 43 = .ok (.ireturn, 1) := by decide +kernel
theorem dX8_keep_0 : decode cX8_keep 0 = .ok (.aload_n 0, 1) := by decide +kernel
theorem dX8_keep_1 : decode cX8_keep 1 = .ok (.iconst 0, 1) := by decide +kernel
theorem dX8_keep_2 : decode cX8_keep 2 = .ok (.putfield 163, 3) := by decide +kernel
theorem dX8_keep_5 : decode cX8_keep 5 = .ok (.aload_n 0, 1) := by decide +kernel
theorem dX8_keep_6 : decode cX8_keep 6 = .ok (.iconst 1, 1) := by decide +kernel
theorem dX8_keep_7 : decode cX8_keep 7 = .ok (.putfield 379, 3) := by decide +kernel
theorem dX8_keep_10 : decode cX8_keep 10 = .ok (.aload_n 0, 1) := by decide +kernel
theorem dX8_keep_11 : decode cX8_keep 11 = .ok (.aload_n 0, 1) := by decide +kernel
theorem dX8_keep_12 : decode cX8_keep 12 = .ok (.getfield 142, 3) := by decide +kernel
theorem dX8_keep_15 : decode cX8_keep 15 = .ok (.iconst 0, 1) := by decide +kernel
theorem dX8_keep_16 : decode cX8_keep 16 = .ok (.invokevirtual 547, 3) := by decide +kernel
theorem dX8_keep_19 : decode cX8_keep 19 = .ok (.iconst 0, 1) := by decide +kernel
theorem dX8_keep_20 : decode cX8_keep 20 = .ok (.istore_n 1, 1) := by decide +kernel
theorem dX8_keep_21 : decode cX8_keep 21 = .ok (.iload_n 1, 1) := by decide +kernel
theorem dX8_keep_22 : decode cX8_keep 22 = .ok (.bipush 8, 2) := by decide +kernel
theorem dX8_keep_24 : decode cX8_keep 24 = .ok (.if_icmp .ge 21, 3) := by decide +kernel
theorem dX8_keep_27 : decode cX8_keep 27 = .ok (.aload_n 0, 1) := by decide +kernel
theorem dX8_keep_28 : decode cX8_keep 28 = .ok (.getfield 145, 3) := by decide +kernel
theorem dX8_keep_31 : decode cX8_keep 31 = .ok (.iload_n 1, 1) := by decide +kernel
theorem dX8_keep_32 : decode cX8_keep 32 = .ok (.aload_n 0, 1) := by decide +kernel
theorem dX8_keep_33 : decode cX8_keep 33 = .ok (.getfield 85, 3) := by decide +kernel
theorem dX8_keep_36 : decode cX8_keep 36 = .ok (.iload_n 1, 1) := by decide +kernel
theorem dX8_keep_37 : decode cX8_keep 37 = .ok (.iaload, 1) := by decide +kernel
theorem dX8_keep_38 : decode cX8_keep 38 = .ok (.iastore, 1) := by decide +kernel
theorem dX8_keep_39 : decode cX8_keep 39 = .ok (.iinc 1 1, 3) := by decide +kernel
theorem dX8_keep_42 : decode cX8_keep 42 = .ok (.goto (-21), 3) := by decide +kernel
theorem dX8_keep_45 : decode cX8_keep 45 = .ok (.iconst 0, 1) := by decide +kernel
theorem dX8_keep_46 : decode cX8_keep 46 = .ok (.istore_n 1, 1) := by decide +kernel
theorem dX8_keep_47 : decode cX8_keep 47 = .ok (.iload_n 1, 1) := by decide +kernel
theorem dX8_keep_48 : decode cX8_keep 48 = .ok (.iconst 4, 1) := by decide +kernel
theorem dX8_keep_49 : decode cX8_keep 49 = .ok (.if_icmp .ge 33, 3) := by decide +kernel
theorem dX8_keep_52 : decode cX8_keep 52 = .ok (.aload_n 0, 1) := by decide +kernel
theorem dX8_keep_53 : decode cX8_keep 53 = .ok (.getfield 148, 3) := by decide +kernel
theorem dX8_keep_56 : decode cX8_keep 56 = .ok (.iload_n 1, 1) := by decide +kernel
theorem dX8_keep_57 : decode cX8_keep 57 = .ok (.aload_n 0, 1) := by decide +kernel
theorem dX8_keep_58 : decode cX8_keep 58 = .ok (.getfield 100, 3) := by decide +kernel
theorem dX8_keep_61 : decode cX8_keep 61 = .ok (.iload_n 1, 1) := by decide +kernel
theorem dX8_keep_62 : decode cX8_keep 62 = .ok (.iaload, 1) := by decide +kernel
theorem dX8_keep_63 : decode cX8_keep 63 = .ok (.iastore, 1) := by decide +kernel
theorem dX8_keep_64 : decode cX8_keep 64 = .ok (.aload_n 0, 1) := by decide +kernel
theorem dX8_keep_65 : decode cX8_keep 65 = .ok (.getfield 151, 3) := by decide +kernel
theorem dX8_keep_68 : decode cX8_keep 68 = .ok (.iload_n 1, 1) := by decide +kernel
theorem dX8_keep_69 : decode cX8_keep 69 = .ok (.aload_n 0, 1) := by decide +kernel
theorem dX8_keep_70 : decode cX8_keep 70 = .ok (.getfield 103, 3) := by decide +kernel
theorem dX8_keep_73 : decode cX8_keep 73 = .ok (.iload_n 1, 1) := by decide +kernel
theorem dX8_keep_74 : decode cX8_keep 74 = .ok (.iaload, 1) := by decide +kernel
theorem dX8_keep_75 : decode cX8_keep 75 = .ok (.iastore, 1) := by decide +kernel
theorem dX8_keep_76 : decode cX8_keep 76 = .ok (.iinc 1 1, 3) := by decide +kernel
theorem dX8_keep_79 : decode cX8_keep 79 = .ok (.goto (-32), 3) := by decide +kernel
theorem dX8_keep_82 : decode cX8_keep 82 = .ok (.iconst 0, 1) := by decide +kernel
theorem dX8_keep_83 : decode cX8_keep 83 = .ok (.istore_n 1, 1) := by decide +kernel
theorem dX8_keep_84 : decode cX8_keep 84 = .ok (.iload_n 1, 1) := by decide +kernel
theorem dX8_keep_85 : decode cX8_keep 85 = .ok (.bipush 6, 2) := by decide +kernel
theorem dX8_keep_87 : decode cX8_keep 87 = .ok (.if_icmp .ge 21, 3) := by decide +kernel
theorem dX8_keep_90 : decode cX8_keep 90 = .ok (.aload_n 0, 1) := by decide +kernel
theorem dX8_keep_91 : decode cX8_keep 91 = .ok (.getfield 154, 3) := by decide +kernel
theorem dX8_keep_94 : decode cX8_keep 94 = .ok (.iload_n 1, 1) := by decide +kernel
theorem dX8_keep_95 : decode cX8_keep 95 = .ok (.aload_n 0, 1) := by decide +kernel
theorem dX8_keep_96 : decode cX8_keep 96 = .ok (.getfield 106, 3) := by decide +kernel
theorem dX8_keep_99 : decode cX8_keep 99 = .ok (.iload_n 1, 1) := by decide +kernel
theorem dX8_keep_100 : decode cX8_keep 100 = .ok (.iaload, 1) := by decide +kernel
theorem dX8_keep_101 : decode cX8_keep 101 = .ok (.iastore, 1) := by decide +kernel
theorem dX8_keep_102 : decode cX8_keep 102 = .ok (.iinc 1 1, 3) := by decide +kernel
theorem dX8_keep_105 : decode cX8_keep 105 = .ok (.goto (-21), 3) := by decide +kernel
theorem dX8_keep_108 : decode cX8_keep 108 = .ok (.aload_n 0, 1) := by decide +kernel
theorem dX8_keep_109 : decode cX8_keep 109 = .ok (.aload_n 0, 1) := by decide +kernel
theorem dX8_keep_110 : decode cX8_keep 110 = .ok (.getfield 109, 3) := by decide +kernel
theorem dX8_keep_113 : decode cX8_keep 113 = .ok (.iconst 0, 1) := by decide +kernel
theorem dX8_keep_114 : decode cX8_keep 114 = .ok (.iaload, 1) := by decide +kernel
theorem dX8_keep_115 : decode cX8_keep 115 = .ok (.putfield 553, 3) := by decide +kernel
theorem dX8_keep_118 : decode cX8_keep 118 = .ok (.aload_n 0, 1) := by decide +kernel
theorem dX8_keep_119 : decode cX8_keep 119 = .ok (.aload_n 0, 1) := by decide +kernel
theorem dX8_keep_120 : decode cX8_keep 120 = .ok (.getfield 112, 3) := by decide +kernel
theorem dX8_keep_123 : decode cX8_keep 123 = .ok (.iconst 0, 1) := by decide +kernel
theorem dX8_keep_124 : decode cX8_keep 124 = .ok (.iaload, 1) := by decide +kernel
theorem dX8_keep_125 : decode cX8_keep 125 = .ok (.putfield 556, 3) := by decide +kernel
theorem dX8_keep_128 : decode cX8_keep 128 = .ok (.aload_n 0, 1) := by decide +kernel
theorem dX8_keep_129 : decode cX8_keep 129 = .ok (.aload_n 0, 1) := by decide +kernel
theorem dX8_keep_130 : decode cX8_keep 130 = .ok (.getfield 115, 3) := by decide +kernel
theorem dX8_keep_133 : decode cX8_keep 133 = .ok (.iconst 0, 1) := by decide +kernel
theorem dX8_keep_134 : decode cX8_keep 134 = .ok (.iaload, 1) := by decide +kernel
theorem dX8_keep_135 : decode cX8_keep 135 = .ok (.putfield 559, 3) := by decide +kernel
theorem dX8_keep_138 : decode cX8_keep 138 = .ok (.aload_n 0, 1) := by decide +kernel
theorem dX8_keep_139 : decode cX8_keep 139 = .ok (.aload_n 0, 1) := by decide +kernel
theorem dX8_keep_140 : decode cX8_keep 140 = .ok (.getfield 366, 3) := by decide +kernel
theorem dX8_keep_143 : decode cX8_keep 143 = .ok (.putfield 562, 3) := by decide +kernel
theorem dX8_keep_146 : decode cX8_keep 146 = .ok (.aload_n 0, 1) := by decide +kernel
theorem dX8_keep_147 : decode cX8_keep 147 = .ok (.getfield 115, 3) := by decide +kernel
theorem dX8_keep_150 : decode cX8_keep 150 = .ok (.iconst 0, 1) := by decide +kernel
theorem dX8_keep_151 : decode cX8_keep 151 = .ok (.iaload, 1) := by decide +kernel
theorem dX8_keep_152 : decode cX8_keep 152 = .ok (.ireturn, 1) := by decide +kernel
theorem dX8_back_0 : decode cX8_back 0 = .ok (.aload_n 0, 1) := by decide +kernel
theorem dX8_back_1 : decode cX8_back 1 = .ok (.iconst 0, 1) := by decide +kernel
theorem dX8_back_2 : decode cX8_back 2 = .ok (.putfield 163, 3) := by decide +kernel
theorem dX8_back_5 : decode cX8_back 5 = .ok (.aload_n 0, 1) := by decide +kernel
theorem dX8_back_6 : decode cX8_back 6 = .ok (.getfield 379, 3) := by decide +kernel
theorem dX8_back_9 : decode cX8_back 9 = .ok (.ifCond .ne 5, 3) := by decide +kernel
theorem dX8_back_12 : decode cX8_back 12 = .ok (.iconst (-1), 1) := by decide +kernel
theorem dX8_back_13 : decode cX8_back 13 = .ok (.ireturn, 1) := by decide +kernel
theorem dX8_back_14 : decode cX8_back 14 = .ok (.aload_n 0, 1) := by decide +kernel
theorem dX8_back_15 : decode cX8_back 15 = .ok (.aload_n 0, 1) := by decide +kernel
theorem dX8_back_16 : decode cX8_back 16 = .ok (.getfield 142, 3) := by decide +kernel
theorem dX8_back_19 : decode cX8_back 19 = .ok (.iconst 0, 1) := by decide +kernel
theorem dX8_back_20 : decode cX8_back 20 = .ok (.invokevirtual 550, 3) := by decide +kernel
theorem dX8_back_23 : decode cX8_back 23 = .ok (.iconst 0, 1) := by decide +kernel
theorem dX8_back_24 : decode cX8_back 24 = .ok (.istore_n 1, 1) := by decide +kernel
theorem dX8_back_25 : decode cX8_back 25 = .ok (.iload_n 1, 1) := by decide +kernel
theorem dX8_back_26 : decode cX8_back 26 = .ok (.bipush 8, 2) := by decide +kernel
theorem dX8_back_28 : decode cX8_back 28 = .ok (.if_icmp .ge 21, 3) := by decide +kernel
theorem dX8_back_31 : decode cX8_back 31 = .ok (.aload_n 0, 1) := by decide +kernel
theorem dX8_back_32 : decode cX8_back 32 = .ok (.getfield 85, 3) := by decide +kernel
theorem dX8_back_35 : decode cX8_back 35 = .ok (.iload_n 1, 1) := by decide +kernel
theorem dX8_back_36 : decode cX8_back 36 = .ok (.aload_n 0, 1) := by decide +kernel
theorem dX8_back_37 : decode cX8_back 37 = .ok (.getfield 145, 3) := by decide +kernel
theorem dX8_back_40 : decode cX8_back 40 = .ok (.iload_n 1, 1) := by decide +kernel
theorem dX8_back_41 : decode cX8_back 41 = .ok (.iaload, 1) := by decide +kernel
theorem dX8_back_42 : decode cX8_back 42 = .ok (.iastore, 1) := by decide +kernel
theorem dX8_back_43 : decode cX8_back 43 = .ok (.iinc 1 1, 3) := by decide +kernel
theorem dX8_back_46 : decode cX8_back 46 = .ok (.goto (-21), 3) := by decide +kernel
theorem dX8_back_49 : decode cX8_back 49 = .ok (.iconst 0, 1) := by decide +kernel
theorem dX8_back_50 : decode cX8_back 50 = .ok (.istore_n 1, 1) := by decide +kernel
theorem dX8_back_51 : decode cX8_back 51 = .ok (.iload_n 1, 1) := by decide +kernel
theorem dX8_back_52 : decode cX8_back 52 = .ok (.iconst 4, 1) := by decide +kernel
theorem dX8_back_53 : decode cX8_back 53 = .ok (.if_icmp .ge 33, 3) := by decide +kernel
theorem dX8_back_56 : decode cX8_back 56 = .ok (.aload_n 0, 1) := by decide +kernel
theorem dX8_back_57 : decode cX8_back 57 = .ok (.getfield 100, 3) := by decide +kernel
theorem dX8_back_60 : decode cX8_back 60 = .ok (.iload_n 1, 1) := by decide +kernel
theorem dX8_back_61 : decode cX8_back 61 = .ok (.aload_n 0, 1) := by decide +kernel
theorem dX8_back_62 : decode cX8_back 62 = .ok (.getfield 148, 3) := by decide +kernel
theorem dX8_back_65 : decode cX8_back 65 = .ok (.iload_n 1, 1) := by decide +kernel
theorem dX8_back_66 : decode cX8_back 66 = .ok (.iaload, 1) := by decide +kernel
theorem dX8_back_67 : decode cX8_back 67 = .ok (.iastore, 1) := by decide +kernel
theorem dX8_back_68 : decode cX8_back 68 = .ok (.aload_n 0, 1) := by decide +kernel
theorem dX8_back_69 : decode cX8_back 69 = .ok (.getfield 103, 3) := by decide +kernel
theorem dX8_back_72 : decode cX8_back 72 = .ok (.iload_n 1, 1) := by decide +kernel
theorem dX8_back_73 : decode cX8_back 73 = .ok (.aload_n 0, 1) := by decide +kernel
theorem dX8_back_74 : decode cX8_back 74 = .ok (.getfield 151, 3) := by decide +kernel
theorem dX8_back_77 : decode cX8_back 77 = .ok (.iload_n 1, 1) := by decide +kernel
theorem dX8_back_78 : decode cX8_back 78 = .ok (.iaload, 1) := by decide +kernel
theorem dX8_back_79 : decode cX8_back 79 = .ok (.iastore, 1) := by decide +kernel
theorem dX8_back_80 : decode cX8_back 80 = .ok (.iinc 1 1, 3) := by decide +kernel
theorem dX8_back_83 : decode cX8_back 83 = .ok (.goto (-32), 3) := by decide +kernel
theorem dX8_back_86 : decode cX8_back 86 = .ok (.iconst 0, 1) := by decide +kernel
theorem dX8_back_87 : decode cX8_back 87 = .ok (.istore_n 1, 1) := by decide +kernel
theorem dX8_back_88 : decode cX8_back 88 = .ok (.iload_n 1, 1) := by decide +kernel
theorem dX8_back_89 : decode cX8_back 89 = .ok (.bipush 6, 2) := by decide +kernel
theorem dX8_back_91 : decode cX8_back 91 = .ok (.if_icmp .ge 21, 3) := by decide +kernel
theorem dX8_back_94 : decode cX8_back 94 = .ok (.aload_n 0, 1) := by decide +kernel
theorem dX8_back_95 : decode cX8_back 95 = .ok (.getfield 106, 3) := by decide +kernel
theorem dX8_back_98 : decode cX8_back 98 = .ok (.iload_n 1, 1) := by decide +kernel
theorem dX8_back_99 : decode cX8_back 99 = .ok (.aload_n 0, 1) := by decide +kernel
theorem dX8_back_100 : decode cX8_back 100 = .ok (.getfield 154, 3) := by decide +kernel
theorem dX8_back_103 : decode cX8_back 103 = .ok (.iload_n 1, 1) := by decide +kernel
theorem dX8_back_104 : decode cX8_back 104 = .ok (.iaload, 1) := by decide +kernel
theorem dX8_back_105 : decode cX8_back 105 = .ok (.iastore, 1) := by decide +kernel
theorem dX8_back_106 : decode cX8_back 106 = .ok (.iinc 1 1, 3) := by decide +kernel
theorem dX8_back_109 : decode cX8_back 109 = .ok (.goto (-21), 3) := by decide +kernel
theorem dX8_back_112 : decode cX8_back 112 = .ok (.aload_n 0, 1) := by decide +kernel
theorem dX8_back_113 : decode cX8_back 113 = .ok (.getfield 109, 3) := by decide +kernel
theorem dX8_back_116 : decode cX8_back 116 = .ok (.iconst 0, 1) := by decide +kernel
theorem dX8_back_117 : decode cX8_back 117 = .ok (.aload_n 0, 1) := by decide +kernel
theorem dX8_back_118 : decode cX8_back 118 = .ok (.getfield 553, 3) := by decide +kernel
theorem dX8_back_121 : decode cX8_back 121 = .ok (.iastore, 1) := by decide +kernel
theorem dX8_back_122 : decode cX8_back 122 = .ok (.aload_n 0, 1) := by decide +kernel
theorem dX8_back_123 : decode cX8_back 123 = .ok (.getfield 112, 3) := by decide +kernel
theorem dX8_back_126 : decode cX8_back 126 = .ok (.iconst 0, 1) := by decide +kernel
theorem dX8_back_127 : decode cX8_back 127 = .ok (.aload_n 0, 1) := by decide +kernel
theorem dX8_back_128 : decode cX8_back 128 = .ok (.getfield 556, 3) := by decide +kernel
theorem dX8_back_131 : decode cX8_back 131 = .ok (.iastore, 1) := by decide +kernel
theorem dX8_back_132 : decode cX8_back 132 = .ok (.aload_n 0, 1) := by decide +kernel
theorem dX8_back_133 : decode cX8_back 133 = .ok (.getfield 115, 3) := by decide +kernel
theorem dX8_back_136 : decode cX8_back 136 = .ok (.iconst 0, 1) := by decide +kernel
theorem dX8_back_137 : decode cX8_back 137 = .ok (.aload_n 0, 1) := by decide +kernel
theorem dX8_back_138 : decode cX8_back 138 = .ok (.getfield 559, 3) := by decide +kernel
theorem dX8_back_141 : decode cX8_back 141 = .ok (.iastore, 1) := by decide +kernel
theorem dX8_back_142 : decode cX8_back 142 = .ok (.aload_n 0, 1) := by decide +kernel
theorem dX8_back_143 : decode cX8_back 143 = .ok (.aload_n 0, 1) := by decide +kernel
theorem dX8_back_144 : decode cX8_back 144 = .ok (.getfield 562, 3) := by decide +kernel
theorem dX8_back_147 : decode cX8_back 147 = .ok (.putfield 366, 3) := by decide +kernel
theorem dX8_back_150 : decode cX8_back 150 = .ok (.aload_n 0, 1) := by decide +kernel
theorem dX8_back_151 : decode cX8_back 151 = .ok (.iconst 0, 1) := by decide +kernel
theorem dX8_back_152 : decode cX8_back 152 = .ok (.putfield 376, 3) := by decide +kernel
theorem dX8_back_155 : decode cX8_back 155 = .ok (.aload_n 0, 1) := by decide +kernel
theorem dX8_back_156 : decode cX8_back 156 = .ok (.getfield 115, 3) := by decide +kernel
theorem dX8_back_159 : decode cX8_back 159 = .ok (.iconst 0, 1) := by decide +kernel
theorem dX8_back_160 : decode cX8_back 160 = .ok (.iaload, 1) := by decide +kernel
theorem dX8_back_161 : decode cX8_back 161 = .ok (.ireturn, 1) := by decide +kernel
theorem dX8_count_0 : decode cX8_count 0 = .ok (.aload_n 0, 1) := by decide +kernel
theorem dX8_count_1 : decode cX8_count 1 = .ok (.iconst 0, 1) := by decide +kernel
theorem dX8_count_2 : decode cX8_count 2 = .ok (.putfield 163, 3) := by decide +kernel
theorem dX8_count_5 : decode cX8_count 5 = .ok (.iload_n 1, 1) := by decide +kernel
theorem dX8_count_6 : decode cX8_count 6 = .ok (.tableswitch 158 0 14 #[74, 79, 84, 89, 94, 99, 106, 112, 119, 126, 132, 138, 143, 148, 153], 74) := by decide +kernel
theorem dX8_count_80 : decode cX8_count 80 = .ok (.aload_n 0, 1) := by decide +kernel
theorem dX8_count_81 : decode cX8_count 81 = .ok (.getfield 243, 3) := by decide +kernel
theorem dX8_count_84 : decode cX8_count 84 = .ok (.ireturn, 1) := by decide +kernel
theorem dX8_count_85 : decode cX8_count 85 = .ok (.aload_n 0, 1) := by decide +kernel
theorem dX8_count_86 : decode cX8_count 86 = .ok (.getfield 246, 3) := by decide +kernel
theorem dX8_count_89 : decode cX8_count 89 = .ok (.ireturn, 1) := by decide +kernel
theorem dX8_count_90 : decode cX8_count 90 = .ok (.aload_n 0, 1) := by decide +kernel
theorem dX8_count_91 : decode cX8_count 91 = .ok (.getfield 249, 3) := by decide +kernel
theorem dX8_count_94 : decode cX8_count 94 = .ok (.ireturn, 1) := by decide +kernel
theorem dX8_count_95 : decode cX8_count 95 = .ok (.aload_n 0, 1) := by decide +kernel
theorem dX8_count_96 : decode cX8_count 96 = .ok (.getfield 252, 3) := by decide +kernel
theorem dX8_count_99 : decode cX8_count 99 = .ok (.ireturn, 1) := by decide +kernel
theorem dX8_count_100 : decode cX8_count 100 = .ok (.aload_n 0, 1) := by decide +kernel
theorem dX8_count_101 : decode cX8_count 101 = .ok (.getfield 255, 3) := by decide +kernel
theorem dX8_count_104 : decode cX8_count 104 = .ok (.ireturn, 1) := by decide +kernel
theorem dX8_count_105 : decode cX8_count 105 = .ok (.aload_n 0, 1) := by decide +kernel
theorem dX8_count_106 : decode cX8_count 106 = .ok (.getfield 115, 3) := by decide +kernel
theorem dX8_count_109 : decode cX8_count 109 = .ok (.iconst 0, 1) := by decide +kernel
theorem dX8_count_110 : decode cX8_count 110 = .ok (.iaload, 1) := by decide +kernel
theorem dX8_count_111 : decode cX8_count 111 = .ok (.ireturn, 1) := by decide +kernel
theorem dX8_count_112 : decode cX8_count 112 = .ok (.aload_n 0, 1) := by decide +kernel
theorem dX8_count_113 : decode cX8_count 113 = .ok (.iconst 0, 1) := by decide +kernel
theorem dX8_count_114 : decode cX8_count 114 = .ok (.invokevirtual 442, 3) := by decide +kernel
theorem dX8_count_117 : decode cX8_count 117 = .ok (.ireturn, 1) := by decide +kernel
theorem dX8_count_118 : decode cX8_count 118 = .ok (.aload_n 0, 1) := by decide +kernel
theorem dX8_count_119 : decode cX8_count 119 = .ok (.getfield 109, 3) := by decide +kernel
theorem dX8_count_122 : decode cX8_count 122 = .ok (.iconst 0, 1) := by decide +kernel
theorem dX8_count_123 : decode cX8_count 123 = .ok (.iaload, 1) := by decide +kernel
theorem dX8_count_124 : decode cX8_count 124 = .ok (.ireturn, 1) := by decide +kernel
theorem dX8_count_125 : decode cX8_count 125 = .ok (.aload_n 0, 1) := by decide +kernel
theorem dX8_count_126 : decode cX8_count 126 = .ok (.getfield 112, 3) := by decide +kernel
theorem dX8_count_129 : decode cX8_count 129 = .ok (.iconst 0, 1) := by decide +kernel
theorem dX8_count_130 : decode cX8_count 130 = .ok (.iaload, 1) := by decide +kernel
theorem dX8_count_131 : decode cX8_count 131 = .ok (.ireturn, 1) := by decide +kernel
theorem dX8_count_132 : decode cX8_count 132 = .ok (.aload_n 0, 1) := by decide +kernel
theorem dX8_count_133 : decode cX8_count 133 = .ok (.iconst 0, 1) := by decide +kernel
theorem dX8_count_134 : decode cX8_count 134 = .ok (.invokevirtual 494, 3) := by decide +kernel
theorem dX8_count_137 : decode cX8_count 137 = .ok (.ireturn, 1) := by decide +kernel
theorem dX8_count_138 : decode cX8_count 138 = .ok (.aload_n 0, 1) := by decide +kernel
theorem dX8_count_139 : decode cX8_count 139 = .ok (.iconst 0, 1) := by decide +kernel
theorem dX8_count_140 : decode cX8_count 140 = .ok (.invokevirtual 497, 3) := by decide +kernel
theorem dX8_count_143 : decode cX8_count 143 = .ok (.ireturn, 1) := by decide +kernel
theorem dX8_count_144 : decode cX8_count 144 = .ok (.aload_n 0, 1) := by decide +kernel
theorem dX8_count_145 : decode cX8_count 145 = .ok (.getfield 363, 3) := by decide +kernel
theorem dX8_count_148 : decode cX8_count 148 = .ok (.ireturn, 1) := by decide +kernel
theorem dX8_count_149 : decode cX8_count 149 = .ok (.aload_n 0, 1) := by decide +kernel
theorem dX8_count_150 : decode cX8_count 150 = .ok (.getfield 373, 3) := by decide +kernel
theorem dX8_count_153 : decode cX8_count 153 = .ok (.ireturn, 1) := by decide +kernel
theorem dX8_count_154 : decode cX8_count 154 = .ok (.aload_n 0, 1) := by decide +kernel
theorem dX8_count_155 : decode cX8_count 155 = .ok (.invokevirtual 541, 3) := by decide +kernel
theorem dX8_count_158 : decode cX8_count 158 = .ok (.ireturn, 1) := by decide +kernel
theorem dX8_count_159 : decode cX8_count 159 = .ok (.aload_n 0, 1) := by decide +kernel
theorem dX8_count_160 : decode cX8_count 160 = .ok (.getfield 376, 3) := by decide +kernel
theorem dX8_count_163 : decode cX8_count 163 = .ok (.ireturn, 1) := by decide +kernel
theorem dX8_count_164 : decode cX8_count 164 = .ok (.iconst (-1), 1) := by decide +kernel
theorem dX8_count_165 : decode cX8_count 165 = .ok (.ireturn, 1) := by decide +kernel
def f_X8_take_39 (p1c : Nat) (p1o : Nat) (p1a : Nat) (p2 : Int32) (r39 : Int32 → Hp → Option Hp) (v3 : Int32) (h4 : Hp) : Option Hp :=
  if 8 ≤ v3 then
    grd (inb (p2 + 16) (ak p1c p1a).2) <|
    lt_ (sI h4 8 0 61 (gA h4 p1c p1o p1a (p2 + 16).toNatClampNeg)) fun h5 =>
    some h5
  else
  grd (inb ((p2 + 8) + v3) (ak p1c p1a).2) <|
  grd (inb v3 16) <| lt_ (sA h4 8 0 24 v3.toNatClampNeg (gA h4 p1c p1o p1a ((p2 + 8) + v3).toNatClampNeg)) fun h6 =>
  lt_ (v3 + 1) fun v7 =>
  r39 v7 h6
def f_X8_take_2 (N : Nat) (p1c : Nat) (p1o : Nat) (p1a : Nat) (p2 : Int32) (r2 : Int32 → Hp → Option Hp) (v1 : Int32) (h2 : Hp) : Option Hp :=
  if 4 ≤ v1 then
    iter (fun _ _ => none) (f_X8_take_39 p1c p1o p1a p2) N 0 h2
  else
  grd (inb (p2 + v1) (ak p1c p1a).2) <|
  grd (inb v1 8) <| lt_ (sA h2 8 0 27 v1.toNatClampNeg (gA h2 p1c p1o p1a (p2 + v1).toNatClampNeg)) fun h8 =>
  grd (inb ((p2 + 4) + v1) (ak p1c p1a).2) <|
  grd (inb v1 8) <| lt_ (sA h8 8 0 25 v1.toNatClampNeg (gA h8 p1c p1o p1a ((p2 + 4) + v1).toNatClampNeg)) fun h9 =>
  lt_ (v1 + 1) fun v10 =>
  r2 v10 h9
def f_X8_take (N : Nat) (h : Hp) (p1c p1o p1a : Nat) (p2 : Int32) : Option Hp :=
  iter (fun _ _ => none) (f_X8_take_2 N p1c p1o p1a p2) N 0 h
abbrev rmX8_take : Room := { frames := 0, cells := 0, slots := 0, locals := 0 }
set_option maxRecDepth 100000 in
set_option maxHeartbeats 4000000 in
theorem w_X8_take (X : Cx) (F : Fx X cX8_take RX8 none rmX8_take) (hA : xA X = Aw (xG X)) (hL : xL X = 4) (N : Nat) (h : Hp) (p1c p1o p1a : Nat) (h_p1 : AR p1c p1o p1a 0 (ak p1c p1a).2) (p2 : Int32) : Wm X (fun _ => none) (fun v => v) (fun _ => True) 0 [(0, .ref (adr (xG X) 8 0 0)), (1, .ref (adr (xG X) p1c p1o (p1a + 1))), (2, .int p2)] [] h (f_X8_take N h p1c p1o p1a p2) := by
  have hS : ∀ i : Nat, i < 4 → i < xL X := fun i z => by rw [hL]; exact z
  unfold f_X8_take
  refine r_iconst F (v := 0) dX8_take_0 (by decide) ?_
  refine r_istore_n F [(3, .int 0), (0, .ref (adr (xG X) 8 0 0)), (1, .ref (adr (xG X) p1c p1o (p1a + 1))), (2, .int p2)] rfl dX8_take_1 rfl (hS _ (by decide)) ?_
  have hl2 : ∀ n : Nat, ∀ v1 : Int32, ∀ h2 : Hp, Wm X (fun _ => none) (fun v => v) (fun _ => True) 2 [(0, .ref (adr (xG X) 8 0 0)), (1, .ref (adr (xG X) p1c p1o (p1a + 1))), (2, .int p2), (3, .int v1)] [] h2 (iter (fun _ _ => none) (f_X8_take_2 N p1c p1o p1a p2) n v1 h2) := by
    intro n
    induction n with
    | zero => intro v1 h2; exact Wt_none
    | succ n ih =>
      revert ih
      show (∀ v1 : Int32, ∀ h2 : Hp, Wm X (fun _ => none) (fun v => v) (fun _ => True) 2 [(0, .ref (adr (xG X) 8 0 0)), (1, .ref (adr (xG X) p1c p1o (p1a + 1))), (2, .int p2), (3, .int v1)] [] h2 (iter (fun _ _ => none) (f_X8_take_2 N p1c p1o p1a p2) n v1 h2)) → _
      intro ih2 v1 h2
      show Wm X (fun _ => none) (fun v => v) (fun _ => True) 2 [(0, .ref (adr (xG X) 8 0 0)), (1, .ref (adr (xG X) p1c p1o (p1a + 1))), (2, .int p2), (3, .int v1)] [] h2 (f_X8_take_2 N p1c p1o p1a p2 (iter (fun _ _ => none) (f_X8_take_2 N p1c p1o p1a p2) n) v1 h2)
      revert ih2
      generalize iter (fun _ _ => none) (f_X8_take_2 N p1c p1o p1a p2) n = r2
      intro ih2
      unfold f_X8_take_2
      refine r_iload_n F 3 rfl dX8_take_2 rfl ?_
      refine r_iconst F (v := 4) dX8_take_3 (by decide) ?_
      refine r_icmpge F (tgt := 37) dX8_take_4 (by decide) ?_ ?_
      · skip
        refine r_iconst F (v := 0) dX8_take_37 (by decide) ?_
        refine r_istore_n F [(3, .int 0), (0, .ref (adr (xG X) 8 0 0)), (1, .ref (adr (xG X) p1c p1o (p1a + 1))), (2, .int p2)] rfl dX8_take_38 rfl (hS _ (by decide)) ?_
        have hl39 : ∀ n : Nat, ∀ v3 : Int32, ∀ h4 : Hp, Wm X (fun _ => none) (fun v => v) (fun _ => True) 39 [(0, .ref (adr (xG X) 8 0 0)), (1, .ref (adr (xG X) p1c p1o (p1a + 1))), (2, .int p2), (3, .int v3)] [] h4 (iter (fun _ _ => none) (f_X8_take_39 p1c p1o p1a p2) n v3 h4) := by
          intro n
          induction n with
          | zero => intro v3 h4; exact Wt_none
          | succ n ih =>
            revert ih
            show (∀ v3 : Int32, ∀ h4 : Hp, Wm X (fun _ => none) (fun v => v) (fun _ => True) 39 [(0, .ref (adr (xG X) 8 0 0)), (1, .ref (adr (xG X) p1c p1o (p1a + 1))), (2, .int p2), (3, .int v3)] [] h4 (iter (fun _ _ => none) (f_X8_take_39 p1c p1o p1a p2) n v3 h4)) → _
            intro ih39 v3 h4
            show Wm X (fun _ => none) (fun v => v) (fun _ => True) 39 [(0, .ref (adr (xG X) 8 0 0)), (1, .ref (adr (xG X) p1c p1o (p1a + 1))), (2, .int p2), (3, .int v3)] [] h4 (f_X8_take_39 p1c p1o p1a p2 (iter (fun _ _ => none) (f_X8_take_39 p1c p1o p1a p2) n) v3 h4)
            revert ih39
            generalize iter (fun _ _ => none) (f_X8_take_39 p1c p1o p1a p2) n = r39
            intro ih39
            unfold f_X8_take_39
            refine r_iload_n F 3 rfl dX8_take_39 rfl ?_
            refine r_bipush F (v := 8) dX8_take_40 (by decide) ?_
            refine r_icmpge F (tgt := 65) dX8_take_42 (by decide) ?_ ?_
            · skip
              refine r_aload_n F 0 rfl dX8_take_65 rfl ?_
              refine r_aload_n F 1 rfl dX8_take_66 rfl ?_
              refine r_iload_n F 2 rfl dX8_take_67 rfl ?_
              refine r_bipush F (v := 16) dX8_take_68 (by decide) ?_
              refine r_iadd F dX8_take_70 ?_
              refine r_iaload F h_p1 dX8_take_71 ?_
              refine r_putI F frX8_363 (by decide) rfl rfl dX8_take_72 fun h5 => ?_
              exact r_vret F hA rfl rfl trivial dX8_take_75
            refine r_aload_n F 0 rfl dX8_take_45 rfl ?_
            refine r_getA F frX8_88 (by decide) dX8_take_46 ?_
            refine r_iload_n F 3 rfl dX8_take_49 rfl ?_
            refine r_aload_n F 1 rfl dX8_take_50 rfl ?_
            refine r_iload_n F 2 rfl dX8_take_51 rfl ?_
            refine r_bipush F (v := 8) dX8_take_52 (by decide) ?_
            refine r_iadd F dX8_take_54 ?_
            refine r_iload_n F 3 rfl dX8_take_55 rfl ?_
            refine r_iadd F dX8_take_56 ?_
            refine r_iaload F h_p1 dX8_take_57 ?_
            refine r_iastore F (ar_8_24 0 (by decide)) dX8_take_58 fun h6 => ?_
            refine r_iinc F (v := 1) 3 rfl (by decide) (fun v7 => [(3, .int v7), (0, .ref (adr (xG X) 8 0 0)), (1, .ref (adr (xG X) p1c p1o (p1a + 1))), (2, .int p2)]) (fun _ => rfl) dX8_take_59 (hS _ (by decide)) fun v7 => ?_
            refine r_goto F (tgt := 39) dX8_take_62 (by decide) ?_
            exact Wt_pick [1, 2, 3, 0] rfl (ih39 v7 h6)
        exact Wt_pick [1, 2, 3, 0] rfl (hl39 N 0 h2)
      refine r_aload_n F 0 rfl dX8_take_7 rfl ?_
      refine r_getA F frX8_97 (by decide) dX8_take_8 ?_
      refine r_iload_n F 3 rfl dX8_take_11 rfl ?_
      refine r_aload_n F 1 rfl dX8_take_12 rfl ?_
      refine r_iload_n F 2 rfl dX8_take_13 rfl ?_
      refine r_iload_n F 3 rfl dX8_take_14 rfl ?_
      refine r_iadd F dX8_take_15 ?_
      refine r_iaload F h_p1 dX8_take_16 ?_
      refine r_iastore F (ar_8_27 0 (by decide)) dX8_take_17 fun h8 => ?_
      refine r_aload_n F 0 rfl dX8_take_18 rfl ?_
      refine r_getA F frX8_91 (by decide) dX8_take_19 ?_
      refine r_iload_n F 3 rfl dX8_take_22 rfl ?_
      refine r_aload_n F 1 rfl dX8_take_23 rfl ?_
      refine r_iload_n F 2 rfl dX8_take_24 rfl ?_
      refine r_iconst F (v := 4) dX8_take_25 (by decide) ?_
      refine r_iadd F dX8_take_26 ?_
      refine r_iload_n F 3 rfl dX8_take_27 rfl ?_
      refine r_iadd F dX8_take_28 ?_
      refine r_iaload F h_p1 dX8_take_29 ?_
      refine r_iastore F (ar_8_25 0 (by decide)) dX8_take_30 fun h9 => ?_
      refine r_iinc F (v := 1) 3 rfl (by decide) (fun v10 => [(3, .int v10), (0, .ref (adr (xG X) 8 0 0)), (1, .ref (adr (xG X) p1c p1o (p1a + 1))), (2, .int p2)]) (fun _ => rfl) dX8_take_31 (hS _ (by decide)) fun v10 => ?_
      refine r_goto F (tgt := 2) dX8_take_34 (by decide) ?_
      exact Wt_pick [1, 2, 3, 0] rfl (ih2 v10 h9)
  exact Wt_pick [1, 2, 3, 0] rfl (hl2 N 0 h)
theorem c_X8_take (G : Gx) (l : Launch) (N : Nat) (h : Hp) (p1c p1o p1a : Nat) (h_p1 : AR p1c p1o p1a 0 (ak p1c p1a).2) (p2 : Int32) : Ctr G l yX8_take (.code yX8_take cX8_take 4 none :: GT) rmX8_take [.ref (adr G 8 0 0), .ref (adr G p1c p1o (p1a + 1)), .int p2] h (f_X8_take N h p1c p1o p1a p2) (fun _ => none) (fun v => v) (fun _ => True) :=
  ctr_of (by decide) (Nat.le_of_ble_eq_true rfl) ⟨rfl, rfl⟩ fun X _ e2 hA hL F => by subst e2; exact w_X8_take X F hA hL N h p1c p1o p1a h_p1 p2
def f_X8_undo (N : Nat) (h : Hp) : Option (Int32 × Hp) :=
  lt_ (sI h 8 0 2 0) fun h1 =>
  if ¬ (gI h1 8 0 76) = 0 then
    lt_ (sI h1 8 0 76 ((gI h1 8 0 76) - 1)) fun h2 =>
    (f_X8_take N h2 8 0 39 (17 * (gI h2 8 0 76))).bind fun h3 =>
    some ((gI h3 8 0 76), h3)
  else
  some ((-1), h1)
abbrev rmX8_undo : Room := { frames := 1, cells := 0, slots := 0, locals := 23 }
set_option maxRecDepth 100000 in
set_option maxHeartbeats 4000000 in
theorem w_X8_undo (X : Cx) (F : Fx X cX8_undo RX8 (some .int) rmX8_undo) (hA : xA X = Aw (xG X)) (hL : xL X = 1) (N : Nat) (h : Hp) : Wm X (fun v => some (.int v.1)) (fun v => v.2) (fun _ => True) 0 [(0, .ref (adr (xG X) 8 0 0))] [] h (f_X8_undo N h) := by
  have hS : ∀ i : Nat, i < 1 → i < xL X := fun i z => by rw [hL]; exact z
  unfold f_X8_undo
  refine r_aload_n F 0 rfl dX8_undo_0 rfl ?_
  refine r_iconst F (v := 0) dX8_undo_1 (by decide) ?_
  refine r_putI F frX8_163 (by decide) rfl rfl dX8_undo_2 fun h1 => ?_
  refine r_aload_n F 0 rfl dX8_undo_5 rfl ?_
  refine r_getI F frX8_376 (by decide) dX8_undo_6 ?_
  refine r_ifne F (tgt := 14) dX8_undo_9 (by decide) ?_ ?_
  · skip
    refine r_aload_n F 0 rfl dX8_undo_14 rfl ?_
    refine r_dup F rfl dX8_undo_15 ?_
    refine r_getI F frX8_376 (by decide) dX8_undo_16 ?_
    refine r_iconst F (v := 1) dX8_undo_19 (by decide) ?_
    refine r_isub F dX8_undo_20 ?_
    refine r_putI F frX8_376 (by decide) rfl rfl dX8_undo_21 fun h2 => ?_
    refine r_aload_n F 0 rfl dX8_undo_24 rfl ?_
    refine r_aload_n F 0 rfl dX8_undo_25 rfl ?_
    refine r_getA F frX8_139 (by decide) dX8_undo_26 ?_
    refine r_bipush F (v := 17) dX8_undo_29 (by decide) ?_
    refine r_aload_n F 0 rfl dX8_undo_31 rfl ?_
    refine r_getI F frX8_376 (by decide) dX8_undo_32 ?_
    refine r_imul F dX8_undo_35 ?_
    refine k_vH (run_V F cvX8_550 (by decide) (c_X8_take (xG X) _ N h2 8 0 39 (ar_8_39 0 (by decide)) (17 * (gI h2 8 0 76))) rfl rfl ⟨⟨rfl, rfl⟩, Nat.le_of_ble_eq_true rfl, Nat.le_of_ble_eq_true rfl⟩ (Nat.le_of_ble_eq_true rfl) dX8_undo_36) fun h3 => ?_
    refine r_aload_n F 0 rfl dX8_undo_39 rfl ?_
    refine r_getI F frX8_376 (by decide) dX8_undo_40 ?_
    exact r_iret F hA rfl rfl trivial dX8_undo_43
  refine r_iconst F (v := (-1)) dX8_undo_12 (by decide) ?_
  exact r_iret F hA rfl rfl trivial dX8_undo_13
theorem c_X8_undo (G : Gx) (l : Launch) (N : Nat) (h : Hp) : Ctr G l yX8_undo (.code yX8_undo cX8_undo 1 (some .int) :: GT) rmX8_undo [.ref (adr G 8 0 0)] h (f_X8_undo N h) (fun v => some (.int v.1)) (fun v => v.2) (fun _ => True) :=
  ctr_of (by decide) (Nat.le_of_ble_eq_true rfl) ⟨rfl, rfl⟩ fun X _ e2 hA hL F => by subst e2; exact w_X8_undo X F hA hL N h
def f_X8_keep_84 (r84 : Int32 → Hp → Option (Int32 × Hp)) (v8 : Int32) (h9 : Hp) : Option (Int32 × Hp) :=
  if 6 ≤ v8 then
    grd (inb 0 2) <|
    lt_ (sI h9 8 0 84 (gA h9 8 0 31 (0 : Int32).toNatClampNeg)) fun h10 =>
    grd (inb 0 2) <|
    lt_ (sI h10 8 0 85 (gA h10 8 0 32 (0 : Int32).toNatClampNeg)) fun h11 =>
    grd (inb 0 2) <|
    lt_ (sI h11 8 0 86 (gA h11 8 0 33 (0 : Int32).toNatClampNeg)) fun h12 =>
    lt_ (sL h12 8 0 87 (gL h12 8 0 62)) fun h13 =>
    grd (inb 0 2) <|
    some ((gA h13 8 0 33 (0 : Int32).toNatClampNeg), h13)
  else
  grd (inb v8 12) <|
  grd (inb v8 6) <| lt_ (sA h9 8 0 44 v8.toNatClampNeg (gA h9 8 0 30 v8.toNatClampNeg)) fun h14 =>
  lt_ (v8 + 1) fun v15 =>
  r84 v15 h14
def f_X8_keep_47 (N : Nat) (r47 : Int32 → Hp → Option (Int32 × Hp)) (v6 : Int32) (h7 : Hp) : Option (Int32 × Hp) :=
  if 4 ≤ v6 then
    iter (fun _ _ => none) f_X8_keep_84 N 0 h7
  else
  grd (inb v6 8) <|
  grd (inb v6 4) <| lt_ (sA h7 8 0 42 v6.toNatClampNeg (gA h7 8 0 28 v6.toNatClampNeg)) fun h16 =>
  grd (inb v6 8) <|
  grd (inb v6 4) <| lt_ (sA h16 8 0 43 v6.toNatClampNeg (gA h16 8 0 29 v6.toNatClampNeg)) fun h17 =>
  lt_ (v6 + 1) fun v18 =>
  r47 v18 h17
def f_X8_keep_21 (N : Nat) (r21 : Int32 → Hp → Option (Int32 × Hp)) (v4 : Int32) (h5 : Hp) : Option (Int32 × Hp) :=
  if 8 ≤ v4 then
    iter (fun _ _ => none) (f_X8_keep_47 N) N 0 h5
  else
  grd (inb v4 16) <|
  grd (inb v4 8) <| lt_ (sA h5 8 0 41 v4.toNatClampNeg (gA h5 8 0 23 v4.toNatClampNeg)) fun h19 =>
  lt_ (v4 + 1) fun v20 =>
  r21 v20 h19
def f_X8_keep (N : Nat) (h : Hp) : Option (Int32 × Hp) :=
  lt_ (sI h 8 0 2 0) fun h1 =>
  lt_ (sZ h1 8 0 78 true) fun h2 =>
  (f_X8_put N h2 8 0 40 0).bind fun h3 =>
  iter (fun _ _ => none) (f_X8_keep_21 N) N 0 h3
abbrev rmX8_keep : Room := { frames := 1, cells := 0, slots := 0, locals := 23 }
set_option maxRecDepth 100000 in
set_option maxHeartbeats 4000000 in
theorem w_X8_keep (X : Cx) (F : Fx X cX8_keep RX8 (some .int) rmX8_keep) (hA : xA X = Aw (xG X)) (hL : xL X = 2) (N : Nat) (h : Hp) : Wm X (fun v => some (.int v.1)) (fun v => v.2) (fun _ => True) 0 [(0, .ref (adr (xG X) 8 0 0))] [] h (f_X8_keep N h) := by
  have hS : ∀ i : Nat, i < 2 → i < xL X := fun i z => by rw [hL]; exact z
  unfold f_X8_keep
  refine r_aload_n F 0 rfl dX8_keep_0 rfl ?_
  refine r_iconst F (v := 0) dX8_keep_1 (by decide) ?_
  refine r_putI F frX8_163 (by decide) rfl rfl dX8_keep_2 fun h1 => ?_
  refine r_aload_n F 0 rfl dX8_keep_5 rfl ?_
  refine r_iconst F (v := 1) dX8_keep_6 (by decide) ?_
  refine r_putZ F true rfl frX8_379 (by decide) rfl rfl dX8_keep_7 fun h2 => ?_
  refine r_aload_n F 0 rfl dX8_keep_10 rfl ?_
  refine r_aload_n F 0 rfl dX8_keep_11 rfl ?_
  refine r_getA F frX8_142 (by decide) dX8_keep_12 ?_
  refine r_iconst F (v := 0) dX8_keep_15 (by decide) ?_
  refine k_vH (run_V F cvX8_547 (by decide) (c_X8_put (xG X) _ N h2 8 0 40 (ar_8_40 0 (by decide)) 0) rfl rfl ⟨⟨rfl, rfl⟩, Nat.le_of_ble_eq_true rfl, Nat.le_of_ble_eq_true rfl⟩ (Nat.le_of_ble_eq_true rfl) dX8_keep_16) fun h3 => ?_
  refine r_iconst F (v := 0) dX8_keep_19 (by decide) ?_
  refine r_istore_n F [(1, .int 0), (0, .ref (adr (xG X) 8 0 0))] rfl dX8_keep_20 rfl (hS _ (by decide)) ?_
  have hl21 : ∀ n : Nat, ∀ v4 : Int32, ∀ h5 : Hp, Wm X (fun v => some (.int v.1)) (fun v => v.2) (fun _ => True) 21 [(0, .ref (adr (xG X) 8 0 0)), (1, .int v4)] [] h5 (iter (fun _ _ => none) (f_X8_keep_21 N) n v4 h5) := by
    intro n
    induction n with
    | zero => intro v4 h5; exact Wt_none
    | succ n ih =>
      revert ih
      show (∀ v4 : Int32, ∀ h5 : Hp, Wm X (fun v => some (.int v.1)) (fun v => v.2) (fun _ => True) 21 [(0, .ref (adr (xG X) 8 0 0)), (1, .int v4)] [] h5 (iter (fun _ _ => none) (f_X8_keep_21 N) n v4 h5)) → _
      intro ih21 v4 h5
      show Wm X (fun v => some (.int v.1)) (fun v => v.2) (fun _ => True) 21 [(0, .ref (adr (xG X) 8 0 0)), (1, .int v4)] [] h5 (f_X8_keep_21 N (iter (fun _ _ => none) (f_X8_keep_21 N) n) v4 h5)
      revert ih21
      generalize iter (fun _ _ => none) (f_X8_keep_21 N) n = r21
      intro ih21
      unfold f_X8_keep_21
      refine r_iload_n F 1 rfl dX8_keep_21 rfl ?_
      refine r_bipush F (v := 8) dX8_keep_22 (by decide) ?_
      refine r_icmpge F (tgt := 45) dX8_keep_24 (by decide) ?_ ?_
      · skip
        refine r_iconst F (v := 0) dX8_keep_45 (by decide) ?_
        refine r_istore_n F [(1, .int 0), (0, .ref (adr (xG X) 8 0 0))] rfl dX8_keep_46 rfl (hS _ (by decide)) ?_
        have hl47 : ∀ n : Nat, ∀ v6 : Int32, ∀ h7 : Hp, Wm X (fun v => some (.int v.1)) (fun v => v.2) (fun _ => True) 47 [(0, .ref (adr (xG X) 8 0 0)), (1, .int v6)] [] h7 (iter (fun _ _ => none) (f_X8_keep_47 N) n v6 h7) := by
          intro n
          induction n with
          | zero => intro v6 h7; exact Wt_none
          | succ n ih =>
            revert ih
            show (∀ v6 : Int32, ∀ h7 : Hp, Wm X (fun v => some (.int v.1)) (fun v => v.2) (fun _ => True) 47 [(0, .ref (adr (xG X) 8 0 0)), (1, .int v6)] [] h7 (iter (fun _ _ => none) (f_X8_keep_47 N) n v6 h7)) → _
            intro ih47 v6 h7
            show Wm X (fun v => some (.int v.1)) (fun v => v.2) (fun _ => True) 47 [(0, .ref (adr (xG X) 8 0 0)), (1, .int v6)] [] h7 (f_X8_keep_47 N (iter (fun _ _ => none) (f_X8_keep_47 N) n) v6 h7)
            revert ih47
            generalize iter (fun _ _ => none) (f_X8_keep_47 N) n = r47
            intro ih47
            unfold f_X8_keep_47
            refine r_iload_n F 1 rfl dX8_keep_47 rfl ?_
            refine r_iconst F (v := 4) dX8_keep_48 (by decide) ?_
            refine r_icmpge F (tgt := 82) dX8_keep_49 (by decide) ?_ ?_
            · skip
              refine r_iconst F (v := 0) dX8_keep_82 (by decide) ?_
              refine r_istore_n F [(1, .int 0), (0, .ref (adr (xG X) 8 0 0))] rfl dX8_keep_83 rfl (hS _ (by decide)) ?_
              have hl84 : ∀ n : Nat, ∀ v8 : Int32, ∀ h9 : Hp, Wm X (fun v => some (.int v.1)) (fun v => v.2) (fun _ => True) 84 [(0, .ref (adr (xG X) 8 0 0)), (1, .int v8)] [] h9 (iter (fun _ _ => none) f_X8_keep_84 n v8 h9) := by
                intro n
                induction n with
                | zero => intro v8 h9; exact Wt_none
                | succ n ih =>
                  revert ih
                  show (∀ v8 : Int32, ∀ h9 : Hp, Wm X (fun v => some (.int v.1)) (fun v => v.2) (fun _ => True) 84 [(0, .ref (adr (xG X) 8 0 0)), (1, .int v8)] [] h9 (iter (fun _ _ => none) f_X8_keep_84 n v8 h9)) → _
                  intro ih84 v8 h9
                  show Wm X (fun v => some (.int v.1)) (fun v => v.2) (fun _ => True) 84 [(0, .ref (adr (xG X) 8 0 0)), (1, .int v8)] [] h9 (f_X8_keep_84 (iter (fun _ _ => none) f_X8_keep_84 n) v8 h9)
                  revert ih84
                  generalize iter (fun _ _ => none) f_X8_keep_84 n = r84
                  intro ih84
                  unfold f_X8_keep_84
                  refine r_iload_n F 1 rfl dX8_keep_84 rfl ?_
                  refine r_bipush F (v := 6) dX8_keep_85 (by decide) ?_
                  refine r_icmpge F (tgt := 108) dX8_keep_87 (by decide) ?_ ?_
                  · skip
                    refine r_aload_n F 0 rfl dX8_keep_108 rfl ?_
                    refine r_aload_n F 0 rfl dX8_keep_109 rfl ?_
                    refine r_getA F frX8_109 (by decide) dX8_keep_110 ?_
                    refine r_iconst F (v := 0) dX8_keep_113 (by decide) ?_
                    refine r_iaload F (ar_8_31 0 (by decide)) dX8_keep_114 ?_
                    refine r_putI F frX8_553 (by decide) rfl rfl dX8_keep_115 fun h10 => ?_
                    refine r_aload_n F 0 rfl dX8_keep_118 rfl ?_
                    refine r_aload_n F 0 rfl dX8_keep_119 rfl ?_
                    refine r_getA F frX8_112 (by decide) dX8_keep_120 ?_
                    refine r_iconst F (v := 0) dX8_keep_123 (by decide) ?_
                    refine r_iaload F (ar_8_32 0 (by decide)) dX8_keep_124 ?_
                    refine r_putI F frX8_556 (by decide) rfl rfl dX8_keep_125 fun h11 => ?_
                    refine r_aload_n F 0 rfl dX8_keep_128 rfl ?_
                    refine r_aload_n F 0 rfl dX8_keep_129 rfl ?_
                    refine r_getA F frX8_115 (by decide) dX8_keep_130 ?_
                    refine r_iconst F (v := 0) dX8_keep_133 (by decide) ?_
                    refine r_iaload F (ar_8_33 0 (by decide)) dX8_keep_134 ?_
                    refine r_putI F frX8_559 (by decide) rfl rfl dX8_keep_135 fun h12 => ?_
                    refine r_aload_n F 0 rfl dX8_keep_138 rfl ?_
                    refine r_aload_n F 0 rfl dX8_keep_139 rfl ?_
                    refine r_getL F frX8_366 (by decide) dX8_keep_140 ?_
                    refine r_putL F frX8_562 (by decide) rfl rfl dX8_keep_143 fun h13 => ?_
                    refine r_aload_n F 0 rfl dX8_keep_146 rfl ?_
                    refine r_getA F frX8_115 (by decide) dX8_keep_147 ?_
                    refine r_iconst F (v := 0) dX8_keep_150 (by decide) ?_
                    refine r_iaload F (ar_8_33 0 (by decide)) dX8_keep_151 ?_
                    exact r_iret F hA rfl rfl trivial dX8_keep_152
                  refine r_aload_n F 0 rfl dX8_keep_90 rfl ?_
                  refine r_getA F frX8_154 (by decide) dX8_keep_91 ?_
                  refine r_iload_n F 1 rfl dX8_keep_94 rfl ?_
                  refine r_aload_n F 0 rfl dX8_keep_95 rfl ?_
                  refine r_getA F frX8_106 (by decide) dX8_keep_96 ?_
                  refine r_iload_n F 1 rfl dX8_keep_99 rfl ?_
                  refine r_iaload F (ar_8_30 0 (by decide)) dX8_keep_100 ?_
                  refine r_iastore F (ar_8_44 0 (by decide)) dX8_keep_101 fun h14 => ?_
                  refine r_iinc F (v := 1) 1 rfl (by decide) (fun v15 => [(1, .int v15), (0, .ref (adr (xG X) 8 0 0))]) (fun _ => rfl) dX8_keep_102 (hS _ (by decide)) fun v15 => ?_
                  refine r_goto F (tgt := 84) dX8_keep_105 (by decide) ?_
                  exact Wt_pick [1, 0] rfl (ih84 v15 h14)
              exact Wt_pick [1, 0] rfl (hl84 N 0 h7)
            refine r_aload_n F 0 rfl dX8_keep_52 rfl ?_
            refine r_getA F frX8_148 (by decide) dX8_keep_53 ?_
            refine r_iload_n F 1 rfl dX8_keep_56 rfl ?_
            refine r_aload_n F 0 rfl dX8_keep_57 rfl ?_
            refine r_getA F frX8_100 (by decide) dX8_keep_58 ?_
            refine r_iload_n F 1 rfl dX8_keep_61 rfl ?_
            refine r_iaload F (ar_8_28 0 (by decide)) dX8_keep_62 ?_
            refine r_iastore F (ar_8_42 0 (by decide)) dX8_keep_63 fun h16 => ?_
            refine r_aload_n F 0 rfl dX8_keep_64 rfl ?_
            refine r_getA F frX8_151 (by decide) dX8_keep_65 ?_
            refine r_iload_n F 1 rfl dX8_keep_68 rfl ?_
            refine r_aload_n F 0 rfl dX8_keep_69 rfl ?_
            refine r_getA F frX8_103 (by decide) dX8_keep_70 ?_
            refine r_iload_n F 1 rfl dX8_keep_73 rfl ?_
            refine r_iaload F (ar_8_29 0 (by decide)) dX8_keep_74 ?_
            refine r_iastore F (ar_8_43 0 (by decide)) dX8_keep_75 fun h17 => ?_
            refine r_iinc F (v := 1) 1 rfl (by decide) (fun v18 => [(1, .int v18), (0, .ref (adr (xG X) 8 0 0))]) (fun _ => rfl) dX8_keep_76 (hS _ (by decide)) fun v18 => ?_
            refine r_goto F (tgt := 47) dX8_keep_79 (by decide) ?_
            exact Wt_pick [1, 0] rfl (ih47 v18 h17)
        exact Wt_pick [1, 0] rfl (hl47 N 0 h5)
      refine r_aload_n F 0 rfl dX8_keep_27 rfl ?_
      refine r_getA F frX8_145 (by decide) dX8_keep_28 ?_
      refine r_iload_n F 1 rfl dX8_keep_31 rfl ?_
      refine r_aload_n F 0 rfl dX8_keep_32 rfl ?_
      refine r_getA F frX8_85 (by decide) dX8_keep_33 ?_
      refine r_iload_n F 1 rfl dX8_keep_36 rfl ?_
      refine r_iaload F (ar_8_23 0 (by decide)) dX8_keep_37 ?_
      refine r_iastore F (ar_8_41 0 (by decide)) dX8_keep_38 fun h19 => ?_
      refine r_iinc F (v := 1) 1 rfl (by decide) (fun v20 => [(1, .int v20), (0, .ref (adr (xG X) 8 0 0))]) (fun _ => rfl) dX8_keep_39 (hS _ (by decide)) fun v20 => ?_
      refine r_goto F (tgt := 21) dX8_keep_42 (by decide) ?_
      exact Wt_pick [1, 0] rfl (ih21 v20 h19)
  exact Wt_pick [1, 0] rfl (hl21 N 0 h3)
theorem c_X8_keep (G : Gx) (l : Launch) (N : Nat) (h : Hp) : Ctr G l yX8_keep (.code yX8_keep cX8_keep 2 (some .int) :: GT) rmX8_keep [.ref (adr G 8 0 0)] h (f_X8_keep N h) (fun v => some (.int v.1)) (fun v => v.2) (fun _ => True) :=
  ctr_of (by decide) (Nat.le_of_ble_eq_true rfl) ⟨rfl, rfl⟩ fun X _ e2 hA hL F => by subst e2; exact w_X8_keep X F hA hL N h
def f_X8_back_88 (r88 : Int32 → Hp → Option (Int32 × Hp)) (v7 : Int32) (h8 : Hp) : Option (Int32 × Hp) :=
  if 6 ≤ v7 then
    grd (inb 0 2) <| lt_ (sA h8 8 0 31 (0 : Int32).toNatClampNeg (gI h8 8 0 84)) fun h9 =>
    grd (inb 0 2) <| lt_ (sA h9 8 0 32 (0 : Int32).toNatClampNeg (gI h9 8 0 85)) fun h10 =>
    grd (inb 0 2) <| lt_ (sA h10 8 0 33 (0 : Int32).toNatClampNeg (gI h10 8 0 86)) fun h11 =>
    lt_ (sL h11 8 0 62 (gL h11 8 0 87)) fun h12 =>
    lt_ (sI h12 8 0 76 0) fun h13 =>
    grd (inb 0 2) <|
    some ((gA h13 8 0 33 (0 : Int32).toNatClampNeg), h13)
  else
  grd (inb v7 6) <|
  grd (inb v7 12) <| lt_ (sA h8 8 0 30 v7.toNatClampNeg (gA h8 8 0 44 v7.toNatClampNeg)) fun h14 =>
  lt_ (v7 + 1) fun v15 =>
  r88 v15 h14
def f_X8_back_51 (N : Nat) (r51 : Int32 → Hp → Option (Int32 × Hp)) (v5 : Int32) (h6 : Hp) : Option (Int32 × Hp) :=
  if 4 ≤ v5 then
    iter (fun _ _ => none) f_X8_back_88 N 0 h6
  else
  grd (inb v5 4) <|
  grd (inb v5 8) <| lt_ (sA h6 8 0 28 v5.toNatClampNeg (gA h6 8 0 42 v5.toNatClampNeg)) fun h16 =>
  grd (inb v5 4) <|
  grd (inb v5 8) <| lt_ (sA h16 8 0 29 v5.toNatClampNeg (gA h16 8 0 43 v5.toNatClampNeg)) fun h17 =>
  lt_ (v5 + 1) fun v18 =>
  r51 v18 h17
def f_X8_back_25 (N : Nat) (r25 : Int32 → Hp → Option (Int32 × Hp)) (v3 : Int32) (h4 : Hp) : Option (Int32 × Hp) :=
  if 8 ≤ v3 then
    iter (fun _ _ => none) (f_X8_back_51 N) N 0 h4
  else
  grd (inb v3 8) <|
  grd (inb v3 16) <| lt_ (sA h4 8 0 23 v3.toNatClampNeg (gA h4 8 0 41 v3.toNatClampNeg)) fun h19 =>
  lt_ (v3 + 1) fun v20 =>
  r25 v20 h19
def f_X8_back (N : Nat) (h : Hp) : Option (Int32 × Hp) :=
  lt_ (sI h 8 0 2 0) fun h1 =>
  if ¬ (b2i (gZ h1 8 0 78)) = 0 then
    (f_X8_take N h1 8 0 40 0).bind fun h2 =>
    iter (fun _ _ => none) (f_X8_back_25 N) N 0 h2
  else
  some ((-1), h1)
abbrev rmX8_back : Room := { frames := 1, cells := 0, slots := 0, locals := 23 }
set_option maxRecDepth 100000 in
set_option maxHeartbeats 4000000 in
theorem w_X8_back (X : Cx) (F : Fx X cX8_back RX8 (some .int) rmX8_back) (hA : xA X = Aw (xG X)) (hL : xL X = 2) (N : Nat) (h : Hp) : Wm X (fun v => some (.int v.1)) (fun v => v.2) (fun _ => True) 0 [(0, .ref (adr (xG X) 8 0 0))] [] h (f_X8_back N h) := by
  have hS : ∀ i : Nat, i < 2 → i < xL X := fun i z => by rw [hL]; exact z
  unfold f_X8_back
  refine r_aload_n F 0 rfl dX8_back_0 rfl ?_
  refine r_iconst F (v := 0) dX8_back_1 (by decide) ?_
  refine r_putI F frX8_163 (by decide) rfl rfl dX8_back_2 fun h1 => ?_
  refine r_aload_n F 0 rfl dX8_back_5 rfl ?_
  refine r_getZ F frX8_379 (by decide) dX8_back_6 ?_
  refine r_ifne F (tgt := 14) dX8_back_9 (by decide) ?_ ?_
  · skip
    refine r_aload_n F 0 rfl dX8_back_14 rfl ?_
    refine r_aload_n F 0 rfl dX8_back_15 rfl ?_
    refine r_getA F frX8_142 (by decide) dX8_back_16 ?_
    refine r_iconst F (v := 0) dX8_back_19 (by decide) ?_
    refine k_vH (run_V F cvX8_550 (by decide) (c_X8_take (xG X) _ N h1 8 0 40 (ar_8_40 0 (by decide)) 0) rfl rfl ⟨⟨rfl, rfl⟩, Nat.le_of_ble_eq_true rfl, Nat.le_of_ble_eq_true rfl⟩ (Nat.le_of_ble_eq_true rfl) dX8_back_20) fun h2 => ?_
    refine r_iconst F (v := 0) dX8_back_23 (by decide) ?_
    refine r_istore_n F [(1, .int 0), (0, .ref (adr (xG X) 8 0 0))] rfl dX8_back_24 rfl (hS _ (by decide)) ?_
    have hl25 : ∀ n : Nat, ∀ v3 : Int32, ∀ h4 : Hp, Wm X (fun v => some (.int v.1)) (fun v => v.2) (fun _ => True) 25 [(0, .ref (adr (xG X) 8 0 0)), (1, .int v3)] [] h4 (iter (fun _ _ => none) (f_X8_back_25 N) n v3 h4) := by
      intro n
      induction n with
      | zero => intro v3 h4; exact Wt_none
      | succ n ih =>
        revert ih
        show (∀ v3 : Int32, ∀ h4 : Hp, Wm X (fun v => some (.int v.1)) (fun v => v.2) (fun _ => True) 25 [(0, .ref (adr (xG X) 8 0 0)), (1, .int v3)] [] h4 (iter (fun _ _ => none) (f_X8_back_25 N) n v3 h4)) → _
        intro ih25 v3 h4
        show Wm X (fun v => some (.int v.1)) (fun v => v.2) (fun _ => True) 25 [(0, .ref (adr (xG X) 8 0 0)), (1, .int v3)] [] h4 (f_X8_back_25 N (iter (fun _ _ => none) (f_X8_back_25 N) n) v3 h4)
        revert ih25
        generalize iter (fun _ _ => none) (f_X8_back_25 N) n = r25
        intro ih25
        unfold f_X8_back_25
        refine r_iload_n F 1 rfl dX8_back_25 rfl ?_
        refine r_bipush F (v := 8) dX8_back_26 (by decide) ?_
        refine r_icmpge F (tgt := 49) dX8_back_28 (by decide) ?_ ?_
        · skip
          refine r_iconst F (v := 0) dX8_back_49 (by decide) ?_
          refine r_istore_n F [(1, .int 0), (0, .ref (adr (xG X) 8 0 0))] rfl dX8_back_50 rfl (hS _ (by decide)) ?_
          have hl51 : ∀ n : Nat, ∀ v5 : Int32, ∀ h6 : Hp, Wm X (fun v => some (.int v.1)) (fun v => v.2) (fun _ => True) 51 [(0, .ref (adr (xG X) 8 0 0)), (1, .int v5)] [] h6 (iter (fun _ _ => none) (f_X8_back_51 N) n v5 h6) := by
            intro n
            induction n with
            | zero => intro v5 h6; exact Wt_none
            | succ n ih =>
              revert ih
              show (∀ v5 : Int32, ∀ h6 : Hp, Wm X (fun v => some (.int v.1)) (fun v => v.2) (fun _ => True) 51 [(0, .ref (adr (xG X) 8 0 0)), (1, .int v5)] [] h6 (iter (fun _ _ => none) (f_X8_back_51 N) n v5 h6)) → _
              intro ih51 v5 h6
              show Wm X (fun v => some (.int v.1)) (fun v => v.2) (fun _ => True) 51 [(0, .ref (adr (xG X) 8 0 0)), (1, .int v5)] [] h6 (f_X8_back_51 N (iter (fun _ _ => none) (f_X8_back_51 N) n) v5 h6)
              revert ih51
              generalize iter (fun _ _ => none) (f_X8_back_51 N) n = r51
              intro ih51
              unfold f_X8_back_51
              refine r_iload_n F 1 rfl dX8_back_51 rfl ?_
              refine r_iconst F (v := 4) dX8_back_52 (by decide) ?_
              refine r_icmpge F (tgt := 86) dX8_back_53 (by decide) ?_ ?_
              · skip
                refine r_iconst F (v := 0) dX8_back_86 (by decide) ?_
                refine r_istore_n F [(1, .int 0), (0, .ref (adr (xG X) 8 0 0))] rfl dX8_back_87 rfl (hS _ (by decide)) ?_
                have hl88 : ∀ n : Nat, ∀ v7 : Int32, ∀ h8 : Hp, Wm X (fun v => some (.int v.1)) (fun v => v.2) (fun _ => True) 88 [(0, .ref (adr (xG X) 8 0 0)), (1, .int v7)] [] h8 (iter (fun _ _ => none) f_X8_back_88 n v7 h8) := by
                  intro n
                  induction n with
                  | zero => intro v7 h8; exact Wt_none
                  | succ n ih =>
                    revert ih
                    show (∀ v7 : Int32, ∀ h8 : Hp, Wm X (fun v => some (.int v.1)) (fun v => v.2) (fun _ => True) 88 [(0, .ref (adr (xG X) 8 0 0)), (1, .int v7)] [] h8 (iter (fun _ _ => none) f_X8_back_88 n v7 h8)) → _
                    intro ih88 v7 h8
                    show Wm X (fun v => some (.int v.1)) (fun v => v.2) (fun _ => True) 88 [(0, .ref (adr (xG X) 8 0 0)), (1, .int v7)] [] h8 (f_X8_back_88 (iter (fun _ _ => none) f_X8_back_88 n) v7 h8)
                    revert ih88
                    generalize iter (fun _ _ => none) f_X8_back_88 n = r88
                    intro ih88
                    unfold f_X8_back_88
                    refine r_iload_n F 1 rfl dX8_back_88 rfl ?_
                    refine r_bipush F (v := 6) dX8_back_89 (by decide) ?_
                    refine r_icmpge F (tgt := 112) dX8_back_91 (by decide) ?_ ?_
                    · skip
                      refine r_aload_n F 0 rfl dX8_back_112 rfl ?_
                      refine r_getA F frX8_109 (by decide) dX8_back_113 ?_
                      refine r_iconst F (v := 0) dX8_back_116 (by decide) ?_
                      refine r_aload_n F 0 rfl dX8_back_117 rfl ?_
                      refine r_getI F frX8_553 (by decide) dX8_back_118 ?_
                      refine r_iastore F (ar_8_31 0 (by decide)) dX8_back_121 fun h9 => ?_
                      refine r_aload_n F 0 rfl dX8_back_122 rfl ?_
                      refine r_getA F frX8_112 (by decide) dX8_back_123 ?_
                      refine r_iconst F (v := 0) dX8_back_126 (by decide) ?_
                      refine r_aload_n F 0 rfl dX8_back_127 rfl ?_
                      refine r_getI F frX8_556 (by decide) dX8_back_128 ?_
                      refine r_iastore F (ar_8_32 0 (by decide)) dX8_back_131 fun h10 => ?_
                      refine r_aload_n F 0 rfl dX8_back_132 rfl ?_
                      refine r_getA F frX8_115 (by decide) dX8_back_133 ?_
                      refine r_iconst F (v := 0) dX8_back_136 (by decide) ?_
                      refine r_aload_n F 0 rfl dX8_back_137 rfl ?_
                      refine r_getI F frX8_559 (by decide) dX8_back_138 ?_
                      refine r_iastore F (ar_8_33 0 (by decide)) dX8_back_141 fun h11 => ?_
                      refine r_aload_n F 0 rfl dX8_back_142 rfl ?_
                      refine r_aload_n F 0 rfl dX8_back_143 rfl ?_
                      refine r_getL F frX8_562 (by decide) dX8_back_144 ?_
                      refine r_putL F frX8_366 (by decide) rfl rfl dX8_back_147 fun h12 => ?_
                      refine r_aload_n F 0 rfl dX8_back_150 rfl ?_
                      refine r_iconst F (v := 0) dX8_back_151 (by decide) ?_
                      refine r_putI F frX8_376 (by decide) rfl rfl dX8_back_152 fun h13 => ?_
                      refine r_aload_n F 0 rfl dX8_back_155 rfl ?_
                      refine r_getA F frX8_115 (by decide) dX8_back_156 ?_
                      refine r_iconst F (v := 0) dX8_back_159 (by decide) ?_
                      refine r_iaload F (ar_8_33 0 (by decide)) dX8_back_160 ?_
                      exact r_iret F hA rfl rfl trivial dX8_back_161
                    refine r_aload_n F 0 rfl dX8_back_94 rfl ?_
                    refine r_getA F frX8_106 (by decide) dX8_back_95 ?_
                    refine r_iload_n F 1 rfl dX8_back_98 rfl ?_
                    refine r_aload_n F 0 rfl dX8_back_99 rfl ?_
                    refine r_getA F frX8_154 (by decide) dX8_back_100 ?_
                    refine r_iload_n F 1 rfl dX8_back_103 rfl ?_
                    refine r_iaload F (ar_8_44 0 (by decide)) dX8_back_104 ?_
                    refine r_iastore F (ar_8_30 0 (by decide)) dX8_back_105 fun h14 => ?_
                    refine r_iinc F (v := 1) 1 rfl (by decide) (fun v15 => [(1, .int v15), (0, .ref (adr (xG X) 8 0 0))]) (fun _ => rfl) dX8_back_106 (hS _ (by decide)) fun v15 => ?_
                    refine r_goto F (tgt := 88) dX8_back_109 (by decide) ?_
                    exact Wt_pick [1, 0] rfl (ih88 v15 h14)
                exact Wt_pick [1, 0] rfl (hl88 N 0 h6)
              refine r_aload_n F 0 rfl dX8_back_56 rfl ?_
              refine r_getA F frX8_100 (by decide) dX8_back_57 ?_
              refine r_iload_n F 1 rfl dX8_back_60 rfl ?_
              refine r_aload_n F 0 rfl dX8_back_61 rfl ?_
              refine r_getA F frX8_148 (by decide) dX8_back_62 ?_
              refine r_iload_n F 1 rfl dX8_back_65 rfl ?_
              refine r_iaload F (ar_8_42 0 (by decide)) dX8_back_66 ?_
              refine r_iastore F (ar_8_28 0 (by decide)) dX8_back_67 fun h16 => ?_
              refine r_aload_n F 0 rfl dX8_back_68 rfl ?_
              refine r_getA F frX8_103 (by decide) dX8_back_69 ?_
              refine r_iload_n F 1 rfl dX8_back_72 rfl ?_
              refine r_aload_n F 0 rfl dX8_back_73 rfl ?_
              refine r_getA F frX8_151 (by decide) dX8_back_74 ?_
              refine r_iload_n F 1 rfl dX8_back_77 rfl ?_
              refine r_iaload F (ar_8_43 0 (by decide)) dX8_back_78 ?_
              refine r_iastore F (ar_8_29 0 (by decide)) dX8_back_79 fun h17 => ?_
              refine r_iinc F (v := 1) 1 rfl (by decide) (fun v18 => [(1, .int v18), (0, .ref (adr (xG X) 8 0 0))]) (fun _ => rfl) dX8_back_80 (hS _ (by decide)) fun v18 => ?_
              refine r_goto F (tgt := 51) dX8_back_83 (by decide) ?_
              exact Wt_pick [1, 0] rfl (ih51 v18 h17)
          exact Wt_pick [1, 0] rfl (hl51 N 0 h4)
        refine r_aload_n F 0 rfl dX8_back_31 rfl ?_
        refine r_getA F frX8_85 (by decide) dX8_back_32 ?_
        refine r_iload_n F 1 rfl dX8_back_35 rfl ?_
        refine r_aload_n F 0 rfl dX8_back_36 rfl ?_
        refine r_getA F frX8_145 (by decide) dX8_back_37 ?_
        refine r_iload_n F 1 rfl dX8_back_40 rfl ?_
        refine r_iaload F (ar_8_41 0 (by decide)) dX8_back_41 ?_
        refine r_iastore F (ar_8_23 0 (by decide)) dX8_back_42 fun h19 => ?_
        refine r_iinc F (v := 1) 1 rfl (by decide) (fun v20 => [(1, .int v20), (0, .ref (adr (xG X) 8 0 0))]) (fun _ => rfl) dX8_back_43 (hS _ (by decide)) fun v20 => ?_
        refine r_goto F (tgt := 25) dX8_back_46 (by decide) ?_
        exact Wt_pick [1, 0] rfl (ih25 v20 h19)
    exact Wt_pick [1, 0] rfl (hl25 N 0 h2)
  refine r_iconst F (v := (-1)) dX8_back_12 (by decide) ?_
  exact r_iret F hA rfl rfl trivial dX8_back_13
theorem c_X8_back (G : Gx) (l : Launch) (N : Nat) (h : Hp) : Ctr G l yX8_back (.code yX8_back cX8_back 2 (some .int) :: GT) rmX8_back [.ref (adr G 8 0 0)] h (f_X8_back N h) (fun v => some (.int v.1)) (fun v => v.2) (fun _ => True) :=
  ctr_of (by decide) (Nat.le_of_ble_eq_true rfl) ⟨rfl, rfl⟩ fun X _ e2 hA hL F => by subst e2; exact w_X8_back X F hA hL N h
def f_X8_count (N : Nat) (h : Hp) (p1 : Int32) : Option (Int32 × Hp) :=
  lt_ (sI h 8 0 2 0) fun h1 =>
  if p1 = 0 then
    some ((gI h1 8 0 12), h1)
  else
  if p1 = 1 then
    some ((gI h1 8 0 13), h1)
  else
  if p1 = 2 then
    some ((gI h1 8 0 14), h1)
  else
  if p1 = 3 then
    some ((gI h1 8 0 15), h1)
  else
  if p1 = 4 then
    some ((gI h1 8 0 16), h1)
  else
  if p1 = 5 then
    grd (inb 0 2) <|
    some ((gA h1 8 0 33 (0 : Int32).toNatClampNeg), h1)
  else
  if p1 = 6 then
    (f_X8_allLies N h1 0).bind fun v2 =>
    some (v2, h1)
  else
  if p1 = 7 then
    grd (inb 0 2) <|
    some ((gA h1 8 0 31 (0 : Int32).toNatClampNeg), h1)
  else
  if p1 = 8 then
    grd (inb 0 2) <|
    some ((gA h1 8 0 32 (0 : Int32).toNatClampNeg), h1)
  else
  if p1 = 9 then
    (f_X8_gotAll N h1 0).bind fun v3 =>
    some (v3, h1)
  else
  if p1 = 10 then
    (f_X8_gains N h1 0).bind fun v4 =>
    some (v4, h1)
  else
  if p1 = 11 then
    some ((gI h1 8 0 61), h1)
  else
  if p1 = 12 then
    some ((gI h1 8 0 72), h1)
  else
  if p1 = 13 then
    (f_X8_knownBy h1).bind fun v5 =>
    some (v5, h1)
  else
  if p1 = 14 then
    some ((gI h1 8 0 76), h1)
  else
  some ((-1), h1)
abbrev rmX8_count : Room := { frames := 1, cells := 0, slots := 0, locals := 23 }
set_option maxRecDepth 100000 in
set_option maxHeartbeats 4000000 in
theorem w_X8_count (X : Cx) (F : Fx X cX8_count RX8 (some .int) rmX8_count) (hA : xA X = Aw (xG X)) (hL : xL X = 2) (N : Nat) (h : Hp) (p1 : Int32) : Wm X (fun v => some (.int v.1)) (fun v => v.2) (fun _ => True) 0 [(0, .ref (adr (xG X) 8 0 0)), (1, .int p1)] [] h (f_X8_count N h p1) := by
  have hS : ∀ i : Nat, i < 2 → i < xL X := fun i z => by rw [hL]; exact z
  unfold f_X8_count
  refine r_aload_n F 0 rfl dX8_count_0 rfl ?_
  refine r_iconst F (v := 0) dX8_count_1 (by decide) ?_
  refine r_putI F frX8_163 (by decide) rfl rfl dX8_count_2 fun h1 => ?_
  refine r_iload_n F 1 rfl dX8_count_5 rfl ?_
  refine r_tsc F (tgt := 80) 0 0 dX8_count_6 rfl (by decide) (by decide) (by decide) ?_ fun n0 => ?_
  · skip
    refine r_aload_n F 0 rfl dX8_count_80 rfl ?_
    refine r_getI F frX8_243 (by decide) dX8_count_81 ?_
    exact r_iret F hA rfl rfl trivial dX8_count_84
  refine r_tsc F (tgt := 85) 1 1 dX8_count_6 rfl (by decide) (by decide) (by decide) ?_ fun n1 => ?_
  · skip
    refine r_aload_n F 0 rfl dX8_count_85 rfl ?_
    refine r_getI F frX8_246 (by decide) dX8_count_86 ?_
    exact r_iret F hA rfl rfl trivial dX8_count_89
  refine r_tsc F (tgt := 90) 2 2 dX8_count_6 rfl (by decide) (by decide) (by decide) ?_ fun n2 => ?_
  · skip
    refine r_aload_n F 0 rfl dX8_count_90 rfl ?_
    refine r_getI F frX8_249 (by decide) dX8_count_91 ?_
    exact r_iret F hA rfl rfl trivial dX8_count_94
  refine r_tsc F (tgt := 95) 3 3 dX8_count_6 rfl (by decide) (by decide) (by decide) ?_ fun n3 => ?_
  · skip
    refine r_aload_n F 0 rfl dX8_count_95 rfl ?_
    refine r_getI F frX8_252 (by decide) dX8_count_96 ?_
    exact r_iret F hA rfl rfl trivial dX8_count_99
  refine r_tsc F (tgt := 100) 4 4 dX8_count_6 rfl (by decide) (by decide) (by decide) ?_ fun n4 => ?_
  · skip
    refine r_aload_n F 0 rfl dX8_count_100 rfl ?_
    refine r_getI F frX8_255 (by decide) dX8_count_101 ?_
    exact r_iret F hA rfl rfl trivial dX8_count_104
  refine r_tsc F (tgt := 105) 5 5 dX8_count_6 rfl (by decide) (by decide) (by decide) ?_ fun n5 => ?_
  · skip
    refine r_aload_n F 0 rfl dX8_count_105 rfl ?_
    refine r_getA F frX8_115 (by decide) dX8_count_106 ?_
    refine r_iconst F (v := 0) dX8_count_109 (by decide) ?_
    refine r_iaload F (ar_8_33 0 (by decide)) dX8_count_110 ?_
    exact r_iret F hA rfl rfl trivial dX8_count_111
  refine r_tsc F (tgt := 112) 6 6 dX8_count_6 rfl (by decide) (by decide) (by decide) ?_ fun n6 => ?_
  · skip
    refine r_aload_n F 0 rfl dX8_count_112 rfl ?_
    refine r_iconst F (v := 0) dX8_count_113 (by decide) ?_
    refine k_iP (run_V F cvX8_442 (by decide) (c_X8_allLies (xG X) _ N h1 0) rfl rfl ⟨⟨rfl, rfl⟩, Nat.le_of_ble_eq_true rfl, Nat.le_of_ble_eq_true rfl⟩ (Nat.le_of_ble_eq_true rfl) dX8_count_114) fun v2 _ => ?_
    exact r_iret F hA rfl rfl trivial dX8_count_117
  refine r_tsc F (tgt := 118) 7 7 dX8_count_6 rfl (by decide) (by decide) (by decide) ?_ fun n7 => ?_
  · skip
    refine r_aload_n F 0 rfl dX8_count_118 rfl ?_
    refine r_getA F frX8_109 (by decide) dX8_count_119 ?_
    refine r_iconst F (v := 0) dX8_count_122 (by decide) ?_
    refine r_iaload F (ar_8_31 0 (by decide)) dX8_count_123 ?_
    exact r_iret F hA rfl rfl trivial dX8_count_124
  refine r_tsc F (tgt := 125) 8 8 dX8_count_6 rfl (by decide) (by decide) (by decide) ?_ fun n8 => ?_
  · skip
    refine r_aload_n F 0 rfl dX8_count_125 rfl ?_
    refine r_getA F frX8_112 (by decide) dX8_count_126 ?_
    refine r_iconst F (v := 0) dX8_count_129 (by decide) ?_
    refine r_iaload F (ar_8_32 0 (by decide)) dX8_count_130 ?_
    exact r_iret F hA rfl rfl trivial dX8_count_131
  refine r_tsc F (tgt := 132) 9 9 dX8_count_6 rfl (by decide) (by decide) (by decide) ?_ fun n9 => ?_
  · skip
    refine r_aload_n F 0 rfl dX8_count_132 rfl ?_
    refine r_iconst F (v := 0) dX8_count_133 (by decide) ?_
    refine k_iP (run_V F cvX8_494 (by decide) (c_X8_gotAll (xG X) _ N h1 0) rfl rfl ⟨⟨rfl, rfl⟩, Nat.le_of_ble_eq_true rfl, Nat.le_of_ble_eq_true rfl⟩ (Nat.le_of_ble_eq_true rfl) dX8_count_134) fun v3 _ => ?_
    exact r_iret F hA rfl rfl trivial dX8_count_137
  refine r_tsc F (tgt := 138) 10 10 dX8_count_6 rfl (by decide) (by decide) (by decide) ?_ fun n10 => ?_
  · skip
    refine r_aload_n F 0 rfl dX8_count_138 rfl ?_
    refine r_iconst F (v := 0) dX8_count_139 (by decide) ?_
    refine k_iP (run_V F cvX8_497 (by decide) (c_X8_gains (xG X) _ N h1 0) rfl rfl ⟨⟨rfl, rfl⟩, Nat.le_of_ble_eq_true rfl, Nat.le_of_ble_eq_true rfl⟩ (Nat.le_of_ble_eq_true rfl) dX8_count_140) fun v4 _ => ?_
    exact r_iret F hA rfl rfl trivial dX8_count_143
  refine r_tsc F (tgt := 144) 11 11 dX8_count_6 rfl (by decide) (by decide) (by decide) ?_ fun n11 => ?_
  · skip
    refine r_aload_n F 0 rfl dX8_count_144 rfl ?_
    refine r_getI F frX8_363 (by decide) dX8_count_145 ?_
    exact r_iret F hA rfl rfl trivial dX8_count_148
  refine r_tsc F (tgt := 149) 12 12 dX8_count_6 rfl (by decide) (by decide) (by decide) ?_ fun n12 => ?_
  · skip
    refine r_aload_n F 0 rfl dX8_count_149 rfl ?_
    refine r_getI F frX8_373 (by decide) dX8_count_150 ?_
    exact r_iret F hA rfl rfl trivial dX8_count_153
  refine r_tsc F (tgt := 154) 13 13 dX8_count_6 rfl (by decide) (by decide) (by decide) ?_ fun n13 => ?_
  · skip
    refine r_aload_n F 0 rfl dX8_count_154 rfl ?_
    refine k_iP (run_V F cvX8_541 (by decide) (c_X8_knownBy (xG X) _ h1) rfl rfl ⟨⟨rfl, rfl⟩, Nat.le_of_ble_eq_true rfl, Nat.le_of_ble_eq_true rfl⟩ (Nat.le_of_ble_eq_true rfl) dX8_count_155) fun v5 _ => ?_
    exact r_iret F hA rfl rfl trivial dX8_count_158
  refine r_tsc F (tgt := 159) 14 14 dX8_count_6 rfl (by decide) (by decide) (by decide) ?_ fun n14 => ?_
  · skip
    refine r_aload_n F 0 rfl dX8_count_159 rfl ?_
    refine r_getI F frX8_376 (by decide) dX8_count_160 ?_
    exact r_iret F hA rfl rfl trivial dX8_count_163
  refine r_tsd F (tgt := 164) dX8_count_6 (by have e0 := lv_neT n0 (a := 0) (by decide); have e1 := lv_neT n1 (a := 1) (by decide); have e2 := lv_neT n2 (a := 2) (by decide); have e3 := lv_neT n3 (a := 3) (by decide); have e4 := lv_neT n4 (a := 4) (by decide); have e5 := lv_neT n5 (a := 5) (by decide); have e6 := lv_neT n6 (a := 6) (by decide); have e7 := lv_neT n7 (a := 7) (by decide); have e8 := lv_neT n8 (a := 8) (by decide); have e9 := lv_neT n9 (a := 9) (by decide); have e10 := lv_neT n10 (a := 10) (by decide); have e11 := lv_neT n11 (a := 11) (by decide); have e12 := lv_neT n12 (a := 12) (by decide); have e13 := lv_neT n13 (a := 13) (by decide); have e14 := lv_neT n14 (a := 14) (by decide); omega) (by decide) ?_
  refine r_iconst F (v := (-1)) dX8_count_164 (by decide) ?_
  exact r_iret F hA rfl rfl trivial dX8_count_165
theorem c_X8_count (G : Gx) (l : Launch) (N : Nat) (h : Hp) (p1 : Int32) : Ctr G l yX8_count (.code yX8_count cX8_count 2 (some .int) :: GT) rmX8_count [.ref (adr G 8 0 0), .int p1] h (f_X8_count N h p1) (fun v => some (.int v.1)) (fun v => v.2) (fun _ => True) :=
  ctr_of (by decide) (Nat.le_of_ble_eq_true rfl) ⟨rfl, rfl⟩ fun X _ e2 hA hL F => by subst e2; exact w_X8_count X F hA hL N h p1
