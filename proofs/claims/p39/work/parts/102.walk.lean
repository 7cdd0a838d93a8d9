theorem dX4_begin_0 : decode cX4_begin 0 = .ok (.aload_n 0, 1) := by decide +kernel
theorem dX4_begin_1 : decode cX4_begin 1 = .ok (.iload_n 1, 1) := by decide +kernel
theorem dX4_begin_2 : decode cX4_begin 2 = .ok (.aload_n 0, 1) := by decide +kernel
theorem dX4_begin_3 : decode cX4_begin 3 = .ok (.getfield 9, 3) := by decide +kernel
theorem dX4_begin_6 : decode cX4_begin 6 = .ok (.arraylength, 1) := by decide +kernel
theorem dX4_begin_7 : decode cX4_begin 7 = .ok (.invokestatic 34, 3) := by decide +kernel
theorem dX4_begin_10 : decode cX4_begin 10 = .ok (.putfield 40, 3) := by decide +kernel
theorem dX4_begin_13 : decode cX4_begin 13 = .ok (.aload_n 0, 1) := by decide +kernel
theorem dX4_begin_14 : decode cX4_begin 14 = .ok (.iconst 0, 1) := by decide +kernel
theorem dX4_begin_15 : decode cX4_begin 15 = .ok (.putfield 42, 3) := by decide +kernel
theorem dX4_begin_18 : decode cX4_begin 18 = .ok (.aload_n 0, 1) := by decide +kernel
theorem dX4_begin_19 : decode cX4_begin 19 = .ok (.invokevirtual 45, 3) := by decide +kernel
theorem dX4_begin_22 : decode cX4_begin 22 = .ok (.return_, 1) := by decide +kernel
theorem dX1_fails_0 : decode cX1_fails 0 = .ok (.aload_n 0, 1) := by decide +kernel
theorem dX1_fails_1 : decode cX1_fails 1 = .ok (.iload_n 1, 1) := by decide +kernel
theorem dX1_fails_2 : decode cX1_fails 2 = .ok (.putfield 34, 3) := by decide +kernel
theorem dX1_fails_5 : decode cX1_fails 5 = .ok (.aload_n 0, 1) := by decide +kernel
theorem dX1_fails_6 : decode cX1_fails 6 = .ok (.aload_n 0, 1) := by decide +kernel
theorem dX1_fails_7 : decode cX1_fails 7 = .ok (.getfield 21, 3) := by decide +kernel
theorem dX1_fails_10 : decode cX1_fails 10 = .ok (.getfield 97, 3) := by decide +kernel
theorem dX1_fails_13 : decode cX1_fails 13 = .ok (.putfield 38, 3) := by decide +kernel
theorem dX1_fails_16 : decode cX1_fails 16 = .ok (.iconst 0, 1) := by decide +kernel
theorem dX1_fails_17 : decode cX1_fails 17 = .ok (.ireturn, 1) := by decide +kernel
theorem dX1_takeNumber_0 : decode cX1_takeNumber 0 = .ok (.aload_n 0, 1) := by decide +kernel
theorem dX1_takeNumber_1 : decode cX1_takeNumber 1 = .ok (.getfield 21, 3) := by decide +kernel
theorem dX1_takeNumber_4 : decode cX1_takeNumber 4 = .ok (.getfield 53, 3) := by decide +kernel
theorem dX1_takeNumber_7 : decode cX1_takeNumber 7 = .ok (.iconst 2, 1) := by decide +kernel
theorem dX1_takeNumber_8 : decode cX1_takeNumber 8 = .ok (.if_icmp .eq 9, 3) := by decide +kernel
theorem dX1_takeNumber_11 : decode cX1_takeNumber 11 = .ok (.aload_n 0, 1) := by decide +kernel
theorem dX1_takeNumber_12 : decode cX1_takeNumber 12 = .ok (.iconst 1, 1) := by decide +kernel
theorem dX1_takeNumber_13 : decode cX1_takeNumber 13 = .ok (.invokevirtual 93, 3) := by decide +kernel
theorem dX1_takeNumber_16 : decode cX1_takeNumber 16 = .ok (.ireturn, 1) := by decide +kernel
theorem dX1_takeNumber_17 : decode cX1_takeNumber 17 = .ok (.aload_n 0, 1) := by decide +kernel
theorem dX1_takeNumber_18 : decode cX1_takeNumber 18 = .ok (.getfield 21, 3) := by decide +kernel
theorem dX1_takeNumber_21 : decode cX1_takeNumber 21 = .ok (.getfield 103, 3) := by decide +kernel
theorem dX1_takeNumber_24 : decode cX1_takeNumber 24 = .ok (.iload_n 1, 1) := by decide +kernel
theorem dX1_takeNumber_25 : decode cX1_takeNumber 25 = .ok (.if_icmp .le 9, 3) := by decide +kernel
theorem dX1_takeNumber_28 : decode cX1_takeNumber 28 = .ok (.aload_n 0, 1) := by decide +kernel
theorem dX1_takeNumber_29 : decode cX1_takeNumber 29 = .ok (.iconst 2, 1) := by decide +kernel
theorem dX1_takeNumber_30 : decode cX1_takeNumber 30 = .ok (.invokevirtual 93, 3) := by decide +kernel
theorem dX1_takeNumber_33 : decode cX1_takeNumber 33 = .ok (.ireturn, 1) := by decide +kernel
theorem dX1_takeNumber_34 : decode cX1_takeNumber 34 = .ok (.aload_n 0, 1) := by decide +kernel
theorem dX1_takeNumber_35 : decode cX1_takeNumber 35 = .ok (.aload_n 0, 1) := by decide +kernel
theorem dX1_takeNumber_36 : decode cX1_takeNumber 36 = .ok (.getfield 21, 3) := by decide +kernel
theorem dX1_takeNumber_39 : decode cX1_takeNumber 39 = .ok (.getfield 103, 3) := by decide +kernel
theorem dX1_takeNumber_42 : decode cX1_takeNumber 42 = .ok (.putfield 106, 3) := by decide +kernel
theorem dX1_takeNumber_45 : decode cX1_takeNumber 45 = .ok (.aload_n 0, 1) := by decide +kernel
theorem dX1_takeNumber_46 : decode cX1_takeNumber 46 = .ok (.getfield 21, 3) := by decide +kernel
theorem dX1_takeNumber_49 : decode cX1_takeNumber 49 = .ok (.invokevirtual 100, 3) := by decide +kernel
theorem dX1_takeNumber_52 : decode cX1_takeNumber 52 = .ok (.iconst 1, 1) := by decide +kernel
theorem dX1_takeNumber_53 : decode cX1_takeNumber 53 = .ok (.ireturn, 1) := by decide +kernel
theorem dX1_readStripe_0 : decode cX1_readStripe 0 = .ok (.aload_n 0, 1) := by decide +kernel
theorem dX1_readStripe_1 : decode cX1_readStripe 1 = .ok (.getfield 25, 3) := by decide +kernel
theorem dX1_readStripe_4 : decode cX1_readStripe 4 = .ok (.getfield 109, 3) := by decide +kernel
theorem dX1_readStripe_7 : decode cX1_readStripe 7 = .ok (.bipush 8, 2) := by decide +kernel
theorem dX1_readStripe_9 : decode cX1_readStripe 9 = .ok (.if_icmp .lt 9, 3) := by decide +kernel
theorem dX1_readStripe_12 : decode cX1_readStripe 12 = .ok (.aload_n 0, 1) := by decide +kernel
theorem dX1_readStripe_13 : decode cX1_readStripe 13 = .ok (.iconst 2, 1) := by decide +kernel
theorem dX1_readStripe_14 : decode cX1_readStripe 14 = .ok (.invokevirtual 93, 3) := by decide +kernel
theorem dX1_readStripe_17 : decode cX1_readStripe 17 = .ok (.ireturn, 1) := by decide +kernel
theorem dX1_readStripe_18 : decode cX1_readStripe 18 = .ok (.aload_n 0, 1) := by decide +kernel
theorem dX1_readStripe_19 : decode cX1_readStripe 19 = .ok (.getfield 21, 3) := by decide +kernel
theorem dX1_readStripe_22 : decode cX1_readStripe 22 = .ok (.invokevirtual 100, 3) := by decide +kernel
theorem dX1_readStripe_25 : decode cX1_readStripe 25 = .ok (.aload_n 0, 1) := by decide +kernel
theorem dX1_readStripe_26 : decode cX1_readStripe 26 = .ok (.sipush 999, 3) := by decide +kernel
theorem dX1_readStripe_29 : decode cX1_readStripe 29 = .ok (.invokevirtual 112, 3) := by decide +kernel
theorem dX1_readStripe_32 : decode cX1_readStripe 32 = .ok (.ifCond .ne 5, 3) := by decide +kernel
theorem dX1_readStripe_35 : decode cX1_readStripe 35 = .ok (.iconst 0, 1) := by decide +kernel
theorem dX1_readStripe_36 : decode cX1_readStripe 36 = .ok (.ireturn, 1) := by decide +kernel
theorem dX1_readStripe_37 : decode cX1_readStripe 37 = .ok (.aload_n 0, 1) := by decide +kernel
theorem dX1_readStripe_38 : decode cX1_readStripe 38 = .ok (.getfield 25, 3) := by decide +kernel
theorem dX1_readStripe_41 : decode cX1_readStripe 41 = .ok (.getfield 115, 3) := by decide +kernel
theorem dX1_readStripe_44 : decode cX1_readStripe 44 = .ok (.aload_n 0, 1) := by decide +kernel
theorem dX1_readStripe_45 : decode cX1_readStripe 45 = .ok (.getfield 25, 3) := by decide +kernel
theorem dX1_readStripe_48 : decode cX1_readStripe 48 = .ok (.getfield 109, 3) := by decide +kernel
theorem dX1_readStripe_51 : decode cX1_readStripe 51 = .ok (.aload_n 0, 1) := by decide +kernel
theorem dX1_readStripe_52 : decode cX1_readStripe 52 = .ok (.getfield 106, 3) := by decide +kernel
theorem dX1_readStripe_55 : decode cX1_readStripe 55 = .ok (.iastore, 1) := by decide +kernel
theorem dX1_readStripe_56 : decode cX1_readStripe 56 = .ok (.aload_n 0, 1) := by decide +kernel
theorem dX1_readStripe_57 : decode cX1_readStripe 57 = .ok (.getfield 25, 3) := by decide +kernel
theorem dX1_readStripe_60 : decode cX1_readStripe 60 = .ok (.dup, 1) := by decide +kernel
theorem dX1_readStripe_61 : decode cX1_readStripe 61 = .ok (.getfield 109, 3) := by decide +kernel
theorem dX1_readStripe_64 : decode cX1_readStripe 64 = .ok (.iconst 1, 1) := by decide +kernel
theorem dX1_readStripe_65 : decode cX1_readStripe 65 = .ok (.iadd, 1) := by decide +kernel
theorem dX1_readStripe_66 : decode cX1_readStripe 66 = .ok (.putfield 109, 3) := by decide +kernel
theorem dX1_readStripe_69 : decode cX1_readStripe 69 = .ok (.iconst 1, 1) := by decide +kernel
theorem dX1_readStripe_70 : decode cX1_readStripe 70 = .ok (.ireturn, 1) := by decide +kernel
theorem dX5_croftNamed_0 : decode cX5_croftNamed 0 = .ok (.iconst 0, 1) := by decide +kernel
theorem dX5_croftNamed_1 : decode cX5_croftNamed 1 = .ok (.istore_n 2, 1) := by decide +kernel
theorem dX5_croftNamed_2 : decode cX5_croftNamed 2 = .ok (.iload_n 2, 1) := by decide +kernel
theorem dX5_croftNamed_3 : decode cX5_croftNamed 3 = .ok (.aload_n 0, 1) := by decide +kernel
theorem dX5_croftNamed_4 : decode cX5_croftNamed 4 = .ok (.getfield 56, 3) := by decide +kernel
theorem dX5_croftNamed_7 : decode cX5_croftNamed 7 = .ok (.if_icmp .ge 21, 3) := by decide +kernel
theorem dX5_croftNamed_10 : decode cX5_croftNamed 10 = .ok (.aload_n 0, 1) := by decide +kernel
theorem dX5_croftNamed_11 : decode cX5_croftNamed 11 = .ok (.getfield 15, 3) := by decide +kernel
theorem dX5_croftNamed_14 : decode cX5_croftNamed 14 = .ok (.iload_n 2, 1) := by decide +kernel
theorem dX5_croftNamed_15 : decode cX5_croftNamed 15 = .ok (.iaload, 1) := by decide +kernel
theorem dX5_croftNamed_16 : decode cX5_croftNamed 16 = .ok (.iload_n 1, 1) := by decide +kernel
theorem dX5_croftNamed_17 : decode cX5_croftNamed 17 = .ok (.if_icmp .ne 5, 3) := by decide +kernel
theorem dX5_croftNamed_20 : decode cX5_croftNamed 20 = .ok (.iload_n 2, 1) := by decide +kernel
theorem dX5_croftNamed_21 : decode cX5_croftNamed 21 = .ok (.ireturn, 1) := by decide +kernel
theorem dX5_croftNamed_22 : decode cX5_croftNamed 22 = .ok (.iinc 2 1, 3) := by decide +kernel
theorem dX5_croftNamed_25 : decode cX5_croftNamed 25 = .ok (.goto (-23), 3) := by decide +kernel
theorem dX5_croftNamed_28 : decode cX5_croftNamed 28 = .ok (.iconst (-1), 1) := by decide +kernel
theorem dX5_croftNamed_29 : decode cX5_croftNamed 29 = .ok (.ireturn, 1) := by decide +kernel
theorem dX1_readCroft_0 : decode cX1_readCroft 0 = .ok (.aload_n 0, 1) := by decide +kernel
theorem dX1_readCroft_1 : decode cX1_readCroft 1 = .ok (.getfield 25, 3) := by decide +kernel
theorem dX1_readCroft_4 : decode cX1_readCroft 4 = .ok (.getfield 118, 3) := by decide +kernel
theorem dX1_readCroft_7 : decode cX1_readCroft 7 = .ok (.istore_n 1, 1) := by decide +kernel
theorem dX1_readCroft_8 : decode cX1_readCroft 8 = .ok (.iload_n 1, 1) := by decide +kernel
theorem dX1_readCroft_9 : decode cX1_readCroft 9 = .ok (.iconst 4, 1) := by decide +kernel
theorem dX1_readCroft_10 : decode cX1_readCroft 10 = .ok (.if_icmp .lt 9, 3) := by decide +kernel
theorem dX1_readCroft_13 : decode cX1_readCroft 13 = .ok (.aload_n 0, 1) := by decide +kernel
theorem dX1_readCroft_14 : decode cX1_readCroft 14 = .ok (.iconst 2, 1) := by decide +kernel
theorem dX1_readCroft_15 : decode cX1_readCroft 15 = .ok (.invokevirtual 93, 3) := by decide +kernel
theorem dX1_readCroft_18 : decode cX1_readCroft 18 = .ok (.ireturn, 1) := by decide +kernel
theorem dX1_readCroft_19 : decode cX1_readCroft 19 = .ok (.aload_n 0, 1) := by decide +kernel
theorem dX1_readCroft_20 : decode cX1_readCroft 20 = .ok (.getfield 21, 3) := by decide +kernel
theorem dX1_readCroft_23 : decode cX1_readCroft 23 = .ok (.invokevirtual 100, 3) := by decide +kernel
theorem dX1_readCroft_26 : decode cX1_readCroft 26 = .ok (.aload_n 0, 1) := by decide +kernel
theorem dX1_readCroft_27 : decode cX1_readCroft 27 = .ok (.getfield 21, 3) := by decide +kernel
theorem dX1_readCroft_30 : decode cX1_readCroft 30 = .ok (.getfield 53, 3) := by decide +kernel
theorem dX1_readCroft_33 : decode cX1_readCroft 33 = .ok (.iconst 3, 1) := by decide +kernel
theorem dX1_readCroft_34 : decode cX1_readCroft 34 = .ok (.if_icmp .eq 9, 3) := by decide +kernel
theorem dX1_readCroft_37 : decode cX1_readCroft 37 = .ok (.aload_n 0, 1) := by decide +kernel
theorem dX1_readCroft_38 : decode cX1_readCroft 38 = .ok (.iconst 1, 1) := by decide +kernel
theorem dX1_readCroft_39 : decode cX1_readCroft 39 = .ok (.invokevirtual 93, 3) := by decide +kernel
theorem dX1_readCroft_42 : decode cX1_readCroft 42 = .ok (.ireturn, 1) := by decide +kernel
theorem dX1_readCroft_43 : decode cX1_readCroft 43 = .ok (.aload_n 0, 1) := by decide +kernel
theorem dX1_readCroft_44 : decode cX1_readCroft 44 = .ok (.getfield 25, 3) := by decide +kernel
theorem dX1_readCroft_47 : decode cX1_readCroft 47 = .ok (.aload_n 0, 1) := by decide +kernel
theorem dX1_readCroft_48 : decode cX1_readCroft 48 = .ok (.getfield 21, 3) := by decide +kernel
theorem dX1_readCroft_51 : decode cX1_readCroft 51 = .ok (.getfield 121, 3) := by decide +kernel
theorem dX1_readCroft_54 : decode cX1_readCroft 54 = .ok (.invokevirtual 124, 3) := by decide +kernel
theorem dX1_readCroft_57 : decode cX1_readCroft 57 = .ok (.iconst (-1), 1) := by decide +kernel
theorem dX1_readCroft_58 : decode cX1_readCroft 58 = .ok (.if_icmp .eq 9, 3) := by decide +kernel
theorem dX1_readCroft_61 : decode cX1_readCroft 61 = .ok (.aload_n 0, 1) := by decide +kernel
theorem dX1_readCroft_62 : decode cX1_readCroft 62 = .ok (.iconst 3, 1) := by decide +kernel
theorem dX1_readCroft_63 : decode cX1_readCroft 63 = .ok (.invokevirtual 93, 3) := by decide +kernel
theorem dX1_readCroft_66 : decode cX1_readCroft 66 = .ok (.ireturn, 1) := by decide +kernel
theorem dX1_readCroft_67 : decode cX1_readCroft 67 = .ok (.aload_n 0, 1) := by decide +kernel
theorem dX1_readCroft_68 : decode cX1_readCroft 68 = .ok (.getfield 25, 3) := by decide +kernel
theorem dX1_readCroft_71 : decode cX1_readCroft 71 = .ok (.getfield 128, 3) := by decide +kernel
theorem dX1_readCroft_74 : decode cX1_readCroft 74 = .ok (.iload_n 1, 1) := by decide +kernel
theorem dX1_readCroft_75 : decode cX1_readCroft 75 = .ok (.aload_n 0, 1) := by decide +kernel
theorem dX1_readCroft_76 : decode cX1_readCroft 76 = .ok (.getfield 21, 3) := by decide +kernel
theorem dX1_readCroft_79 : decode cX1_readCroft 79 = .ok (.getfield 121, 3) := by decide +kernel
theorem dX1_readCroft_82 : decode cX1_readCroft 82 = .ok (.iastore, 1) := by decide +kernel
theorem dX1_readCroft_83 : decode cX1_readCroft 83 = .ok (.aload_n 0, 1) := by decide +kernel
theorem dX1_readCroft_84 : decode cX1_readCroft 84 = .ok (.getfield 21, 3) := by decide +kernel
theorem dX1_readCroft_87 : decode cX1_readCroft 87 = .ok (.invokevirtual 100, 3) := by decide +kernel
theorem dX1_readCroft_90 : decode cX1_readCroft 90 = .ok (.aload_n 0, 1) := by decide +kernel
theorem dX1_readCroft_91 : decode cX1_readCroft 91 = .ok (.iconst 5, 1) := by decide +kernel
theorem dX1_readCroft_92 : decode cX1_readCroft 92 = .ok (.invokevirtual 112, 3) := by decide +kernel
theorem dX1_readCroft_95 : decode cX1_readCroft 95 = .ok (.ifCond .ne 5, 3) := by decide +kernel
theorem dX1_readCroft_98 : decode cX1_readCroft 98 = .ok (.iconst 0, 1) := by decide +kernel
theorem dX1_readCroft_99 : decode cX1_readCroft 99 = .ok (.ireturn, 1) := by decide +kernel
theorem dX1_readCroft_100 : decode cX1_readCroft 100 = .ok (.aload_n 0, 1) := by decide +kernel
theorem dX1_readCroft_101 : decode cX1_readCroft 101 = .ok (.getfield 25, 3) := by decide +kernel
theorem dX1_readCroft_104 : decode cX1_readCroft 104 = .ok (.getfield 131, 3) := by decide +kernel
theorem dX1_readCroft_107 : decode cX1_readCroft 107 = .ok (.iload_n 1, 1) := by decide +kernel
theorem dX1_readCroft_108 : decode cX1_readCroft 108 = .ok (.aload_n 0, 1) := by decide +kernel
theorem dX1_readCroft_109 : decode cX1_readCroft 109 = .ok (.getfield 106, 3) := by decide +kernel
theorem dX1_readCroft_112 : decode cX1_readCroft 112 = .ok (.iastore, 1) := by decide +kernel
theorem dX1_readCroft_113 : decode cX1_readCroft 113 = .ok (.aload_n 0, 1) := by decide +kernel
theorem dX1_readCroft_114 : decode cX1_readCroft 114 = .ok (.bipush 9, 2) := by decide +kernel
theorem dX1_readCroft_116 : decode cX1_readCroft 116 = .ok (.invokevirtual 112, 3) := by decide +kernel
theorem dX1_readCroft_119 : decode cX1_readCroft 119 = .ok (.ifCond .ne 5, 3) := by decide +kernel
theorem dX1_readCroft_122 : decode cX1_readCroft 122 = .ok (.iconst 0, 1) := by decide +kernel
theorem dX1_readCroft_123 : decode cX1_readCroft 123 = .ok (.ireturn, 1) := by decide +kernel
theorem dX1_readCroft_124 : decode cX1_readCroft 124 = .ok (.aload_n 0, 1) := by decide +kernel
theorem dX1_readCroft_125 : decode cX1_readCroft 125 = .ok (.getfield 25, 3) := by decide +kernel
theorem dX1_readCroft_128 : decode cX1_readCroft 128 = .ok (.getfield 134, 3) := by decide +kernel
theorem dX1_readCroft_131 : decode cX1_readCroft 131 = .ok (.iload_n 1, 1) := by decide +kernel
theorem dX1_readCroft_132 : decode cX1_readCroft 132 = .ok (.aload_n 0, 1) := by decide +kernel
theorem dX1_readCroft_133 : decode cX1_readCroft 133 = .ok (.getfield 106, 3) := by decide +kernel
theorem dX1_readCroft_136 : decode cX1_readCroft 136 = .ok (.iastore, 1) := by decide +kernel
theorem dX1_readCroft_137 : decode cX1_readCroft 137 = .ok (.aload_n 0, 1) := by decide +kernel
theorem dX1_readCroft_138 : decode cX1_readCroft 138 = .ok (.bipush 99, 2) := by decide +kernel
theorem dX1_readCroft_140 : decode cX1_readCroft 140 = .ok (.invokevirtual 112, 3) := by decide +kernel
theorem dX1_readCroft_143 : decode cX1_readCroft 143 = .ok (.ifCond .ne 5, 3) := by decide +kernel
theorem dX1_readCroft_146 : decode cX1_readCroft 146 = .ok (.iconst 0, 1) := by decide +kernel
theorem dX1_readCroft_147 : decode cX1_readCroft 147 = .ok (.ireturn, 1) := by decide +kernel
theorem dX1_readCroft_148 : decode cX1_readCroft 148 = .ok (.aload_n 0, 1) := by decide +kernel
theorem dX1_readCroft_149 : decode cX1_readCroft 149 = .ok (.getfield 25, 3) := by decide +kernel
theorem dX1_readCroft_152 : decode cX1_readCroft 152 = .ok (.getfield 137, 3) := by decide +kernel
theorem dX1_readCroft_155 : decode cX1_readCroft 155 = .ok (.iload_n 1, 1) := by decide +kernel
theorem dX1_readCroft_156 : decode cX1_readCroft 156 = .ok (.aload_n 0, 1) := by decide +kernel
theorem dX1_readCroft_157 : decode cX1_readCroft 157 = .ok (.getfield 106, 3) := by decide +kernel
theorem dX1_readCroft_160 : decode cX1_readCroft 160 = .ok (.iastore, 1) := by decide +kernel
theorem dX1_readCroft_161 : decode cX1_readCroft 161 = .ok (.aload_n 0, 1) := by decide +kernel
theorem dX1_readCroft_162 : decode cX1_readCroft 162 = .ok (.getfield 25, 3) := by decide +kernel
theorem dX1_readCroft_165 : decode cX1_readCroft 165 = .ok (.dup, 1) := by decide +kernel
theorem dX1_readCroft_166 : decode cX1_readCroft 166 = .ok (.getfield 118, 3) := by decide +kernel
theorem dX1_readCroft_169 : decode cX1_readCroft 169 = .ok (.iconst 1, 1) := by decide +kernel
theorem dX1_readCroft_170 : decode cX1_readCroft 170 = .ok (.iadd, 1) := by decide +kernel
theorem dX1_readCroft_171 : decode cX1_readCroft 171 = .ok (.putfield 118, 3) := by decide +kernel
theorem dX1_readCroft_174 : decode cX1_readCroft 174 = .ok (.iconst 1, 1) := by decide +kernel
theorem dX1_readCroft_175 : decode cX1_readCroft 175 = .ok (.ireturn, 1) := by decide +kernel
theorem dX1_readField_0 : decode cX1_readField 0 = .ok (.aload_n 0, 1) := by decide +kernel
theorem dX1_readField_1 : decode cX1_readField 1 = .ok (.getfield 25, 3) := by decide +kernel
theorem dX1_readField_4 : decode cX1_readField 4 = .ok (.getfield 140, 3) := by decide +kernel
theorem dX1_readField_7 : decode cX1_readField 7 = .ok (.istore_n 1, 1) := by decide +kernel
theorem dX1_readField_8 : decode cX1_readField 8 = .ok (.iload_n 1, 1) := by decide +kernel
theorem dX1_readField_9 : decode cX1_readField 9 = .ok (.bipush 6, 2) := by decide +kernel
theorem dX1_readField_11 : decode cX1_readField 11 = .ok (.if_icmp .lt 9, 3) := by decide +kernel
theorem dX1_readField_14 : decode cX1_readField 14 = .ok (.aload_n 0, 1) := by decide +kernel
theorem dX1_readField_15 : decode cX1_readField 15 = .ok (.iconst 2, 1) := by decide +kernel
theorem dX1_readField_16 : decode cX1_readField 16 = .ok (.invokevirtual 93, 3) := by decide +kernel
theorem dX1_readField_19 : decode cX1_readField 19 = .ok (.ireturn, 1) := by decide +kernel
theorem dX1_readField_20 : decode cX1_readField 20 = .ok (.aload_n 0, 1) := by decide +kernel
theorem dX1_readField_21 : decode cX1_readField 21 = .ok (.getfield 21, 3) := by decide +kernel
theorem dX1_readField_24 : decode cX1_readField 24 = .ok (.invokevirtual 100, 3) := by decide +kernel
theorem dX1_readField_27 : decode cX1_readField 27 = .ok (.aload_n 0, 1) := by decide +kernel
theorem dX1_readField_28 : decode cX1_readField 28 = .ok (.getfield 21, 3) := by decide +kernel
theorem dX1_readField_31 : decode cX1_readField 31 = .ok (.getfield 53, 3) := by decide +kernel
theorem dX1_readField_34 : decode cX1_readField 34 = .ok (.iconst 3, 1) := by decide +kernel
theorem dX1_readField_35 : decode cX1_readField 35 = .ok (.if_icmp .eq 9, 3) := by decide +kernel
theorem dX1_readField_38 : decode cX1_readField 38 = .ok (.aload_n 0, 1) := by decide +kernel
theorem dX1_readField_39 : decode cX1_readField 39 = .ok (.iconst 1, 1) := by decide +kernel
theorem dX1_readField_40 : decode cX1_readField 40 = .ok (.invokevirtual 93, 3) := by decide +kernel
theorem dX1_readField_43 : decode cX1_readField 43 = .ok (.ireturn, 1) := by decide +kernel
theorem dX1_readField_44 : decode cX1_readField 44 = .ok (.aload_n 0, 1) := by decide +kernel
theorem dX1_readField_45 : decode cX1_readField 45 = .ok (.getfield 25, 3) := by decide +kernel
theorem dX1_readField_48 : decode cX1_readField 48 = .ok (.aload_n 0, 1) := by decide +kernel
theorem dX1_readField_49 : decode cX1_readField 49 = .ok (.getfield 21, 3) := by decide +kernel
theorem dX1_readField_52 : decode cX1_readField 52 = .ok (.getfield 121, 3) := by decide +kernel
theorem dX1_readField_55 : decode cX1_readField 55 = .ok (.invokevirtual 124, 3) := by decide +kernel
theorem dX1_readField_58 : decode cX1_readField 58 = .ok (.istore_n 2, 1) := by decide +kernel
theorem dX1_readField_59 : decode cX1_readField 59 = .ok (.iload_n 2, 1) := by decide +kernel
theorem dX1_readField_60 : decode cX1_readField 60 = .ok (.iconst (-1), 1) := by decide +kernel
theorem dX1_readField_61 : decode cX1_readField 61 = .ok (.if_icmp .ne 9, 3) := by decide +kernel
theorem dX1_readField_64 : decode cX1_readField 64 = .ok (.aload_n 0, 1) := by decide +kernel
theorem dX1_readField_65 : decode cX1_readField 65 = .ok (.iconst 4, 1) := by decide +kernel
theorem dX1_readField_66 : decode cX1_readField 66 = .ok (.invokevirtual 93, 3) := by decide +kernel
theorem dX1_readField_69 : decode cX1_readField 69 = .ok (.ireturn, 1) := by decide +kernel
theorem dX1_readField_70 : decode cX1_readField 70 = .ok (.aload_n 0, 1) := by decide +kernel
theorem dX1_readField_71 : decode cX1_readField 71 = .ok (.getfield 25, 3) := by decide +kernel
theorem dX1_readField_74 : decode cX1_readField 74 = .ok (.getfield 143, 3) := by decide +kernel
theorem dX1_readField_77 : decode cX1_readField 77 = .ok (.iload_n 1, 1) := by decide +kernel
theorem dX1_readField_78 : decode cX1_readField 78 = .ok (.iload_n 2, 1) := by decide +kernel
theorem dX1_readField_79 : decode cX1_readField 79 = .ok (.iastore, 1) := by decide +kernel
theorem dX1_readField_80 : decode cX1_readField 80 = .ok (.aload_n 0, 1) := by decide +kernel
theorem dX1_readField_81 : decode cX1_readField 81 = .ok (.getfield 21, 3) := by decide +kernel
theorem dX1_readField_84 : decode cX1_readField 84 = .ok (.invokevirtual 100, 3) := by decide +kernel
theorem dX1_readField_87 : decode cX1_readField 87 = .ok (.aload_n 0, 1) := by decide +kernel
theorem dX1_readField_88 : decode cX1_readField 88 = .ok (.bipush 99, 2) := by decide +kernel
theorem dX1_readField_90 : decode cX1_readField 90 = .ok (.invokevirtual 112, 3) := by decide +kernel
theorem dX1_readField_93 : decode cX1_readField 93 = .ok (.ifCond .ne 5, 3) := by decide +kernel
theorem dX1_readField_96 : decode cX1_readField 96 = .ok (.iconst 0, 1) := by decide +kernel
theorem dX1_readField_97 : decode cX1_readField 97 = .ok (.ireturn, 1) := by decide +kernel
theorem dX1_readField_98 : decode cX1_readField 98 = .ok (.aload_n 0, 1) := by decide +kernel
theorem dX1_readField_99 : decode cX1_readField 99 = .ok (.getfield 25, 3) := by decide +kernel
theorem dX1_readField_102 : decode cX1_readField 102 = .ok (.getfield 146, 3) := by decide +kernel
theorem dX1_readField_105 : decode cX1_readField 105 = .ok (.iload_n 1, 1) := by decide +kernel
theorem dX1_readField_106 : decode cX1_readField 106 = .ok (.aload_n 0, 1) := by decide +kernel
theorem dX1_readField_107 : decode cX1_readField 107 = .ok (.getfield 106, 3) := by decide +kernel
theorem dX1_readField_110 : decode cX1_readField 110 = .ok (.iastore, 1) := by decide +kernel
theorem dX1_readField_111 : decode cX1_readField 111 = .ok (.aload_n 0, 1) := by decide +kernel
theorem dX1_readField_112 : decode cX1_readField 112 = .ok (.bipush 9, 2) := by decide +kernel
theorem dX1_readField_114 : decode cX1_readField 114 = .ok (.invokevirtual 112, 3) := by decide +kernel
theorem dX1_readField_117 : decode cX1_readField 117 = .ok (.ifCond .ne 5, 3) := by decide +kernel
theorem dX1_readField_120 : decode cX1_readField 120 = .ok (.iconst 0, 1) := by decide +kernel
theorem dX1_readField_121 : decode cX1_readField 121 = .ok (.ireturn, 1) := by decide +kernel
theorem dX1_readField_122 : decode cX1_readField 122 = .ok (.aload_n 0, 1) := by decide +kernel
theorem dX1_readField_123 : decode cX1_readField 123 = .ok (.getfield 25, 3) := by decide +kernel
theorem dX1_readField_126 : decode cX1_readField 126 = .ok (.getfield 149, 3) := by decide +kernel
theorem dX1_readField_129 : decode cX1_readField 129 = .ok (.iload_n 1, 1) := by decide +kernel
theorem dX1_readField_130 : decode cX1_readField 130 = .ok (.aload_n 0, 1) := by decide +kernel
theorem dX1_readField_131 : decode cX1_readField 131 = .ok (.getfield 106, 3) := by decide +kernel
theorem dX1_readField_134 : decode cX1_readField 134 = .ok (.iastore, 1) := by decide +kernel
theorem dX1_readField_135 : decode cX1_readField 135 = .ok (.aload_n 0, 1) := by decide +kernel
theorem dX1_readField_136 : decode cX1_readField 136 = .ok (.getfield 25, 3) := by decide +kernel
theorem dX1_readField_139 : decode cX1_readField 139 = .ok (.dup, 1) := by decide +kernel
theorem dX1_readField_140 : decode cX1_readField 140 = .ok (.getfield 140, 3) := by decide +kernel
theorem dX1_readField_143 : decode cX1_readField 143 = .ok (.iconst 1, 1) := by decide +kernel
theorem dX1_readField_144 : decode cX1_readField 144 = .ok (.iadd, 1) := by decide +kernel
theorem dX1_readField_145 : decode cX1_readField 145 = .ok (.putfield 140, 3) := by decide +kernel
theorem dX1_readField_148 : decode cX1_readField 148 = .ok (.iconst 1, 1) := by decide +kernel
theorem dX1_readField_149 : decode cX1_readField 149 = .ok (.ireturn, 1) := by decide +kernel
theorem dX5_hasTide_0 : decode cX5_hasTide 0 = .ok (.iconst 0, 1) := by decide +kernel
theorem dX5_hasTide_1 : decode cX5_hasTide 1 = .ok (.istore_n 2, 1) := by decide +kernel
theorem dX5_hasTide_2 : decode cX5_hasTide 2 = .ok (.iload_n 2, 1) := by decide +kernel
theorem dX5_hasTide_3 : decode cX5_hasTide 3 = .ok (.aload_n 0, 1) := by decide +kernel
theorem dX5_hasTide_4 : decode cX5_hasTide 4 = .ok (.getfield 62, 3) := by decide +kernel
theorem dX5_hasTide_7 : decode cX5_hasTide 7 = .ok (.if_icmp .ge 21, 3) := by decide +kernel
theorem dX5_hasTide_10 : decode cX5_hasTide 10 = .ok (.aload_n 0, 1) := by decide +kernel
theorem dX5_hasTide_11 : decode cX5_hasTide 11 = .ok (.getfield 36, 3) := by decide +kernel
theorem dX5_hasTide_14 : decode cX5_hasTide 14 = .ok (.iload_n 2, 1) := by decide +kernel
theorem dX5_hasTide_15 : decode cX5_hasTide 15 = .ok (.iaload, 1) := by decide +kernel
theorem dX5_hasTide_16 : decode cX5_hasTide 16 = .ok (.iload_n 1, 1) := by decide +kernel
theorem dX5_hasTide_17 : decode cX5_hasTide 17 = .ok (.if_icmp .ne 5, 3) := by decide +kernel
theorem dX5_hasTide_20 : decode cX5_hasTide 20 = .ok (.iconst 1, 1) := by decide +kernel
theorem dX5_hasTide_21 : decode cX5_hasTide 21 = .ok (.ireturn, 1) := by decide +kernel
theorem dX5_hasTide_22 : decode cX5_hasTide 22 = .ok (.iinc 2 1, 3) := by decide +kernel
theorem dX5_hasTide_25 : decode cX5_hasTide 25 = .ok (.goto (-23), 3) := by decide +kernel
theorem dX5_hasTide_28 : decode cX5_hasTide 28 = .ok (.iconst 0, 1) := by decide +kernel
theorem dX5_hasTide_29 : decode cX5_hasTide 29 = .ok (.ireturn, 1) := by decide +kernel
theorem dX1_readTide_0 : decode cX1_readTide 0 = .ok (.aload_n 0, 1) := by decide +kernel
theorem dX1_readTide_1 : decode cX1_readTide 1 = .ok (.getfield 25, 3) := by decide +kernel
theorem dX1_readTide_4 : decode cX1_readTide 4 = .ok (.getfield 152, 3) := by decide +kernel
theorem dX1_readTide_7 : decode cX1_readTide 7 = .ok (.iconst 4, 1) := by decide +kernel
theorem dX1_readTide_8 : decode cX1_readTide 8 = .ok (.if_icmp .lt 9, 3) := by decide +kernel
theorem dX1_readTide_11 : decode cX1_readTide 11 = .ok (.aload_n 0, 1) := by decide +kernel
theorem dX1_readTide_12 : decode cX1_readTide 12 = .ok (.iconst 2, 1) := by decide +kernel
theorem dX1_readTide_13 : decode cX1_readTide 13 = .ok (.invokevirtual 93, 3) := by decide +kernel
theorem dX1_readTide_16 : decode cX1_readTide 16 = .ok (.ireturn, 1) := by decide +kernel
theorem dX1_readTide_17 : decode cX1_readTide 17 = .ok (.aload_n 0, 1) := by decide +kernel
theorem dX1_readTide_18 : decode cX1_readTide 18 = .ok (.getfield 21, 3) := by decide +kernel
theorem dX1_readTide_21 : decode cX1_readTide 21 = .ok (.invokevirtual 100, 3) := by decide +kernel
theorem dX1_readTide_24 : decode cX1_readTide 24 = .ok (.aload_n 0, 1) := by decide +kernel
theorem dX1_readTide_25 : decode cX1_readTide 25 = .ok (.getfield 21, 3) := by decide +kernel
theorem dX1_readTide_28 : decode cX1_readTide 28 = .ok (.getfield 53, 3) := by decide +kernel
theorem dX1_readTide_31 : decode cX1_readTide 31 = .ok (.iconst 2, 1) := by decide +kernel
theorem dX1_readTide_32 : decode cX1_readTide 32 = .ok (.if_icmp .ne 26, 3) := by decide +kernel
theorem dX1_readTide_35 : decode cX1_readTide 35 = .ok (.aload_n 0, 1) := by decide +kernel
theorem dX1_readTide_36 : decode cX1_readTide 36 = .ok (.getfield 25, 3) := by decide +kernel
theorem dX1_readTide_39 : decode cX1_readTide 39 = .ok (.aload_n 0, 1) := by decide +kernel
theorem dX1_readTide_40 : decode cX1_readTide 40 = .ok (.getfield 21, 3) := by decide +kernel
theorem dX1_readTide_43 : decode cX1_readTide 43 = .ok (.getfield 103, 3) := by decide +kernel
theorem dX1_readTide_46 : decode cX1_readTide 46 = .ok (.invokevirtual 155, 3) := by decide +kernel
theorem dX1_readTide_49 : decode cX1_readTide 49 = .ok (.ifCond .eq 9, 3) := by decide +kernel
theorem dX1_readTide_52 : decode cX1_readTide 52 = .ok (.aload_n 0, 1) := by decide +kernel
theorem dX1_readTide_53 : decode cX1_readTide 53 = .ok (.iconst 3, 1) := by decide +kernel
theorem dX1_readTide_54 : decode cX1_readTide 54 = .ok (.invokevirtual 93, 3) := by decide +kernel
theorem dX1_readTide_57 : decode cX1_readTide 57 = .ok (.ireturn, 1) := by decide +kernel
theorem dX1_readTide_58 : decode cX1_readTide 58 = .ok (.aload_n 0, 1) := by decide +kernel
theorem dX1_readTide_59 : decode cX1_readTide 59 = .ok (.bipush 23, 2) := by decide +kernel
theorem dX1_readTide_61 : decode cX1_readTide 61 = .ok (.invokevirtual 112, 3) := by decide +kernel
theorem dX1_readTide_64 : decode cX1_readTide 64 = .ok (.ifCond .ne 5, 3) := by decide +kernel
theorem dX1_readTide_67 : decode cX1_readTide 67 = .ok (.iconst 0, 1) := by decide +kernel
theorem dX1_readTide_68 : decode cX1_readTide 68 = .ok (.ireturn, 1) := by decide +kernel
theorem dX1_readTide_69 : decode cX1_readTide 69 = .ok (.aload_n 0, 1) := by decide +kernel
theorem dX1_readTide_70 : decode cX1_readTide 70 = .ok (.getfield 25, 3) := by decide +kernel
theorem dX1_readTide_73 : decode cX1_readTide 73 = .ok (.getfield 158, 3) := by decide +kernel
theorem dX1_readTide_76 : decode cX1_readTide 76 = .ok (.aload_n 0, 1) := by decide +kernel
theorem dX1_readTide_77 : decode cX1_readTide 77 = .ok (.getfield 25, 3) := by decide +kernel
theorem dX1_readTide_80 : decode cX1_readTide 80 = .ok (.getfield 152, 3) := by decide +kernel
theorem dX1_readTide_83 : decode cX1_readTide 83 = .ok (.aload_n 0, 1) := by decide +kernel
theorem dX1_readTide_84 : decode cX1_readTide 84 = .ok (.getfield 106, 3) := by decide +kernel
theorem dX1_readTide_87 : decode cX1_readTide 87 = .ok (.iastore, 1) := by decide +kernel
theorem dX1_readTide_88 : decode cX1_readTide 88 = .ok (.aload_n 0, 1) := by decide +kernel
theorem dX1_readTide_89 : decode cX1_readTide 89 = .ok (.getfield 25, 3) := by decide +kernel
theorem dX1_readTide_92 : decode cX1_readTide 92 = .ok (.dup, 1) := by decide +kernel
theorem dX1_readTide_93 : decode cX1_readTide 93 = .ok (.getfield 152, 3) := by decide +kernel
theorem dX1_readTide_96 : decode cX1_readTide 96 = .ok (.iconst 1, 1) := by decide +kernel
theorem dX1_readTide_97 : decode cX1_readTide 97 = .ok (.iadd, 1) := by decide +kernel
theorem dX1_readTide_98 : decode cX1_readTide 98 = .ok (.putfield 152, 3) := by decide +kernel
theorem dX1_readTide_101 : decode cX1_readTide 101 = .ok (.iconst 1, 1) := by decide +kernel
theorem dX1_readTide_102 : decode cX1_readTide 102 = .ok (.ireturn, 1) := by decide +kernel
def f_X4_begin (N : Nat) (h : Hp) (p1 : Int32) : Option Hp :=
  lt_ (sI h 4 0 3 (if 700 < p1 then 700 else p1)) fun h1 =>
  lt_ (sI h1 4 0 4 0) fun h2 =>
  (f_X4_advance N h2).bind fun h3 =>
  some h3
abbrev rmX4_begin : Room := { frames := 3, cells := 0, slots := 0, locals := 62 }
set_option maxRecDepth 100000 in
set_option maxHeartbeats 4000000 in
theorem w_X4_begin (X : Cx) (F : Fx X cX4_begin RX4 none rmX4_begin) (hA : xA X = Aw (xG X)) (hL : xL X = 2) (N : Nat) (h : Hp) (p1 : Int32) : Wm X (fun _ => none) (fun v => v) (fun _ => True) 0 [(0, .ref (adr (xG X) 4 0 0)), (1, .int p1)] [] h (f_X4_begin N h p1) := by
  have hS : ∀ i : Nat, i < 2 → i < xL X := fun i z => by rw [hL]; exact z
  unfold f_X4_begin
  refine r_aload_n F 0 rfl dX4_begin_0 rfl ?_
  refine r_iload_n F 1 rfl dX4_begin_1 rfl ?_
  refine r_aload_n F 0 rfl dX4_begin_2 rfl ?_
  refine r_getA F frX4_9 (by decide) dX4_begin_3 ?_
  refine r_alen0 F (v := 700) (ar_4_0 0 (by decide)) (by decide) dX4_begin_6 ?_
  refine r_min F wd_1012 ws_min ⟨Nat.le_of_ble_eq_true rfl, Nat.le_of_ble_eq_true rfl⟩ dX4_begin_7 ?_
  refine r_putI F frX4_40 (by decide) rfl rfl dX4_begin_10 fun h1 => ?_
  refine r_aload_n F 0 rfl dX4_begin_13 rfl ?_
  refine r_iconst F (v := 0) dX4_begin_14 (by decide) ?_
  refine r_putI F frX4_42 (by decide) rfl rfl dX4_begin_15 fun h2 => ?_
  refine r_aload_n F 0 rfl dX4_begin_18 rfl ?_
  refine k_vH (run_V F cvX4_45 (by decide) (c_X4_advance (xG X) _ N h2) rfl rfl ⟨⟨rfl, rfl⟩, Nat.le_of_ble_eq_true rfl, Nat.le_of_ble_eq_true rfl⟩ (Nat.le_of_ble_eq_true rfl) dX4_begin_19) fun h3 => ?_
  exact r_vret F hA rfl rfl trivial dX4_begin_22
theorem c_X4_begin (G : Gx) (l : Launch) (N : Nat) (h : Hp) (p1 : Int32) : Ctr G l yX4_begin (.code yX4_begin cX4_begin 2 none :: GT) rmX4_begin [.ref (adr G 4 0 0), .int p1] h (f_X4_begin N h p1) (fun _ => none) (fun v => v) (fun _ => True) :=
  ctr_of (by decide) (Nat.le_of_ble_eq_true rfl) ⟨rfl, rfl⟩ fun X _ e2 hA hL F => by subst e2; exact w_X4_begin X F hA hL N h p1
def f_X1_fails (h : Hp) (p1 : Int32) : Option (Bool × Hp) :=
  lt_ (sI h 1 0 4 p1) fun h1 =>
  onO (gO h1 1 0 2) fun _ =>
  lt_ (sI h1 1 0 5 (gI h1 4 0 5)) fun h2 =>
  some (false, h2)
abbrev rmX1_fails : Room := { frames := 0, cells := 0, slots := 0, locals := 0 }
set_option maxRecDepth 100000 in
set_option maxHeartbeats 4000000 in
theorem w_X1_fails (X : Cx) (F : Fx X cX1_fails RX1 (some .boolean) rmX1_fails) (hA : xA X = Aw (xG X)) (hL : xL X = 2) (h : Hp) (p1 : Int32) : Wm X (fun v => some (.int (b2i v.1))) (fun v => v.2) (fun _ => True) 0 [(0, .ref (adr (xG X) 1 0 0)), (1, .int p1)] [] h (f_X1_fails h p1) := by
  have hS : ∀ i : Nat, i < 2 → i < xL X := fun i z => by rw [hL]; exact z
  unfold f_X1_fails
  refine r_aload_n F 0 rfl dX1_fails_0 rfl ?_
  refine r_iload_n F 1 rfl dX1_fails_1 rfl ?_
  refine r_putI F frX1_34 (by decide) rfl rfl dX1_fails_2 fun h1 => ?_
  refine r_aload_n F 0 rfl dX1_fails_5 rfl ?_
  refine r_aload_n F 0 rfl dX1_fails_6 rfl ?_
  refine r_getO1 F frX1_21 (by decide) rfl dX1_fails_7 ?_
  refine r_getI F frX1_97 (by decide) dX1_fails_10 ?_
  refine r_putI F frX1_38 (by decide) rfl rfl dX1_fails_13 fun h2 => ?_
  refine r_iconst F (v := 0) dX1_fails_16 (by decide) ?_
  exact r_zret F hA false rfl rfl rfl trivial dX1_fails_17
theorem c_X1_fails (G : Gx) (l : Launch) (h : Hp) (p1 : Int32) : Ctr G l yX1_fails (.code yX1_fails cX1_fails 2 (some .boolean) :: GT) rmX1_fails [.ref (adr G 1 0 0), .int p1] h (f_X1_fails h p1) (fun v => some (.int (b2i v.1))) (fun v => v.2) (fun _ => True) :=
  ctr_of (by decide) (Nat.le_of_ble_eq_true rfl) ⟨rfl, rfl⟩ fun X _ e2 hA hL F => by subst e2; exact w_X1_fails X F hA hL h p1
def f_X1_takeNumber (N : Nat) (h : Hp) (p1 : Int32) : Option (Bool × Hp) :=
  onO (gO h 1 0 2) fun _ =>
  if (gI h 4 0 6) = 2 then
    onO (gO h 1 0 2) fun _ =>
    if (gI h 4 0 7) ≤ p1 then
      onO (gO h 1 0 2) fun _ =>
      lt_ (sI h 1 0 6 (gI h 4 0 7)) fun h1 =>
      onO (gO h1 1 0 2) fun _ =>
      (f_X4_advance N h1).bind fun h2 =>
      some (true, h2)
    else
    bd2 (f_X1_fails h 2) fun v4 h3 =>
    some (v4, h3)
  else
  bd2 (f_X1_fails h 1) fun v6 h5 =>
  some (v6, h5)
abbrev rmX1_takeNumber : Room := { frames := 3, cells := 0, slots := 0, locals := 62 }
set_option maxRecDepth 100000 in
set_option maxHeartbeats 4000000 in
theorem w_X1_takeNumber (X : Cx) (F : Fx X cX1_takeNumber RX1 (some .boolean) rmX1_takeNumber) (hA : xA X = Aw (xG X)) (hL : xL X = 2) (N : Nat) (h : Hp) (p1 : Int32) : Wm X (fun v => some (.int (b2i v.1))) (fun v => v.2) (fun _ => True) 0 [(0, .ref (adr (xG X) 1 0 0)), (1, .int p1)] [] h (f_X1_takeNumber N h p1) := by
  have hS : ∀ i : Nat, i < 2 → i < xL X := fun i z => by rw [hL]; exact z
  unfold f_X1_takeNumber
  refine r_aload_n F 0 rfl dX1_takeNumber_0 rfl ?_
  refine r_getO1 F frX1_21 (by decide) rfl dX1_takeNumber_1 ?_
  refine r_getI F frX1_53 (by decide) dX1_takeNumber_4 ?_
  refine r_iconst F (v := 2) dX1_takeNumber_7 (by decide) ?_
  refine r_icmpeq F (tgt := 17) dX1_takeNumber_8 (by decide) ?_ ?_
  · skip
    refine r_aload_n F 0 rfl dX1_takeNumber_17 rfl ?_
    refine r_getO1 F frX1_21 (by decide) rfl dX1_takeNumber_18 ?_
    refine r_getI F frX1_103 (by decide) dX1_takeNumber_21 ?_
    refine r_iload_n F 1 rfl dX1_takeNumber_24 rfl ?_
    refine r_icmple F (tgt := 34) dX1_takeNumber_25 (by decide) ?_ ?_
    · skip
      refine r_aload_n F 0 rfl dX1_takeNumber_34 rfl ?_
      refine r_aload_n F 0 rfl dX1_takeNumber_35 rfl ?_
      refine r_getO1 F frX1_21 (by decide) rfl dX1_takeNumber_36 ?_
      refine r_getI F frX1_103 (by decide) dX1_takeNumber_39 ?_
      refine r_putI F frX1_106 (by decide) rfl rfl dX1_takeNumber_42 fun h1 => ?_
      refine r_aload_n F 0 rfl dX1_takeNumber_45 rfl ?_
      refine r_getO1 F frX1_21 (by decide) rfl dX1_takeNumber_46 ?_
      refine k_vH (run_V F cvX1_100 (by decide) (c_X4_advance (xG X) _ N h1) rfl rfl ⟨⟨rfl, rfl⟩, Nat.le_of_ble_eq_true rfl, Nat.le_of_ble_eq_true rfl⟩ (Nat.le_of_ble_eq_true rfl) dX1_takeNumber_49) fun h2 => ?_
      refine r_iconst F (v := 1) dX1_takeNumber_52 (by decide) ?_
      exact r_zret F hA true rfl rfl rfl trivial dX1_takeNumber_53
    refine r_aload_n F 0 rfl dX1_takeNumber_28 rfl ?_
    refine r_iconst F (v := 2) dX1_takeNumber_29 (by decide) ?_
    refine k_zH (run_V F cvX1_93 (by decide) (c_X1_fails (xG X) _ h 2) rfl rfl ⟨⟨rfl, rfl⟩, Nat.le_of_ble_eq_true rfl, Nat.le_of_ble_eq_true rfl⟩ (Nat.le_of_ble_eq_true rfl) dX1_takeNumber_30) fun v4 h3 => ?_
    exact r_zret F hA v4 rfl rfl rfl trivial dX1_takeNumber_33
  refine r_aload_n F 0 rfl dX1_takeNumber_11 rfl ?_
  refine r_iconst F (v := 1) dX1_takeNumber_12 (by decide) ?_
  refine k_zH (run_V F cvX1_93 (by decide) (c_X1_fails (xG X) _ h 1) rfl rfl ⟨⟨rfl, rfl⟩, Nat.le_of_ble_eq_true rfl, Nat.le_of_ble_eq_true rfl⟩ (Nat.le_of_ble_eq_true rfl) dX1_takeNumber_13) fun v6 h5 => ?_
  exact r_zret F hA v6 rfl rfl rfl trivial dX1_takeNumber_16
theorem c_X1_takeNumber (G : Gx) (l : Launch) (N : Nat) (h : Hp) (p1 : Int32) : Ctr G l yX1_takeNumber (.code yX1_takeNumber cX1_takeNumber 2 (some .boolean) :: GT) rmX1_takeNumber [.ref (adr G 1 0 0), .int p1] h (f_X1_takeNumber N h p1) (fun v => some (.int (b2i v.1))) (fun v => v.2) (fun _ => True) :=
  ctr_of (by decide) (Nat.le_of_ble_eq_true rfl) ⟨rfl, rfl⟩ fun X _ e2 hA hL F => by subst e2; exact w_X1_takeNumber X F hA hL N h p1
def f_X1_readStripe (N : Nat) (h : Hp) : Option (Bool × Hp) :=
  onO (gO h 1 0 3) fun o1 =>
  if (gI h 5 o1 11) < 8 then
    onO (gO h 1 0 2) fun _ =>
    (f_X4_advance N h).bind fun h2 =>
    bd2 (f_X1_takeNumber N h2 999) fun v4 h3 =>
    if ¬ (b2i v4) = 0 then
      onO (gO h3 1 0 3) fun o5 =>
      onO (gO h3 1 0 3) fun o6 =>
      grd (inb (gI h3 5 o6 11) 8) <| lt_ (sA h3 5 o5 0 (gI h3 5 o6 11).toNatClampNeg (gI h3 1 0 6)) fun h7 =>
      onO (gO h7 1 0 3) fun o8 =>
      lt_ (sI h7 5 o8 11 ((gI h7 5 o8 11) + 1)) fun h9 =>
      some (true, h9)
    else
    some (false, h3)
  else
  bd2 (f_X1_fails h 2) fun v11 h10 =>
  some (v11, h10)
abbrev rmX1_readStripe : Room := { frames := 4, cells := 0, slots := 0, locals := 83 }
set_option maxRecDepth 100000 in
set_option maxHeartbeats 4000000 in
theorem w_X1_readStripe (X : Cx) (F : Fx X cX1_readStripe RX1 (some .boolean) rmX1_readStripe) (hA : xA X = Aw (xG X)) (hL : xL X = 1) (N : Nat) (h : Hp) : Wm X (fun v => some (.int (b2i v.1))) (fun v => v.2) (fun _ => True) 0 [(0, .ref (adr (xG X) 1 0 0))] [] h (f_X1_readStripe N h) := by
  have hS : ∀ i : Nat, i < 1 → i < xL X := fun i z => by rw [hL]; exact z
  unfold f_X1_readStripe
  refine r_aload_n F 0 rfl dX1_readStripe_0 rfl ?_
  refine r_getO F frX1_25 (by decide) dX1_readStripe_1 fun o1 hp_o1 => ?_
  refine r_getI F frX1_109 hp_o1 dX1_readStripe_4 ?_
  refine r_bipush F (v := 8) dX1_readStripe_7 (by decide) ?_
  refine r_icmplt F (tgt := 18) dX1_readStripe_9 (by decide) ?_ ?_
  · skip
    refine r_aload_n F 0 rfl dX1_readStripe_18 rfl ?_
    refine r_getO1 F frX1_21 (by decide) rfl dX1_readStripe_19 ?_
    refine k_vH (run_V F cvX1_100 (by decide) (c_X4_advance (xG X) _ N h) rfl rfl ⟨⟨rfl, rfl⟩, Nat.le_of_ble_eq_true rfl, Nat.le_of_ble_eq_true rfl⟩ (Nat.le_of_ble_eq_true rfl) dX1_readStripe_22) fun h2 => ?_
    refine r_aload_n F 0 rfl dX1_readStripe_25 rfl ?_
    refine r_sipush F (v := 999) dX1_readStripe_26 (by decide) ?_
    refine k_zH (run_V F cvX1_112 (by decide) (c_X1_takeNumber (xG X) _ N h2 999) rfl rfl ⟨⟨rfl, rfl⟩, Nat.le_of_ble_eq_true rfl, Nat.le_of_ble_eq_true rfl⟩ (Nat.le_of_ble_eq_true rfl) dX1_readStripe_29) fun v4 h3 => ?_
    refine r_ifne F (tgt := 37) dX1_readStripe_32 (by decide) ?_ ?_
    · skip
      refine r_aload_n F 0 rfl dX1_readStripe_37 rfl ?_
      refine r_getO F frX1_25 (by decide) dX1_readStripe_38 fun o5 hp_o5 => ?_
      refine r_getA F frX1_115 hp_o5 dX1_readStripe_41 ?_
      refine r_aload_n F 0 rfl dX1_readStripe_44 rfl ?_
      refine r_getO F frX1_25 (by decide) dX1_readStripe_45 fun o6 hp_o6 => ?_
      refine r_getI F frX1_109 hp_o6 dX1_readStripe_48 ?_
      refine r_aload_n F 0 rfl dX1_readStripe_51 rfl ?_
      refine r_getI F frX1_106 (by decide) dX1_readStripe_52 ?_
      refine r_iastore F (ar_5_0 o5 hp_o5) dX1_readStripe_55 fun h7 => ?_
      refine r_aload_n F 0 rfl dX1_readStripe_56 rfl ?_
      refine r_getO F frX1_25 (by decide) dX1_readStripe_57 fun o8 hp_o8 => ?_
      refine r_dup F rfl dX1_readStripe_60 ?_
      refine r_getI F frX1_109 hp_o8 dX1_readStripe_61 ?_
      refine r_iconst F (v := 1) dX1_readStripe_64 (by decide) ?_
      refine r_iadd F dX1_readStripe_65 ?_
      refine r_putI F frX1_109 hp_o8 rfl rfl dX1_readStripe_66 fun h9 => ?_
      refine r_iconst F (v := 1) dX1_readStripe_69 (by decide) ?_
      exact r_zret F hA true rfl rfl rfl trivial dX1_readStripe_70
    refine r_iconst F (v := 0) dX1_readStripe_35 (by decide) ?_
    exact r_zret F hA false rfl rfl rfl trivial dX1_readStripe_36
  refine r_aload_n F 0 rfl dX1_readStripe_12 rfl ?_
  refine r_iconst F (v := 2) dX1_readStripe_13 (by decide) ?_
  refine k_zH (run_V F cvX1_93 (by decide) (c_X1_fails (xG X) _ h 2) rfl rfl ⟨⟨rfl, rfl⟩, Nat.le_of_ble_eq_true rfl, Nat.le_of_ble_eq_true rfl⟩ (Nat.le_of_ble_eq_true rfl) dX1_readStripe_14) fun v11 h10 => ?_
  exact r_zret F hA v11 rfl rfl rfl trivial dX1_readStripe_17
theorem c_X1_readStripe (G : Gx) (l : Launch) (N : Nat) (h : Hp) : Ctr G l yX1_readStripe (.code yX1_readStripe cX1_readStripe 1 (some .boolean) :: GT) rmX1_readStripe [.ref (adr G 1 0 0)] h (f_X1_readStripe N h) (fun v => some (.int (b2i v.1))) (fun v => v.2) (fun _ => True) :=
  ctr_of (by decide) (Nat.le_of_ble_eq_true rfl) ⟨rfl, rfl⟩ fun X _ e2 hA hL F => by subst e2; exact w_X1_readStripe X F hA hL N h
def f_X5_croftNamed_2 (h : Hp) (o : Nat) (p1 : Int32) (r2 : Int32 → Option Int32) (v1 : Int32) : Option Int32 :=
  if (gI h 5 o 12) ≤ v1 then
    some (-1)
  else
  grd (inb v1 4) <|
  if ¬ (gA h 5 o 1 v1.toNatClampNeg) = p1 then
    lt_ (v1 + 1) fun v2 =>
    r2 v2
  else
  some v1
def f_X5_croftNamed (N : Nat) (h : Hp) (o : Nat) (p1 : Int32) : Option Int32 :=
  iter (fun _ => none) (f_X5_croftNamed_2 h o p1) N 0
abbrev rmX5_croftNamed : Room := { frames := 0, cells := 0, slots := 0, locals := 0 }
set_option maxRecDepth 100000 in
set_option maxHeartbeats 4000000 in
theorem w_X5_croftNamed (X : Cx) (F : Fx X cX5_croftNamed RX5 (some .int) rmX5_croftNamed) (hA : xA X = Aw (xG X)) (hL : xL X = 3) (N : Nat) (h : Hp) (o : Nat) (h_o : o < cnt 5) (p1 : Int32) : Wm X (fun v => some (.int v)) (fun _ => h) (fun _ => True) 0 [(0, .ref (adr (xG X) 5 o 0)), (1, .int p1)] [] h (f_X5_croftNamed N h o p1) := by
  have hS : ∀ i : Nat, i < 3 → i < xL X := fun i z => by rw [hL]; exact z
  unfold f_X5_croftNamed
  refine r_iconst F (v := 0) dX5_croftNamed_0 (by decide) ?_
  refine r_istore_n F [(2, .int 0), (0, .ref (adr (xG X) 5 o 0)), (1, .int p1)] rfl dX5_croftNamed_1 rfl (hS _ (by decide)) ?_
  have hl2 : ∀ n : Nat, ∀ v1 : Int32, Wm X (fun v => some (.int v)) (fun _ => h) (fun _ => True) 2 [(0, .ref (adr (xG X) 5 o 0)), (1, .int p1), (2, .int v1)] [] h (iter (fun _ => none) (f_X5_croftNamed_2 h o p1) n v1) := by
    intro n
    induction n with
    | zero => intro v1; exact Wt_none
    | succ n ih =>
      revert ih
      show (∀ v1 : Int32, Wm X (fun v => some (.int v)) (fun _ => h) (fun _ => True) 2 [(0, .ref (adr (xG X) 5 o 0)), (1, .int p1), (2, .int v1)] [] h (iter (fun _ => none) (f_X5_croftNamed_2 h o p1) n v1)) → _
      intro ih2 v1
      show Wm X (fun v => some (.int v)) (fun _ => h) (fun _ => True) 2 [(0, .ref (adr (xG X) 5 o 0)), (1, .int p1), (2, .int v1)] [] h (f_X5_croftNamed_2 h o p1 (iter (fun _ => none) (f_X5_croftNamed_2 h o p1) n) v1)
      revert ih2
      generalize iter (fun _ => none) (f_X5_croftNamed_2 h o p1) n = r2
      intro ih2
      unfold f_X5_croftNamed_2
      refine r_iload_n F 2 rfl dX5_croftNamed_2 rfl ?_
      refine r_aload_n F 0 rfl dX5_croftNamed_3 rfl ?_
      refine r_getI F frX5_56 h_o dX5_croftNamed_4 ?_
      refine r_icmpge F (tgt := 28) dX5_croftNamed_7 (by decide) ?_ ?_
      · skip
        refine r_iconst F (v := (-1)) dX5_croftNamed_28 (by decide) ?_
        exact r_iret F hA rfl rfl trivial dX5_croftNamed_29
      refine r_aload_n F 0 rfl dX5_croftNamed_10 rfl ?_
      refine r_getA F frX5_15 h_o dX5_croftNamed_11 ?_
      refine r_iload_n F 2 rfl dX5_croftNamed_14 rfl ?_
      refine r_iaload F (ar_5_1 o h_o) dX5_croftNamed_15 ?_
      refine r_iload_n F 1 rfl dX5_croftNamed_16 rfl ?_
      refine r_icmpne F (tgt := 22) dX5_croftNamed_17 (by decide) ?_ ?_
      · skip
        refine r_iinc F (v := 1) 2 rfl (by decide) (fun v2 => [(2, .int v2), (0, .ref (adr (xG X) 5 o 0)), (1, .int p1)]) (fun _ => rfl) dX5_croftNamed_22 (hS _ (by decide)) fun v2 => ?_
        refine r_goto F (tgt := 2) dX5_croftNamed_25 (by decide) ?_
        exact Wt_pick [1, 2, 0] rfl (ih2 v2)
      refine r_iload_n F 2 rfl dX5_croftNamed_20 rfl ?_
      exact r_iret F hA rfl rfl trivial dX5_croftNamed_21
  exact Wt_pick [1, 2, 0] rfl (hl2 N 0)
theorem c_X5_croftNamed (G : Gx) (l : Launch) (N : Nat) (h : Hp) (o : Nat) (h_o : o < cnt 5) (p1 : Int32) : Ctr G l yX5_croftNamed (.code yX5_croftNamed cX5_croftNamed 3 (some .int) :: GT) rmX5_croftNamed [.ref (adr G 5 o 0), .int p1] h (f_X5_croftNamed N h o p1) (fun v => some (.int v)) (fun _ => h) (fun _ => True) :=
  ctr_of (by decide) (Nat.le_of_ble_eq_true rfl) ⟨rfl, rfl⟩ fun X _ e2 hA hL F => by subst e2; exact w_X5_croftNamed X F hA hL N h o h_o p1
def f_X1_readCroft (N : Nat) (h : Hp) : Option (Bool × Hp) :=
  onO (gO h 1 0 3) fun o1 =>
  lt_ ((gI h 5 o1 12)) fun v2 =>
  if v2 < 4 then
    onO (gO h 1 0 2) fun _ =>
    (f_X4_advance N h).bind fun h3 =>
    onO (gO h3 1 0 2) fun _ =>
    if (gI h3 4 0 6) = 3 then
      onO (gO h3 1 0 3) fun o4 =>
      onO (gO h3 1 0 2) fun _ =>
      (f_X5_croftNamed N h3 o4 (gI h3 4 0 8)).bind fun v5 =>
      if v5 = (-1) then
        onO (gO h3 1 0 3) fun o6 =>
        onO (gO h3 1 0 2) fun _ =>
        grd (inb v2 4) <| lt_ (sA h3 5 o6 1 v2.toNatClampNeg (gI h3 4 0 8)) fun h7 =>
        onO (gO h7 1 0 2) fun _ =>
        (f_X4_advance N h7).bind fun h8 =>
        bd2 (f_X1_takeNumber N h8 5) fun v10 h9 =>
        if ¬ (b2i v10) = 0 then
          onO (gO h9 1 0 3) fun o11 =>
          grd (inb v2 4) <| lt_ (sA h9 5 o11 2 v2.toNatClampNeg (gI h9 1 0 6)) fun h12 =>
          bd2 (f_X1_takeNumber N h12 9) fun v14 h13 =>
          if ¬ (b2i v14) = 0 then
            onO (gO h13 1 0 3) fun o15 =>
            grd (inb v2 4) <| lt_ (sA h13 5 o15 3 v2.toNatClampNeg (gI h13 1 0 6)) fun h16 =>
            bd2 (f_X1_takeNumber N h16 99) fun v18 h17 =>
            if ¬ (b2i v18) = 0 then
              onO (gO h17 1 0 3) fun o19 =>
              grd (inb v2 4) <| lt_ (sA h17 5 o19 4 v2.toNatClampNeg (gI h17 1 0 6)) fun h20 =>
              onO (gO h20 1 0 3) fun o21 =>
              lt_ (sI h20 5 o21 12 ((gI h20 5 o21 12) + 1)) fun h22 =>
              some (true, h22)
            else
            some (false, h17)
          else
          some (false, h13)
        else
        some (false, h9)
      else
      bd2 (f_X1_fails h3 3) fun v24 h23 =>
      some (v24, h23)
    else
    bd2 (f_X1_fails h3 1) fun v26 h25 =>
    some (v26, h25)
  else
  bd2 (f_X1_fails h 2) fun v28 h27 =>
  some (v28, h27)
abbrev rmX1_readCroft : Room := { frames := 4, cells := 0, slots := 0, locals := 83 }
set_option maxRecDepth 100000 in
set_option maxHeartbeats 4000000 in
theorem w_X1_readCroft (X : Cx) (F : Fx X cX1_readCroft RX1 (some .boolean) rmX1_readCroft) (hA : xA X = Aw (xG X)) (hL : xL X = 2) (N : Nat) (h : Hp) : Wm X (fun v => some (.int (b2i v.1))) (fun v => v.2) (fun _ => True) 0 [(0, .ref (adr (xG X) 1 0 0))] [] h (f_X1_readCroft N h) := by
  have hS : ∀ i : Nat, i < 2 → i < xL X := fun i z => by rw [hL]; exact z
  unfold f_X1_readCroft
  refine r_aload_n F 0 rfl dX1_readCroft_0 rfl ?_
  refine r_getO F frX1_25 (by decide) dX1_readCroft_1 fun o1 hp_o1 => ?_
  refine r_getI F frX1_118 hp_o1 dX1_readCroft_4 ?_
  refine r_nmI fun v2 => ?_
  refine r_istore_n F [(1, .int v2), (0, .ref (adr (xG X) 1 0 0))] rfl dX1_readCroft_7 rfl (hS _ (by decide)) ?_
  refine r_iload_n F 0 rfl dX1_readCroft_8 rfl ?_
  refine r_iconst F (v := 4) dX1_readCroft_9 (by decide) ?_
  refine r_icmplt F (tgt := 19) dX1_readCroft_10 (by decide) ?_ ?_
  · skip
    refine r_aload_n F 1 rfl dX1_readCroft_19 rfl ?_
    refine r_getO1 F frX1_21 (by decide) rfl dX1_readCroft_20 ?_
    refine k_vH (run_V F cvX1_100 (by decide) (c_X4_advance (xG X) _ N h) rfl rfl ⟨⟨rfl, rfl⟩, Nat.le_of_ble_eq_true rfl, Nat.le_of_ble_eq_true rfl⟩ (Nat.le_of_ble_eq_true rfl) dX1_readCroft_23) fun h3 => ?_
    refine r_aload_n F 1 rfl dX1_readCroft_26 rfl ?_
    refine r_getO1 F frX1_21 (by decide) rfl dX1_readCroft_27 ?_
    refine r_getI F frX1_53 (by decide) dX1_readCroft_30 ?_
    refine r_iconst F (v := 3) dX1_readCroft_33 (by decide) ?_
    refine r_icmpeq F (tgt := 43) dX1_readCroft_34 (by decide) ?_ ?_
    · skip
      refine r_aload_n F 1 rfl dX1_readCroft_43 rfl ?_
      refine r_getO F frX1_25 (by decide) dX1_readCroft_44 fun o4 hp_o4 => ?_
      refine r_aload_n F 1 rfl dX1_readCroft_47 rfl ?_
      refine r_getO1 F frX1_21 (by decide) rfl dX1_readCroft_48 ?_
      refine r_getI F frX1_121 (by decide) dX1_readCroft_51 ?_
      refine k_iP (run_V F cvX1_124 hp_o4 (c_X5_croftNamed (xG X) _ N h3 o4 hp_o4 (gI h3 4 0 8)) rfl rfl ⟨⟨rfl, rfl⟩, Nat.le_of_ble_eq_true rfl, Nat.le_of_ble_eq_true rfl⟩ (Nat.le_of_ble_eq_true rfl) dX1_readCroft_54) fun v5 _ => ?_
      refine r_iconst F (v := (-1)) dX1_readCroft_57 (by decide) ?_
      refine r_icmpeq F (tgt := 67) dX1_readCroft_58 (by decide) ?_ ?_
      · skip
        refine r_aload_n F 1 rfl dX1_readCroft_67 rfl ?_
        refine r_getO F frX1_25 (by decide) dX1_readCroft_68 fun o6 hp_o6 => ?_
        refine r_getA F frX1_128 hp_o6 dX1_readCroft_71 ?_
        refine r_iload_n F 0 rfl dX1_readCroft_74 rfl ?_
        refine r_aload_n F 1 rfl dX1_readCroft_75 rfl ?_
        refine r_getO1 F frX1_21 (by decide) rfl dX1_readCroft_76 ?_
        refine r_getI F frX1_121 (by decide) dX1_readCroft_79 ?_
        refine r_iastore F (ar_5_1 o6 hp_o6) dX1_readCroft_82 fun h7 => ?_
        refine r_aload_n F 1 rfl dX1_readCroft_83 rfl ?_
        refine r_getO1 F frX1_21 (by decide) rfl dX1_readCroft_84 ?_
        refine k_vH (run_V F cvX1_100 (by decide) (c_X4_advance (xG X) _ N h7) rfl rfl ⟨⟨rfl, rfl⟩, Nat.le_of_ble_eq_true rfl, Nat.le_of_ble_eq_true rfl⟩ (Nat.le_of_ble_eq_true rfl) dX1_readCroft_87) fun h8 => ?_
        refine r_aload_n F 1 rfl dX1_readCroft_90 rfl ?_
        refine r_iconst F (v := 5) dX1_readCroft_91 (by decide) ?_
        refine k_zH (run_V F cvX1_112 (by decide) (c_X1_takeNumber (xG X) _ N h8 5) rfl rfl ⟨⟨rfl, rfl⟩, Nat.le_of_ble_eq_true rfl, Nat.le_of_ble_eq_true rfl⟩ (Nat.le_of_ble_eq_true rfl) dX1_readCroft_92) fun v10 h9 => ?_
        refine r_ifne F (tgt := 100) dX1_readCroft_95 (by decide) ?_ ?_
        · skip
          refine r_aload_n F 1 rfl dX1_readCroft_100 rfl ?_
          refine r_getO F frX1_25 (by decide) dX1_readCroft_101 fun o11 hp_o11 => ?_
          refine r_getA F frX1_131 hp_o11 dX1_readCroft_104 ?_
          refine r_iload_n F 0 rfl dX1_readCroft_107 rfl ?_
          refine r_aload_n F 1 rfl dX1_readCroft_108 rfl ?_
          refine r_getI F frX1_106 (by decide) dX1_readCroft_109 ?_
          refine r_iastore F (ar_5_2 o11 hp_o11) dX1_readCroft_112 fun h12 => ?_
          refine r_aload_n F 1 rfl dX1_readCroft_113 rfl ?_
          refine r_bipush F (v := 9) dX1_readCroft_114 (by decide) ?_
          refine k_zH (run_V F cvX1_112 (by decide) (c_X1_takeNumber (xG X) _ N h12 9) rfl rfl ⟨⟨rfl, rfl⟩, Nat.le_of_ble_eq_true rfl, Nat.le_of_ble_eq_true rfl⟩ (Nat.le_of_ble_eq_true rfl) dX1_readCroft_116) fun v14 h13 => ?_
          refine r_ifne F (tgt := 124) dX1_readCroft_119 (by decide) ?_ ?_
          · skip
            refine r_aload_n F 1 rfl dX1_readCroft_124 rfl ?_
            refine r_getO F frX1_25 (by decide) dX1_readCroft_125 fun o15 hp_o15 => ?_
            refine r_getA F frX1_134 hp_o15 dX1_readCroft_128 ?_
            refine r_iload_n F 0 rfl dX1_readCroft_131 rfl ?_
            refine r_aload_n F 1 rfl dX1_readCroft_132 rfl ?_
            refine r_getI F frX1_106 (by decide) dX1_readCroft_133 ?_
            refine r_iastore F (ar_5_3 o15 hp_o15) dX1_readCroft_136 fun h16 => ?_
            refine r_aload_n F 1 rfl dX1_readCroft_137 rfl ?_
            refine r_bipush F (v := 99) dX1_readCroft_138 (by decide) ?_
            refine k_zH (run_V F cvX1_112 (by decide) (c_X1_takeNumber (xG X) _ N h16 99) rfl rfl ⟨⟨rfl, rfl⟩, Nat.le_of_ble_eq_true rfl, Nat.le_of_ble_eq_true rfl⟩ (Nat.le_of_ble_eq_true rfl) dX1_readCroft_140) fun v18 h17 => ?_
            refine r_ifne F (tgt := 148) dX1_readCroft_143 (by decide) ?_ ?_
            · skip
              refine r_aload_n F 1 rfl dX1_readCroft_148 rfl ?_
              refine r_getO F frX1_25 (by decide) dX1_readCroft_149 fun o19 hp_o19 => ?_
              refine r_getA F frX1_137 hp_o19 dX1_readCroft_152 ?_
              refine r_iload_n F 0 rfl dX1_readCroft_155 rfl ?_
              refine r_aload_n F 1 rfl dX1_readCroft_156 rfl ?_
              refine r_getI F frX1_106 (by decide) dX1_readCroft_157 ?_
              refine r_iastore F (ar_5_4 o19 hp_o19) dX1_readCroft_160 fun h20 => ?_
              refine r_aload_n F 1 rfl dX1_readCroft_161 rfl ?_
              refine r_getO F frX1_25 (by decide) dX1_readCroft_162 fun o21 hp_o21 => ?_
              refine r_dup F rfl dX1_readCroft_165 ?_
              refine r_getI F frX1_118 hp_o21 dX1_readCroft_166 ?_
              refine r_iconst F (v := 1) dX1_readCroft_169 (by decide) ?_
              refine r_iadd F dX1_readCroft_170 ?_
              refine r_putI F frX1_118 hp_o21 rfl rfl dX1_readCroft_171 fun h22 => ?_
              refine r_iconst F (v := 1) dX1_readCroft_174 (by decide) ?_
              exact r_zret F hA true rfl rfl rfl trivial dX1_readCroft_175
            refine r_iconst F (v := 0) dX1_readCroft_146 (by decide) ?_
            exact r_zret F hA false rfl rfl rfl trivial dX1_readCroft_147
          refine r_iconst F (v := 0) dX1_readCroft_122 (by decide) ?_
          exact r_zret F hA false rfl rfl rfl trivial dX1_readCroft_123
        refine r_iconst F (v := 0) dX1_readCroft_98 (by decide) ?_
        exact r_zret F hA false rfl rfl rfl trivial dX1_readCroft_99
      refine r_aload_n F 1 rfl dX1_readCroft_61 rfl ?_
      refine r_iconst F (v := 3) dX1_readCroft_62 (by decide) ?_
      refine k_zH (run_V F cvX1_93 (by decide) (c_X1_fails (xG X) _ h3 3) rfl rfl ⟨⟨rfl, rfl⟩, Nat.le_of_ble_eq_true rfl, Nat.le_of_ble_eq_true rfl⟩ (Nat.le_of_ble_eq_true rfl) dX1_readCroft_63) fun v24 h23 => ?_
      exact r_zret F hA v24 rfl rfl rfl trivial dX1_readCroft_66
    refine r_aload_n F 1 rfl dX1_readCroft_37 rfl ?_
    refine r_iconst F (v := 1) dX1_readCroft_38 (by decide) ?_
    refine k_zH (run_V F cvX1_93 (by decide) (c_X1_fails (xG X) _ h3 1) rfl rfl ⟨⟨rfl, rfl⟩, Nat.le_of_ble_eq_true rfl, Nat.le_of_ble_eq_true rfl⟩ (Nat.le_of_ble_eq_true rfl) dX1_readCroft_39) fun v26 h25 => ?_
    exact r_zret F hA v26 rfl rfl rfl trivial dX1_readCroft_42
  refine r_aload_n F 1 rfl dX1_readCroft_13 rfl ?_
  refine r_iconst F (v := 2) dX1_readCroft_14 (by decide) ?_
  refine k_zH (run_V F cvX1_93 (by decide) (c_X1_fails (xG X) _ h 2) rfl rfl ⟨⟨rfl, rfl⟩, Nat.le_of_ble_eq_true rfl, Nat.le_of_ble_eq_true rfl⟩ (Nat.le_of_ble_eq_true rfl) dX1_readCroft_15) fun v28 h27 => ?_
  exact r_zret F hA v28 rfl rfl rfl trivial dX1_readCroft_18
theorem c_X1_readCroft (G : Gx) (l : Launch) (N : Nat) (h : Hp) : Ctr G l yX1_readCroft (.code yX1_readCroft cX1_readCroft 2 (some .boolean) :: GT) rmX1_readCroft [.ref (adr G 1 0 0)] h (f_X1_readCroft N h) (fun v => some (.int (b2i v.1))) (fun v => v.2) (fun _ => True) :=
  ctr_of (by decide) (Nat.le_of_ble_eq_true rfl) ⟨rfl, rfl⟩ fun X _ e2 hA hL F => by subst e2; exact w_X1_readCroft X F hA hL N h
def f_X1_readField (N : Nat) (h : Hp) : Option (Bool × Hp) :=
  onO (gO h 1 0 3) fun o1 =>
  lt_ ((gI h 5 o1 13)) fun v2 =>
  if v2 < 6 then
    onO (gO h 1 0 2) fun _ =>
    (f_X4_advance N h).bind fun h3 =>
    onO (gO h3 1 0 2) fun _ =>
    if (gI h3 4 0 6) = 3 then
      onO (gO h3 1 0 3) fun o4 =>
      onO (gO h3 1 0 2) fun _ =>
      (f_X5_croftNamed N h3 o4 (gI h3 4 0 8)).bind fun v5 =>
      if ¬ v5 = (-1) then
        onO (gO h3 1 0 3) fun o6 =>
        grd (inb v2 6) <| lt_ (sA h3 5 o6 5 v2.toNatClampNeg v5) fun h7 =>
        onO (gO h7 1 0 2) fun _ =>
        (f_X4_advance N h7).bind fun h8 =>
        bd2 (f_X1_takeNumber N h8 99) fun v10 h9 =>
        if ¬ (b2i v10) = 0 then
          onO (gO h9 1 0 3) fun o11 =>
          grd (inb v2 6) <| lt_ (sA h9 5 o11 6 v2.toNatClampNeg (gI h9 1 0 6)) fun h12 =>
          bd2 (f_X1_takeNumber N h12 9) fun v14 h13 =>
          if ¬ (b2i v14) = 0 then
            onO (gO h13 1 0 3) fun o15 =>
            grd (inb v2 6) <| lt_ (sA h13 5 o15 7 v2.toNatClampNeg (gI h13 1 0 6)) fun h16 =>
            onO (gO h16 1 0 3) fun o17 =>
            lt_ (sI h16 5 o17 13 ((gI h16 5 o17 13) + 1)) fun h18 =>
            some (true, h18)
          else
          some (false, h13)
        else
        some (false, h9)
      else
      bd2 (f_X1_fails h3 4) fun v20 h19 =>
      some (v20, h19)
    else
    bd2 (f_X1_fails h3 1) fun v22 h21 =>
    some (v22, h21)
  else
  bd2 (f_X1_fails h 2) fun v24 h23 =>
  some (v24, h23)
abbrev rmX1_readField : Room := { frames := 4, cells := 0, slots := 0, locals := 83 }
set_option maxRecDepth 100000 in
set_option maxHeartbeats 4000000 in
theorem w_X1_readField (X : Cx) (F : Fx X cX1_readField RX1 (some .boolean) rmX1_readField) (hA : xA X = Aw (xG X)) (hL : xL X = 3) (N : Nat) (h : Hp) : Wm X (fun v => some (.int (b2i v.1))) (fun v => v.2) (fun _ => True) 0 [(0, .ref (adr (xG X) 1 0 0))] [] h (f_X1_readField N h) := by
  have hS : ∀ i : Nat, i < 3 → i < xL X := fun i z => by rw [hL]; exact z
  unfold f_X1_readField
  refine r_aload_n F 0 rfl dX1_readField_0 rfl ?_
  refine r_getO F frX1_25 (by decide) dX1_readField_1 fun o1 hp_o1 => ?_
  refine r_getI F frX1_140 hp_o1 dX1_readField_4 ?_
  refine r_nmI fun v2 => ?_
  refine r_istore_n F [(1, .int v2), (0, .ref (adr (xG X) 1 0 0))] rfl dX1_readField_7 rfl (hS _ (by decide)) ?_
  refine r_iload_n F 0 rfl dX1_readField_8 rfl ?_
  refine r_bipush F (v := 6) dX1_readField_9 (by decide) ?_
  refine r_icmplt F (tgt := 20) dX1_readField_11 (by decide) ?_ ?_
  · skip
    refine r_aload_n F 1 rfl dX1_readField_20 rfl ?_
    refine r_getO1 F frX1_21 (by decide) rfl dX1_readField_21 ?_
    refine k_vH (run_V F cvX1_100 (by decide) (c_X4_advance (xG X) _ N h) rfl rfl ⟨⟨rfl, rfl⟩, Nat.le_of_ble_eq_true rfl, Nat.le_of_ble_eq_true rfl⟩ (Nat.le_of_ble_eq_true rfl) dX1_readField_24) fun h3 => ?_
    refine r_aload_n F 1 rfl dX1_readField_27 rfl ?_
    refine r_getO1 F frX1_21 (by decide) rfl dX1_readField_28 ?_
    refine r_getI F frX1_53 (by decide) dX1_readField_31 ?_
    refine r_iconst F (v := 3) dX1_readField_34 (by decide) ?_
    refine r_icmpeq F (tgt := 44) dX1_readField_35 (by decide) ?_ ?_
    · skip
      refine r_aload_n F 1 rfl dX1_readField_44 rfl ?_
      refine r_getO F frX1_25 (by decide) dX1_readField_45 fun o4 hp_o4 => ?_
      refine r_aload_n F 1 rfl dX1_readField_48 rfl ?_
      refine r_getO1 F frX1_21 (by decide) rfl dX1_readField_49 ?_
      refine r_getI F frX1_121 (by decide) dX1_readField_52 ?_
      refine k_iP (run_V F cvX1_124 hp_o4 (c_X5_croftNamed (xG X) _ N h3 o4 hp_o4 (gI h3 4 0 8)) rfl rfl ⟨⟨rfl, rfl⟩, Nat.le_of_ble_eq_true rfl, Nat.le_of_ble_eq_true rfl⟩ (Nat.le_of_ble_eq_true rfl) dX1_readField_55) fun v5 _ => ?_
      refine r_istore_n F [(2, .int v5), (1, .int v2), (0, .ref (adr (xG X) 1 0 0))] rfl dX1_readField_58 rfl (hS _ (by decide)) ?_
      refine r_iload_n F 0 rfl dX1_readField_59 rfl ?_
      refine r_iconst F (v := (-1)) dX1_readField_60 (by decide) ?_
      refine r_icmpne F (tgt := 70) dX1_readField_61 (by decide) ?_ ?_
      · skip
        refine r_aload_n F 2 rfl dX1_readField_70 rfl ?_
        refine r_getO F frX1_25 (by decide) dX1_readField_71 fun o6 hp_o6 => ?_
        refine r_getA F frX1_143 hp_o6 dX1_readField_74 ?_
        refine r_iload_n F 1 rfl dX1_readField_77 rfl ?_
        refine r_iload_n F 0 rfl dX1_readField_78 rfl ?_
        refine r_iastore F (ar_5_5 o6 hp_o6) dX1_readField_79 fun h7 => ?_
        refine r_aload_n F 2 rfl dX1_readField_80 rfl ?_
        refine r_getO1 F frX1_21 (by decide) rfl dX1_readField_81 ?_
        refine k_vH (run_V F cvX1_100 (by decide) (c_X4_advance (xG X) _ N h7) rfl rfl ⟨⟨rfl, rfl⟩, Nat.le_of_ble_eq_true rfl, Nat.le_of_ble_eq_true rfl⟩ (Nat.le_of_ble_eq_true rfl) dX1_readField_84) fun h8 => ?_
        refine r_aload_n F 2 rfl dX1_readField_87 rfl ?_
        refine r_bipush F (v := 99) dX1_readField_88 (by decide) ?_
        refine k_zH (run_V F cvX1_112 (by decide) (c_X1_takeNumber (xG X) _ N h8 99) rfl rfl ⟨⟨rfl, rfl⟩, Nat.le_of_ble_eq_true rfl, Nat.le_of_ble_eq_true rfl⟩ (Nat.le_of_ble_eq_true rfl) dX1_readField_90) fun v10 h9 => ?_
        refine r_ifne F (tgt := 98) dX1_readField_93 (by decide) ?_ ?_
        · skip
          refine r_aload_n F 2 rfl dX1_readField_98 rfl ?_
          refine r_getO F frX1_25 (by decide) dX1_readField_99 fun o11 hp_o11 => ?_
          refine r_getA F frX1_146 hp_o11 dX1_readField_102 ?_
          refine r_iload_n F 1 rfl dX1_readField_105 rfl ?_
          refine r_aload_n F 2 rfl dX1_readField_106 rfl ?_
          refine r_getI F frX1_106 (by decide) dX1_readField_107 ?_
          refine r_iastore F (ar_5_6 o11 hp_o11) dX1_readField_110 fun h12 => ?_
          refine r_aload_n F 2 rfl dX1_readField_111 rfl ?_
          refine r_bipush F (v := 9) dX1_readField_112 (by decide) ?_
          refine k_zH (run_V F cvX1_112 (by decide) (c_X1_takeNumber (xG X) _ N h12 9) rfl rfl ⟨⟨rfl, rfl⟩, Nat.le_of_ble_eq_true rfl, Nat.le_of_ble_eq_true rfl⟩ (Nat.le_of_ble_eq_true rfl) dX1_readField_114) fun v14 h13 => ?_
          refine r_ifne F (tgt := 122) dX1_readField_117 (by decide) ?_ ?_
          · skip
            refine r_aload_n F 2 rfl dX1_readField_122 rfl ?_
            refine r_getO F frX1_25 (by decide) dX1_readField_123 fun o15 hp_o15 => ?_
            refine r_getA F frX1_149 hp_o15 dX1_readField_126 ?_
            refine r_iload_n F 1 rfl dX1_readField_129 rfl ?_
            refine r_aload_n F 2 rfl dX1_readField_130 rfl ?_
            refine r_getI F frX1_106 (by decide) dX1_readField_131 ?_
            refine r_iastore F (ar_5_7 o15 hp_o15) dX1_readField_134 fun h16 => ?_
            refine r_aload_n F 2 rfl dX1_readField_135 rfl ?_
            refine r_getO F frX1_25 (by decide) dX1_readField_136 fun o17 hp_o17 => ?_
            refine r_dup F rfl dX1_readField_139 ?_
            refine r_getI F frX1_140 hp_o17 dX1_readField_140 ?_
            refine r_iconst F (v := 1) dX1_readField_143 (by decide) ?_
            refine r_iadd F dX1_readField_144 ?_
            refine r_putI F frX1_140 hp_o17 rfl rfl dX1_readField_145 fun h18 => ?_
            refine r_iconst F (v := 1) dX1_readField_148 (by decide) ?_
            exact r_zret F hA true rfl rfl rfl trivial dX1_readField_149
          refine r_iconst F (v := 0) dX1_readField_120 (by decide) ?_
          exact r_zret F hA false rfl rfl rfl trivial dX1_readField_121
        refine r_iconst F (v := 0) dX1_readField_96 (by decide) ?_
        exact r_zret F hA false rfl rfl rfl trivial dX1_readField_97
      refine r_aload_n F 2 rfl dX1_readField_64 rfl ?_
      refine r_iconst F (v := 4) dX1_readField_65 (by decide) ?_
      refine k_zH (run_V F cvX1_93 (by decide) (c_X1_fails (xG X) _ h3 4) rfl rfl ⟨⟨rfl, rfl⟩, Nat.le_of_ble_eq_true rfl, Nat.le_of_ble_eq_true rfl⟩ (Nat.le_of_ble_eq_true rfl) dX1_readField_66) fun v20 h19 => ?_
      exact r_zret F hA v20 rfl rfl rfl trivial dX1_readField_69
    refine r_aload_n F 1 rfl dX1_readField_38 rfl ?_
    refine r_iconst F (v := 1) dX1_readField_39 (by decide) ?_
    refine k_zH (run_V F cvX1_93 (by decide) (c_X1_fails (xG X) _ h3 1) rfl rfl ⟨⟨rfl, rfl⟩, Nat.le_of_ble_eq_true rfl, Nat.le_of_ble_eq_true rfl⟩ (Nat.le_of_ble_eq_true rfl) dX1_readField_40) fun v22 h21 => ?_
    exact r_zret F hA v22 rfl rfl rfl trivial dX1_readField_43
  refine r_aload_n F 1 rfl dX1_readField_14 rfl ?_
  refine r_iconst F (v := 2) dX1_readField_15 (by decide) ?_
  refine k_zH (run_V F cvX1_93 (by decide) (c_X1_fails (xG X) _ h 2) rfl rfl ⟨⟨rfl, rfl⟩, Nat.le_of_ble_eq_true rfl, Nat.le_of_ble_eq_true rfl⟩ (Nat.le_of_ble_eq_true rfl) dX1_readField_16) fun v24 h23 => ?_
  exact r_zret F hA v24 rfl rfl rfl trivial dX1_readField_19
theorem c_X1_readField (G : Gx) (l : Launch) (N : Nat) (h : Hp) : Ctr G l yX1_readField (.code yX1_readField cX1_readField 3 (some .boolean) :: GT) rmX1_readField [.ref (adr G 1 0 0)] h (f_X1_readField N h) (fun v => some (.int (b2i v.1))) (fun v => v.2) (fun _ => True) :=
  ctr_of (by decide) (Nat.le_of_ble_eq_true rfl) ⟨rfl, rfl⟩ fun X _ e2 hA hL F => by subst e2; exact w_X1_readField X F hA hL N h
def f_X5_hasTide_2 (h : Hp) (o : Nat) (p1 : Int32) (r2 : Int32 → Option Bool) (v1 : Int32) : Option Bool :=
  if (gI h 5 o 14) ≤ v1 then
    some false
  else
  grd (inb v1 4) <|
  if ¬ (gA h 5 o 8 v1.toNatClampNeg) = p1 then
    lt_ (v1 + 1) fun v2 =>
    r2 v2
  else
  some true
def f_X5_hasTide (N : Nat) (h : Hp) (o : Nat) (p1 : Int32) : Option Bool :=
  iter (fun _ => none) (f_X5_hasTide_2 h o p1) N 0
abbrev rmX5_hasTide : Room := { frames := 0, cells := 0, slots := 0, locals := 0 }
set_option maxRecDepth 100000 in
set_option maxHeartbeats 4000000 in
theorem w_X5_hasTide (X : Cx) (F : Fx X cX5_hasTide RX5 (some .boolean) rmX5_hasTide) (hA : xA X = Aw (xG X)) (hL : xL X = 3) (N : Nat) (h : Hp) (o : Nat) (h_o : o < cnt 5) (p1 : Int32) : Wm X (fun v => some (.int (b2i v))) (fun _ => h) (fun _ => True) 0 [(0, .ref (adr (xG X) 5 o 0)), (1, .int p1)] [] h (f_X5_hasTide N h o p1) := by
  have hS : ∀ i : Nat, i < 3 → i < xL X := fun i z => by rw [hL]; exact z
  unfold f_X5_hasTide
  refine r_iconst F (v := 0) dX5_hasTide_0 (by decide) ?_
  refine r_istore_n F [(2, .int 0), (0, .ref (adr (xG X) 5 o 0)), (1, .int p1)] rfl dX5_hasTide_1 rfl (hS _ (by decide)) ?_
  have hl2 : ∀ n : Nat, ∀ v1 : Int32, Wm X (fun v => some (.int (b2i v))) (fun _ => h) (fun _ => True) 2 [(0, .ref (adr (xG X) 5 o 0)), (1, .int p1), (2, .int v1)] [] h (iter (fun _ => none) (f_X5_hasTide_2 h o p1) n v1) := by
    intro n
    induction n with
    | zero => intro v1; exact Wt_none
    | succ n ih =>
      revert ih
      show (∀ v1 : Int32, Wm X (fun v => some (.int (b2i v))) (fun _ => h) (fun _ => True) 2 [(0, .ref (adr (xG X) 5 o 0)), (1, .int p1), (2, .int v1)] [] h (iter (fun _ => none) (f_X5_hasTide_2 h o p1) n v1)) → _
      intro ih2 v1
      show Wm X (fun v => some (.int (b2i v))) (fun _ => h) (fun _ => True) 2 [(0, .ref (adr (xG X) 5 o 0)), (1, .int p1), (2, .int v1)] [] h (f_X5_hasTide_2 h o p1 (iter (fun _ => none) (f_X5_hasTide_2 h o p1) n) v1)
      revert ih2
      generalize iter (fun _ => none) (f_X5_hasTide_2 h o p1) n = r2
      intro ih2
      unfold f_X5_hasTide_2
      refine r_iload_n F 2 rfl dX5_hasTide_2 rfl ?_
      refine r_aload_n F 0 rfl dX5_hasTide_3 rfl ?_
      refine r_getI F frX5_62 h_o dX5_hasTide_4 ?_
      refine r_icmpge F (tgt := 28) dX5_hasTide_7 (by decide) ?_ ?_
      · skip
        refine r_iconst F (v := 0) dX5_hasTide_28 (by decide) ?_
        exact r_zret F hA false rfl rfl rfl trivial dX5_hasTide_29
      refine r_aload_n F 0 rfl dX5_hasTide_10 rfl ?_
      refine r_getA F frX5_36 h_o dX5_hasTide_11 ?_
      refine r_iload_n F 2 rfl dX5_hasTide_14 rfl ?_
      refine r_iaload F (ar_5_8 o h_o) dX5_hasTide_15 ?_
      refine r_iload_n F 1 rfl dX5_hasTide_16 rfl ?_
      refine r_icmpne F (tgt := 22) dX5_hasTide_17 (by decide) ?_ ?_
      · skip
        refine r_iinc F (v := 1) 2 rfl (by decide) (fun v2 => [(2, .int v2), (0, .ref (adr (xG X) 5 o 0)), (1, .int p1)]) (fun _ => rfl) dX5_hasTide_22 (hS _ (by decide)) fun v2 => ?_
        refine r_goto F (tgt := 2) dX5_hasTide_25 (by decide) ?_
        exact Wt_pick [1, 2, 0] rfl (ih2 v2)
      refine r_iconst F (v := 1) dX5_hasTide_20 (by decide) ?_
      exact r_zret F hA true rfl rfl rfl trivial dX5_hasTide_21
  exact Wt_pick [1, 2, 0] rfl (hl2 N 0)
theorem c_X5_hasTide (G : Gx) (l : Launch) (N : Nat) (h : Hp) (o : Nat) (h_o : o < cnt 5) (p1 : Int32) : Ctr G l yX5_hasTide (.code yX5_hasTide cX5_hasTide 3 (some .boolean) :: GT) rmX5_hasTide [.ref (adr G 5 o 0), .int p1] h (f_X5_hasTide N h o p1) (fun v => some (.int (b2i v))) (fun _ => h) (fun _ => True) :=
  ctr_of (by decide) (Nat.le_of_ble_eq_true rfl) ⟨rfl, rfl⟩ fun X _ e2 hA hL F => by subst e2; exact w_X5_hasTide X F hA hL N h o h_o p1
def f_X1_readTide (N : Nat) (h : Hp) : Option (Bool × Hp) :=
  onO (gO h 1 0 3) fun o1 =>
  if (gI h 5 o1 14) < 4 then
    onO (gO h 1 0 2) fun _ =>
    (f_X4_advance N h).bind fun h2 =>
    onO (gO h2 1 0 2) fun _ =>
    jn (
      bd2 (f_X1_takeNumber N h2 23) fun v4 h3 =>
      if ¬ (b2i v4) = 0 then
        onO (gO h3 1 0 3) fun o5 =>
        onO (gO h3 1 0 3) fun o6 =>
        grd (inb (gI h3 5 o6 14) 4) <| lt_ (sA h3 5 o5 8 (gI h3 5 o6 14).toNatClampNeg (gI h3 1 0 6)) fun h7 =>
        onO (gO h7 1 0 3) fun o8 =>
        lt_ (sI h7 5 o8 14 ((gI h7 5 o8 14) + 1)) fun h9 =>
        some (true, h9)
      else
      some (false, h3)) fun (j58 : Option (Bool × Hp)) =>
    if ¬ (gI h2 4 0 6) = 2 then
      j58
    else
    onO (gO h2 1 0 3) fun o10 =>
    onO (gO h2 1 0 2) fun _ =>
    (f_X5_hasTide N h2 o10 (gI h2 4 0 7)).bind fun v11 =>
    if (b2i v11) = 0 then
      j58
    else
    bd2 (f_X1_fails h2 3) fun v13 h12 =>
    some (v13, h12)
  else
  bd2 (f_X1_fails h 2) fun v15 h14 =>
  some (v15, h14)
abbrev rmX1_readTide : Room := { frames := 4, cells := 0, slots := 0, locals := 83 }
set_option maxRecDepth 100000 in
set_option maxHeartbeats 4000000 in
theorem w_X1_readTide (X : Cx) (F : Fx X cX1_readTide RX1 (some .boolean) rmX1_readTide) (hA : xA X = Aw (xG X)) (hL : xL X = 1) (N : Nat) (h : Hp) : Wm X (fun v => some (.int (b2i v.1))) (fun v => v.2) (fun _ => True) 0 [(0, .ref (adr (xG X) 1 0 0))] [] h (f_X1_readTide N h) := by
  have hS : ∀ i : Nat, i < 1 → i < xL X := fun i z => by rw [hL]; exact z
  unfold f_X1_readTide
  refine r_aload_n F 0 rfl dX1_readTide_0 rfl ?_
  refine r_getO F frX1_25 (by decide) dX1_readTide_1 fun o1 hp_o1 => ?_
  refine r_getI F frX1_152 hp_o1 dX1_readTide_4 ?_
  refine r_iconst F (v := 4) dX1_readTide_7 (by decide) ?_
  refine r_icmplt F (tgt := 17) dX1_readTide_8 (by decide) ?_ ?_
  · skip
    refine r_aload_n F 0 rfl dX1_readTide_17 rfl ?_
    refine r_getO1 F frX1_21 (by decide) rfl dX1_readTide_18 ?_
    refine k_vH (run_V F cvX1_100 (by decide) (c_X4_advance (xG X) _ N h) rfl rfl ⟨⟨rfl, rfl⟩, Nat.le_of_ble_eq_true rfl, Nat.le_of_ble_eq_true rfl⟩ (Nat.le_of_ble_eq_true rfl) dX1_readTide_21) fun h2 => ?_
    refine r_aload_n F 0 rfl dX1_readTide_24 rfl ?_
    refine r_getO1 F frX1_21 (by decide) rfl dX1_readTide_25 ?_
    refine r_getI F frX1_53 (by decide) dX1_readTide_28 ?_
    refine r_iconst F (v := 2) dX1_readTide_31 (by decide) ?_
    refine Wt_jn (fun (j58 : Option (Bool × Hp)) => Wm X (fun v => some (.int (b2i v.1))) (fun v => v.2) (fun _ => True) 58 [(0, .ref (adr (xG X) 1 0 0))] [] h2 (j58)) ?_ fun j58 hj58 => ?_
    · skip
      refine r_aload_n F 0 rfl dX1_readTide_58 rfl ?_
      refine r_bipush F (v := 23) dX1_readTide_59 (by decide) ?_
      refine k_zH (run_V F cvX1_112 (by decide) (c_X1_takeNumber (xG X) _ N h2 23) rfl rfl ⟨⟨rfl, rfl⟩, Nat.le_of_ble_eq_true rfl, Nat.le_of_ble_eq_true rfl⟩ (Nat.le_of_ble_eq_true rfl) dX1_readTide_61) fun v4 h3 => ?_
      refine r_ifne F (tgt := 69) dX1_readTide_64 (by decide) ?_ ?_
      · skip
        refine r_aload_n F 0 rfl dX1_readTide_69 rfl ?_
        refine r_getO F frX1_25 (by decide) dX1_readTide_70 fun o5 hp_o5 => ?_
        refine r_getA F frX1_158 hp_o5 dX1_readTide_73 ?_
        refine r_aload_n F 0 rfl dX1_readTide_76 rfl ?_
        refine r_getO F frX1_25 (by decide) dX1_readTide_77 fun o6 hp_o6 => ?_
        refine r_getI F frX1_152 hp_o6 dX1_readTide_80 ?_
        refine r_aload_n F 0 rfl dX1_readTide_83 rfl ?_
        refine r_getI F frX1_106 (by decide) dX1_readTide_84 ?_
        refine r_iastore F (ar_5_8 o5 hp_o5) dX1_readTide_87 fun h7 => ?_
        refine r_aload_n F 0 rfl dX1_readTide_88 rfl ?_
        refine r_getO F frX1_25 (by decide) dX1_readTide_89 fun o8 hp_o8 => ?_
        refine r_dup F rfl dX1_readTide_92 ?_
        refine r_getI F frX1_152 hp_o8 dX1_readTide_93 ?_
        refine r_iconst F (v := 1) dX1_readTide_96 (by decide) ?_
        refine r_iadd F dX1_readTide_97 ?_
        refine r_putI F frX1_152 hp_o8 rfl rfl dX1_readTide_98 fun h9 => ?_
        refine r_iconst F (v := 1) dX1_readTide_101 (by decide) ?_
        exact r_zret F hA true rfl rfl rfl trivial dX1_readTide_102
      refine r_iconst F (v := 0) dX1_readTide_67 (by decide) ?_
      exact r_zret F hA false rfl rfl rfl trivial dX1_readTide_68
    refine r_icmpne F (tgt := 58) dX1_readTide_32 (by decide) ?_ ?_
    · skip
      exact Wt_pick [0] rfl (hj58)
    refine r_aload_n F 0 rfl dX1_readTide_35 rfl ?_
    refine r_getO F frX1_25 (by decide) dX1_readTide_36 fun o10 hp_o10 => ?_
    refine r_aload_n F 0 rfl dX1_readTide_39 rfl ?_
    refine r_getO1 F frX1_21 (by decide) rfl dX1_readTide_40 ?_
    refine r_getI F frX1_103 (by decide) dX1_readTide_43 ?_
    refine k_zP (run_V F cvX1_155 hp_o10 (c_X5_hasTide (xG X) _ N h2 o10 hp_o10 (gI h2 4 0 7)) rfl rfl ⟨⟨rfl, rfl⟩, Nat.le_of_ble_eq_true rfl, Nat.le_of_ble_eq_true rfl⟩ (Nat.le_of_ble_eq_true rfl) dX1_readTide_46) fun v11 _ => ?_
    refine r_ifeq F (tgt := 58) dX1_readTide_49 (by decide) ?_ ?_
    · skip
      exact Wt_pick [0] rfl (hj58)
    refine r_aload_n F 0 rfl dX1_readTide_52 rfl ?_
    refine r_iconst F (v := 3) dX1_readTide_53 (by decide) ?_
    refine k_zH (run_V F cvX1_93 (by decide) (c_X1_fails (xG X) _ h2 3) rfl rfl ⟨⟨rfl, rfl⟩, Nat.le_of_ble_eq_true rfl, Nat.le_of_ble_eq_true rfl⟩ (Nat.le_of_ble_eq_true rfl) dX1_readTide_54) fun v13 h12 => ?_
    exact r_zret F hA v13 rfl rfl rfl trivial dX1_readTide_57
  refine r_aload_n F 0 rfl dX1_readTide_11 rfl ?_
  refine r_iconst F (v := 2) dX1_readTide_12 (by decide) ?_
  refine k_zH (run_V F cvX1_93 (by decide) (c_X1_fails (xG X) _ h 2) rfl rfl ⟨⟨rfl, rfl⟩, Nat.le_of_ble_eq_true rfl, Nat.le_of_ble_eq_true rfl⟩ (Nat.le_of_ble_eq_true rfl) dX1_readTide_13) fun v15 h14 => ?_
  exact r_zret F hA v15 rfl rfl rfl trivial dX1_readTide_16
theorem c_X1_readTide (G : Gx) (l : Launch) (N : Nat) (h : Hp) : Ctr G l yX1_readTide (.code yX1_readTide cX1_readTide 1 (some .boolean) :: GT) rmX1_readTide [.ref (adr G 1 0 0)] h (f_X1_readTide N h) (fun v => some (.int (b2i v.1))) (fun v => v.2) (fun _ => True) :=
  ctr_of (by decide) (Nat.le_of_ble_eq_true rfl) ⟨rfl, rfl⟩ fun X _ e2 hA hL F => by subst e2; exact w_X1_readTide X F hA hL N h
