theorem dX8_plainTried_0 : decode cX8_plainTried 0 = .ok (.aload_n 0, 1) := by decide +kernel
theorem dX8_plainTried_1 : decode cX8_plainTried 1 = .ok (.iconst 0, 1) := by decide +kernel
theorem dX8_plainTried_2 : decode cX8_plainTried 2 = .ok (.putfield 382, 3) := by decide +kernel
theorem dX8_plainTried_5 : decode cX8_plainTried 5 = .ok (.aload_n 0, 1) := by decide +kernel
theorem dX8_plainTried_6 : decode cX8_plainTried 6 = .ok (.iconst 0, 1) := by decide +kernel
theorem dX8_plainTried_7 : decode cX8_plainTried 7 = .ok (.putfield 385, 3) := by decide +kernel
theorem dX8_plainTried_10 : decode cX8_plainTried 10 = .ok (.aload_n 0, 1) := by decide +kernel
theorem dX8_plainTried_11 : decode cX8_plainTried 11 = .ok (.iconst 0, 1) := by decide +kernel
theorem dX8_plainTried_12 : decode cX8_plainTried 12 = .ok (.putfield 388, 3) := by decide +kernel
theorem dX8_plainTried_15 : decode cX8_plainTried 15 = .ok (.aload_n 0, 1) := by decide +kernel
theorem dX8_plainTried_16 : decode cX8_plainTried 16 = .ok (.iconst (-1), 1) := by decide +kernel
theorem dX8_plainTried_17 : decode cX8_plainTried 17 = .ok (.putfield 118, 3) := by decide +kernel
theorem dX8_plainTried_20 : decode cX8_plainTried 20 = .ok (.return_, 1) := by decide +kernel
theorem dX8_begin_0 : decode cX8_begin 0 = .ok (.aload_n 0, 1) := by decide +kernel
theorem dX8_begin_1 : decode cX8_begin 1 = .ok (.iconst 0, 1) := by decide +kernel
theorem dX8_begin_2 : decode cX8_begin 2 = .ok (.invokevirtual 360, 3) := by decide +kernel
theorem dX8_begin_5 : decode cX8_begin 5 = .ok (.aload_n 0, 1) := by decide +kernel
theorem dX8_begin_6 : decode cX8_begin 6 = .ok (.aload_n 0, 1) := by decide +kernel
theorem dX8_begin_7 : decode cX8_begin 7 = .ok (.getfield 24, 3) := by decide +kernel
theorem dX8_begin_10 : decode cX8_begin 10 = .ok (.iconst 1, 1) := by decide +kernel
theorem dX8_begin_11 : decode cX8_begin 11 = .ok (.iaload, 1) := by decide +kernel
theorem dX8_begin_12 : decode cX8_begin 12 = .ok (.putfield 363, 3) := by decide +kernel
theorem dX8_begin_15 : decode cX8_begin 15 = .ok (.aload_n 0, 1) := by decide +kernel
theorem dX8_begin_16 : decode cX8_begin 16 = .ok (.aload_n 0, 1) := by decide +kernel
theorem dX8_begin_17 : decode cX8_begin 17 = .ok (.getfield 24, 3) := by decide +kernel
theorem dX8_begin_20 : decode cX8_begin 20 = .ok (.iconst 4, 1) := by decide +kernel
theorem dX8_begin_21 : decode cX8_begin 21 = .ok (.iaload, 1) := by decide +kernel
theorem dX8_begin_22 : decode cX8_begin 22 = .ok (.i2l, 1) := by decide +kernel
theorem dX8_begin_23 : decode cX8_begin 23 = .ok (.putfield 366, 3) := by decide +kernel
theorem dX8_begin_26 : decode cX8_begin 26 = .ok (.aload_n 0, 1) := by decide +kernel
theorem dX8_begin_27 : decode cX8_begin 27 = .ok (.invokevirtual 370, 3) := by decide +kernel
theorem dX8_begin_30 : decode cX8_begin 30 = .ok (.aload_n 0, 1) := by decide +kernel
theorem dX8_begin_31 : decode cX8_begin 31 = .ok (.iconst 0, 1) := by decide +kernel
theorem dX8_begin_32 : decode cX8_begin 32 = .ok (.putfield 373, 3) := by decide +kernel
theorem dX8_begin_35 : decode cX8_begin 35 = .ok (.aload_n 0, 1) := by decide +kernel
theorem dX8_begin_36 : decode cX8_begin 36 = .ok (.iconst (-1), 1) := by decide +kernel
theorem dX8_begin_37 : decode cX8_begin 37 = .ok (.putfield 130, 3) := by decide +kernel
theorem dX8_begin_40 : decode cX8_begin 40 = .ok (.aload_n 0, 1) := by decide +kernel
theorem dX8_begin_41 : decode cX8_begin 41 = .ok (.iconst 0, 1) := by decide +kernel
theorem dX8_begin_42 : decode cX8_begin 42 = .ok (.putfield 376, 3) := by decide +kernel
theorem dX8_begin_45 : decode cX8_begin 45 = .ok (.aload_n 0, 1) := by decide +kernel
theorem dX8_begin_46 : decode cX8_begin 46 = .ok (.iconst 0, 1) := by decide +kernel
theorem dX8_begin_47 : decode cX8_begin 47 = .ok (.putfield 379, 3) := by decide +kernel
theorem dX8_begin_50 : decode cX8_begin 50 = .ok (.return_, 1) := by decide +kernel
theorem dX8_keepText_0 : decode cX8_keepText 0 = .ok (.aload_n 0, 1) := by decide +kernel
theorem dX8_keepText_1 : decode cX8_keepText 1 = .ok (.aload_n 0, 1) := by decide +kernel
theorem dX8_keepText_2 : decode cX8_keepText 2 = .ok (.getfield 225, 3) := by decide +kernel
theorem dX8_keepText_5 : decode cX8_keepText 5 = .ok (.putfield 243, 3) := by decide +kernel
theorem dX8_keepText_8 : decode cX8_keepText 8 = .ok (.aload_n 0, 1) := by decide +kernel
theorem dX8_keepText_9 : decode cX8_keepText 9 = .ok (.aload_n 0, 1) := by decide +kernel
theorem dX8_keepText_10 : decode cX8_keepText 10 = .ok (.getfield 228, 3) := by decide +kernel
theorem dX8_keepText_13 : decode cX8_keepText 13 = .ok (.putfield 246, 3) := by decide +kernel
theorem dX8_keepText_16 : decode cX8_keepText 16 = .ok (.aload_n 0, 1) := by decide +kernel
theorem dX8_keepText_17 : decode cX8_keepText 17 = .ok (.aload_n 0, 1) := by decide +kernel
theorem dX8_keepText_18 : decode cX8_keepText 18 = .ok (.getfield 231, 3) := by decide +kernel
theorem dX8_keepText_21 : decode cX8_keepText 21 = .ok (.putfield 249, 3) := by decide +kernel
theorem dX8_keepText_24 : decode cX8_keepText 24 = .ok (.aload_n 0, 1) := by decide +kernel
theorem dX8_keepText_25 : decode cX8_keepText 25 = .ok (.aload_n 0, 1) := by decide +kernel
theorem dX8_keepText_26 : decode cX8_keepText 26 = .ok (.getfield 234, 3) := by decide +kernel
theorem dX8_keepText_29 : decode cX8_keepText 29 = .ok (.putfield 252, 3) := by decide +kernel
theorem dX8_keepText_32 : decode cX8_keepText 32 = .ok (.aload_n 0, 1) := by decide +kernel
theorem dX8_keepText_33 : decode cX8_keepText 33 = .ok (.aload_n 0, 1) := by decide +kernel
theorem dX8_keepText_34 : decode cX8_keepText 34 = .ok (.getfield 237, 3) := by decide +kernel
theorem dX8_keepText_37 : decode cX8_keepText 37 = .ok (.putfield 255, 3) := by decide +kernel
theorem dX8_keepText_40 : decode cX8_keepText 40 = .ok (.aload_n 0, 1) := by decide +kernel
theorem dX8_keepText_41 : decode cX8_keepText 41 = .ok (.getfield 24, 3) := by decide +kernel
theorem dX8_keepText_44 : decode cX8_keepText 44 = .ok (.iconst 5, 1) := by decide +kernel
theorem dX8_keepText_45 : decode cX8_keepText 45 = .ok (.invokestatic 258, 3) := by decide +kernel
theorem dX8_keepText_48 : decode cX8_keepText 48 = .ok (.aload_n 0, 1) := by decide +kernel
theorem dX8_keepText_49 : decode cX8_keepText 49 = .ok (.getfield 27, 3) := by decide +kernel
theorem dX8_keepText_52 : decode cX8_keepText 52 = .ok (.bipush 8, 2) := by decide +kernel
theorem dX8_keepText_54 : decode cX8_keepText 54 = .ok (.invokestatic 258, 3) := by decide +kernel
theorem dX8_keepText_57 : decode cX8_keepText 57 = .ok (.aload_n 0, 1) := by decide +kernel
theorem dX8_keepText_58 : decode cX8_keepText 58 = .ok (.getfield 30, 3) := by decide +kernel
theorem dX8_keepText_61 : decode cX8_keepText 61 = .ok (.iconst 4, 1) := by decide +kernel
theorem dX8_keepText_62 : decode cX8_keepText 62 = .ok (.invokestatic 258, 3) := by decide +kernel
theorem dX8_keepText_65 : decode cX8_keepText 65 = .ok (.aload_n 0, 1) := by decide +kernel
theorem dX8_keepText_66 : decode cX8_keepText 66 = .ok (.getfield 33, 3) := by decide +kernel
theorem dX8_keepText_69 : decode cX8_keepText 69 = .ok (.iconst 4, 1) := by decide +kernel
theorem dX8_keepText_70 : decode cX8_keepText 70 = .ok (.invokestatic 258, 3) := by decide +kernel
theorem dX8_keepText_73 : decode cX8_keepText 73 = .ok (.aload_n 0, 1) := by decide +kernel
theorem dX8_keepText_74 : decode cX8_keepText 74 = .ok (.getfield 36, 3) := by decide +kernel
theorem dX8_keepText_77 : decode cX8_keepText 77 = .ok (.iconst 4, 1) := by decide +kernel
theorem dX8_keepText_78 : decode cX8_keepText 78 = .ok (.invokestatic 258, 3) := by decide +kernel
theorem dX8_keepText_81 : decode cX8_keepText 81 = .ok (.aload_n 0, 1) := by decide +kernel
theorem dX8_keepText_82 : decode cX8_keepText 82 = .ok (.getfield 39, 3) := by decide +kernel
theorem dX8_keepText_85 : decode cX8_keepText 85 = .ok (.iconst 4, 1) := by decide +kernel
theorem dX8_keepText_86 : decode cX8_keepText 86 = .ok (.invokestatic 258, 3) := by decide +kernel
theorem dX8_keepText_89 : decode cX8_keepText 89 = .ok (.aload_n 0, 1) := by decide +kernel
theorem dX8_keepText_90 : decode cX8_keepText 90 = .ok (.getfield 42, 3) := by decide +kernel
theorem dX8_keepText_93 : decode cX8_keepText 93 = .ok (.bipush 6, 2) := by decide +kernel
theorem dX8_keepText_95 : decode cX8_keepText 95 = .ok (.invokestatic 258, 3) := by decide +kernel
theorem dX8_keepText_98 : decode cX8_keepText 98 = .ok (.aload_n 0, 1) := by decide +kernel
theorem dX8_keepText_99 : decode cX8_keepText 99 = .ok (.getfield 45, 3) := by decide +kernel
theorem dX8_keepText_102 : decode cX8_keepText 102 = .ok (.bipush 6, 2) := by decide +kernel
theorem dX8_keepText_104 : decode cX8_keepText 104 = .ok (.invokestatic 258, 3) := by decide +kernel
theorem dX8_keepText_107 : decode cX8_keepText 107 = .ok (.aload_n 0, 1) := by decide +kernel
theorem dX8_keepText_108 : decode cX8_keepText 108 = .ok (.getfield 48, 3) := by decide +kernel
theorem dX8_keepText_111 : decode cX8_keepText 111 = .ok (.bipush 6, 2) := by decide +kernel
theorem dX8_keepText_113 : decode cX8_keepText 113 = .ok (.invokestatic 258, 3) := by decide +kernel
theorem dX8_keepText_116 : decode cX8_keepText 116 = .ok (.aload_n 0, 1) := by decide +kernel
theorem dX8_keepText_117 : decode cX8_keepText 117 = .ok (.getfield 51, 3) := by decide +kernel
theorem dX8_keepText_120 : decode cX8_keepText 120 = .ok (.iconst 4, 1) := by decide +kernel
theorem dX8_keepText_121 : decode cX8_keepText 121 = .ok (.invokestatic 258, 3) := by decide +kernel
theorem dX8_keepText_124 : decode cX8_keepText 124 = .ok (.iconst 0, 1) := by decide +kernel
theorem dX8_keepText_125 : decode cX8_keepText 125 = .ok (.istore_n 1, 1) := by decide +kernel
theorem dX8_keepText_126 : decode cX8_keepText 126 = .ok (.iload_n 1, 1) := by decide +kernel
theorem dX8_keepText_127 : decode cX8_keepText 127 = .ok (.iconst 4, 1) := by decide +kernel
theorem dX8_keepText_128 : decode cX8_keepText 128 = .ok (.if_icmp .ge 23, 3) := by decide +kernel
theorem dX8_keepText_131 : decode cX8_keepText 131 = .ok (.aload_n 0, 1) := by decide +kernel
theorem dX8_keepText_132 : decode cX8_keepText 132 = .ok (.getfield 54, 3) := by decide +kernel
theorem dX8_keepText_135 : decode cX8_keepText 135 = .ok (.iload_n 1, 1) := by decide +kernel
theorem dX8_keepText_136 : decode cX8_keepText 136 = .ok (.aload_n 0, 1) := by decide +kernel
theorem dX8_keepText_137 : decode cX8_keepText 137 = .ok (.getfield 54, 3) := by decide +kernel
theorem dX8_keepText_140 : decode cX8_keepText 140 = .ok (.iconst 4, 1) := by decide +kernel
theorem dX8_keepText_141 : decode cX8_keepText 141 = .ok (.iload_n 1, 1) := by decide +kernel
theorem dX8_keepText_142 : decode cX8_keepText 142 = .ok (.iadd, 1) := by decide +kernel
theorem dX8_keepText_143 : decode cX8_keepText 143 = .ok (.baload, 1) := by decide +kernel
theorem dX8_keepText_144 : decode cX8_keepText 144 = .ok (.bastore, 1) := by decide +kernel
theorem dX8_keepText_145 : decode cX8_keepText 145 = .ok (.iinc 1 1, 3) := by decide +kernel
theorem dX8_keepText_148 : decode cX8_keepText 148 = .ok (.goto (-22), 3) := by decide +kernel
theorem dX8_keepText_151 : decode cX8_keepText 151 = .ok (.aload_n 0, 1) := by decide +kernel
theorem dX8_keepText_152 : decode cX8_keepText 152 = .ok (.getfield 57, 3) := by decide +kernel
theorem dX8_keepText_155 : decode cX8_keepText 155 = .ok (.iconst 4, 1) := by decide +kernel
theorem dX8_keepText_156 : decode cX8_keepText 156 = .ok (.invokestatic 258, 3) := by decide +kernel
theorem dX8_keepText_159 : decode cX8_keepText 159 = .ok (.aload_n 0, 1) := by decide +kernel
theorem dX8_keepText_160 : decode cX8_keepText 160 = .ok (.getfield 60, 3) := by decide +kernel
theorem dX8_keepText_163 : decode cX8_keepText 163 = .ok (.iconst 4, 1) := by decide +kernel
theorem dX8_keepText_164 : decode cX8_keepText 164 = .ok (.invokestatic 258, 3) := by decide +kernel
theorem dX8_keepText_167 : decode cX8_keepText 167 = .ok (.aload_n 0, 1) := by decide +kernel
theorem dX8_keepText_168 : decode cX8_keepText 168 = .ok (.getfield 63, 3) := by decide +kernel
theorem dX8_keepText_171 : decode cX8_keepText 171 = .ok (.bipush 64, 2) := by decide +kernel
theorem dX8_keepText_173 : decode cX8_keepText 173 = .ok (.invokestatic 258, 3) := by decide +kernel
theorem dX8_keepText_176 : decode cX8_keepText 176 = .ok (.aload_n 0, 1) := by decide +kernel
theorem dX8_keepText_177 : decode cX8_keepText 177 = .ok (.getfield 66, 3) := by decide +kernel
theorem dX8_keepText_180 : decode cX8_keepText 180 = .ok (.bipush 64, 2) := by decide +kernel
theorem dX8_keepText_182 : decode cX8_keepText 182 = .ok (.invokestatic 258, 3) := by decide +kernel
theorem dX8_keepText_185 : decode cX8_keepText 185 = .ok (.aload_n 0, 1) := by decide +kernel
theorem dX8_keepText_186 : decode cX8_keepText 186 = .ok (.getfield 69, 3) := by decide +kernel
theorem dX8_keepText_189 : decode cX8_keepText 189 = .ok (.bipush 64, 2) := by decide +kernel
theorem dX8_keepText_191 : decode cX8_keepText 191 = .ok (.invokestatic 258, 3) := by decide +kernel
theorem dX8_keepText_194 : decode cX8_keepText 194 = .ok (.aload_n 0, 1) := by decide +kernel
theorem dX8_keepText_195 : decode cX8_keepText 195 = .ok (.invokevirtual 262, 3) := by decide +kernel
theorem dX8_keepText_198 : decode cX8_keepText 198 = .ok (.return_, 1) := by decide +kernel
theorem dX8_find_0 : decode cX8_find 0 = .ok (.iconst 0, 1) := by decide +kernel
theorem dX8_find_1 : decode cX8_find 1 = .ok (.istore 4, 2) := by decide +kernel
theorem dX8_find_3 : decode cX8_find 3 = .ok (.iload 4, 2) := by decide +kernel
theorem dX8_find_5 : decode cX8_find 5 = .ok (.iload_n 2, 1) := by decide +kernel
theorem dX8_find_6 : decode cX8_find 6 = .ok (.if_icmp .ge 22, 3) := by decide +kernel
theorem dX8_find_9 : decode cX8_find 9 = .ok (.aload_n 0, 1) := by decide +kernel
theorem dX8_find_10 : decode cX8_find 10 = .ok (.iload_n 1, 1) := by decide +kernel
theorem dX8_find_11 : decode cX8_find 11 = .ok (.iload 4, 2) := by decide +kernel
theorem dX8_find_13 : decode cX8_find 13 = .ok (.iadd, 1) := by decide +kernel
theorem dX8_find_14 : decode cX8_find 14 = .ok (.iaload, 1) := by decide +kernel
theorem dX8_find_15 : decode cX8_find 15 = .ok (.iload_n 3, 1) := by decide +kernel
theorem dX8_find_16 : decode cX8_find 16 = .ok (.if_icmp .ne 6, 3) := by decide +kernel
theorem dX8_find_19 : decode cX8_find 19 = .ok (.iload 4, 2) := by decide +kernel
theorem dX8_find_21 : decode cX8_find 21 = .ok (.ireturn, 1) := by decide +kernel
theorem dX8_find_22 : decode cX8_find 22 = .ok (.iinc 4 1, 3) := by decide +kernel
theorem dX8_find_25 : decode cX8_find 25 = .ok (.goto (-22), 3) := by decide +kernel
theorem dX8_find_28 : decode cX8_find 28 = .ok (.iconst (-1), 1) := by decide +kernel
theorem dX8_find_29 : decode cX8_find 29 = .ok (.ireturn, 1) := by decide +kernel
theorem dX8_isOnce_0 : decode cX8_isOnce 0 = .ok (.aload_n 0, 1) := by decide +kernel
theorem dX8_isOnce_1 : decode cX8_isOnce 1 = .ok (.getfield 20, 3) := by decide +kernel
theorem dX8_isOnce_4 : decode cX8_isOnce 4 = .ok (.iload_n 1, 1) := by decide +kernel
theorem dX8_isOnce_5 : decode cX8_isOnce 5 = .ok (.baload, 1) := by decide +kernel
theorem dX8_isOnce_6 : decode cX8_isOnce 6 = .ok (.ifCond .eq 9, 3) := by decide +kernel
theorem dX8_isOnce_9 : decode cX8_isOnce 9 = .ok (.aload_n 0, 1) := by decide +kernel
theorem dX8_isOnce_10 : decode cX8_isOnce 10 = .ok (.iconst 3, 1) := by decide +kernel
theorem dX8_isOnce_11 : decode cX8_isOnce 11 = .ok (.invokevirtual 205, 3) := by decide +kernel
theorem dX8_isOnce_14 : decode cX8_isOnce 14 = .ok (.ireturn, 1) := by decide +kernel
theorem dX8_isOnce_15 : decode cX8_isOnce 15 = .ok (.aload_n 0, 1) := by decide +kernel
theorem dX8_isOnce_16 : decode cX8_isOnce 16 = .ok (.getfield 20, 3) := by decide +kernel
theorem dX8_isOnce_19 : decode cX8_isOnce 19 = .ok (.iload_n 1, 1) := by decide +kernel
theorem dX8_isOnce_20 : decode cX8_isOnce 20 = .ok (.iconst 1, 1) := by decide +kernel
theorem dX8_isOnce_21 : decode cX8_isOnce 21 = .ok (.bastore, 1) := by decide +kernel
theorem dX8_isOnce_22 : decode cX8_isOnce 22 = .ok (.aload_n 0, 1) := by decide +kernel
theorem dX8_isOnce_23 : decode cX8_isOnce 23 = .ok (.invokevirtual 215, 3) := by decide +kernel
theorem dX8_isOnce_26 : decode cX8_isOnce 26 = .ok (.iconst 1, 1) := by decide +kernel
theorem dX8_isOnce_27 : decode cX8_isOnce 27 = .ok (.ireturn, 1) := by decide +kernel
theorem dX8_croftLine_0 : decode cX8_croftLine 0 = .ok (.aload_n 0, 1) := by decide +kernel
theorem dX8_croftLine_1 : decode cX8_croftLine 1 = .ok (.getfield 228, 3) := by decide +kernel
theorem dX8_croftLine_4 : decode cX8_croftLine 4 = .ok (.iconst 4, 1) := by decide +kernel
theorem dX8_croftLine_5 : decode cX8_croftLine 5 = .ok (.if_icmp .ne 9, 3) := by decide +kernel
theorem dX8_croftLine_8 : decode cX8_croftLine 8 = .ok (.aload_n 0, 1) := by decide +kernel
theorem dX8_croftLine_9 : decode cX8_croftLine 9 = .ok (.iconst 2, 1) := by decide +kernel
theorem dX8_croftLine_10 : decode cX8_croftLine 10 = .ok (.invokevirtual 205, 3) := by decide +kernel
theorem dX8_croftLine_13 : decode cX8_croftLine 13 = .ok (.ireturn, 1) := by decide +kernel
theorem dX8_croftLine_14 : decode cX8_croftLine 14 = .ok (.aload_n 0, 1) := by decide +kernel
theorem dX8_croftLine_15 : decode cX8_croftLine 15 = .ok (.invokevirtual 215, 3) := by decide +kernel
theorem dX8_croftLine_18 : decode cX8_croftLine 18 = .ok (.aload_n 0, 1) := by decide +kernel
theorem dX8_croftLine_19 : decode cX8_croftLine 19 = .ok (.getfield 181, 3) := by decide +kernel
theorem dX8_croftLine_22 : decode cX8_croftLine 22 = .ok (.iconst 2, 1) := by decide +kernel
theorem dX8_croftLine_23 : decode cX8_croftLine 23 = .ok (.if_icmp .eq 9, 3) := by decide +kernel
theorem dX8_croftLine_26 : decode cX8_croftLine 26 = .ok (.aload_n 0, 1) := by decide +kernel
theorem dX8_croftLine_27 : decode cX8_croftLine 27 = .ok (.iconst 1, 1) := by decide +kernel
theorem dX8_croftLine_28 : decode cX8_croftLine 28 = .ok (.invokevirtual 205, 3) := by decide +kernel
theorem dX8_croftLine_31 : decode cX8_croftLine 31 = .ok (.ireturn, 1) := by decide +kernel
theorem dX8_croftLine_32 : decode cX8_croftLine 32 = .ok (.aload_n 0, 1) := by decide +kernel
theorem dX8_croftLine_33 : decode cX8_croftLine 33 = .ok (.getfield 30, 3) := by decide +kernel
theorem dX8_croftLine_36 : decode cX8_croftLine 36 = .ok (.iconst 4, 1) := by decide +kernel
theorem dX8_croftLine_37 : decode cX8_croftLine 37 = .ok (.aload_n 0, 1) := by decide +kernel
theorem dX8_croftLine_38 : decode cX8_croftLine 38 = .ok (.getfield 228, 3) := by decide +kernel
theorem dX8_croftLine_41 : decode cX8_croftLine 41 = .ok (.aload_n 0, 1) := by decide +kernel
theorem dX8_croftLine_42 : decode cX8_croftLine 42 = .ok (.getfield 192, 3) := by decide +kernel
theorem dX8_croftLine_45 : decode cX8_croftLine 45 = .ok (.invokestatic 265, 3) := by decide +kernel
theorem dX8_croftLine_48 : decode cX8_croftLine 48 = .ok (.ifCond .lt 9, 3) := by decide +kernel
theorem dX8_croftLine_51 : decode cX8_croftLine 51 = .ok (.aload_n 0, 1) := by decide +kernel
theorem dX8_croftLine_52 : decode cX8_croftLine 52 = .ok (.iconst 3, 1) := by decide +kernel
theorem dX8_croftLine_53 : decode cX8_croftLine 53 = .ok (.invokevirtual 205, 3) := by decide +kernel
theorem dX8_croftLine_56 : decode cX8_croftLine 56 = .ok (.ireturn, 1) := by decide +kernel
theorem dX8_croftLine_57 : decode cX8_croftLine 57 = .ok (.iconst 4, 1) := by decide +kernel
theorem dX8_croftLine_58 : decode cX8_croftLine 58 = .ok (.aload_n 0, 1) := by decide +kernel
theorem dX8_croftLine_59 : decode cX8_croftLine 59 = .ok (.getfield 228, 3) := by decide +kernel
theorem dX8_croftLine_62 : decode cX8_croftLine 62 = .ok (.iadd, 1) := by decide +kernel
theorem dX8_croftLine_63 : decode cX8_croftLine 63 = .ok (.istore_n 1, 1) := by decide +kernel
theorem dX8_croftLine_64 : decode cX8_croftLine 64 = .ok (.aload_n 0, 1) := by decide +kernel
theorem dX8_croftLine_65 : decode cX8_croftLine 65 = .ok (.getfield 30, 3) := by decide +kernel
theorem dX8_croftLine_68 : decode cX8_croftLine 68 = .ok (.iload_n 1, 1) := by decide +kernel
theorem dX8_croftLine_69 : decode cX8_croftLine 69 = .ok (.aload_n 0, 1) := by decide +kernel
theorem dX8_croftLine_70 : decode cX8_croftLine 70 = .ok (.getfield 192, 3) := by decide +kernel
theorem dX8_croftLine_73 : decode cX8_croftLine 73 = .ok (.iastore, 1) := by decide +kernel
theorem dX8_croftLine_74 : decode cX8_croftLine 74 = .ok (.aload_n 0, 1) := by decide +kernel
theorem dX8_croftLine_75 : decode cX8_croftLine 75 = .ok (.invokevirtual 215, 3) := by decide +kernel
theorem dX8_croftLine_78 : decode cX8_croftLine 78 = .ok (.aload_n 0, 1) := by decide +kernel
theorem dX8_croftLine_79 : decode cX8_croftLine 79 = .ok (.iconst 0, 1) := by decide +kernel
theorem dX8_croftLine_80 : decode cX8_croftLine 80 = .ok (.iconst 5, 1) := by decide +kernel
theorem dX8_croftLine_81 : decode cX8_croftLine 81 = .ok (.invokevirtual 221, 3) := by decide +kernel
theorem dX8_croftLine_84 : decode cX8_croftLine 84 = .ok (.ifCond .ne 5, 3) := by decide +kernel
theorem dX8_croftLine_87 : decode cX8_croftLine 87 = .ok (.iconst 0, 1) := by decide +kernel
theorem dX8_croftLine_88 : decode cX8_croftLine 88 = .ok (.ireturn, 1) := by decide +kernel
theorem dX8_croftLine_89 : decode cX8_croftLine 89 = .ok (.aload_n 0, 1) := by decide +kernel
theorem dX8_croftLine_90 : decode cX8_croftLine 90 = .ok (.getfield 33, 3) := by decide +kernel
theorem dX8_croftLine_93 : decode cX8_croftLine 93 = .ok (.iload_n 1, 1) := by decide +kernel
theorem dX8_croftLine_94 : decode cX8_croftLine 94 = .ok (.aload_n 0, 1) := by decide +kernel
theorem dX8_croftLine_95 : decode cX8_croftLine 95 = .ok (.getfield 212, 3) := by decide +kernel
theorem dX8_croftLine_98 : decode cX8_croftLine 98 = .ok (.iastore, 1) := by decide +kernel
theorem dX8_croftLine_99 : decode cX8_croftLine 99 = .ok (.aload_n 0, 1) := by decide +kernel
theorem dX8_croftLine_100 : decode cX8_croftLine 100 = .ok (.iconst 0, 1) := by decide +kernel
theorem dX8_croftLine_101 : decode cX8_croftLine 101 = .ok (.bipush 9, 2) := by decide +kernel
theorem dX8_croftLine_103 : decode cX8_croftLine 103 = .ok (.invokevirtual 221, 3) := by decide +kernel
theorem dX8_croftLine_106 : decode cX8_croftLine 106 = .ok (.ifCond .ne 5, 3) := by decide +kernel
theorem dX8_croftLine_109 : decode cX8_croftLine 109 = .ok (.iconst 0, 1) := by decide +kernel
theorem dX8_croftLine_110 : decode cX8_croftLine 110 = .ok (.ireturn, 1) := by decide +kernel
theorem dX8_croftLine_111 : decode cX8_croftLine 111 = .ok (.aload_n 0, 1) := by decide +kernel
theorem dX8_croftLine_112 : decode cX8_croftLine 112 = .ok (.getfield 36, 3) := by decide +kernel
theorem dX8_croftLine_115 : decode cX8_croftLine 115 = .ok (.iload_n 1, 1) := by decide +kernel
theorem dX8_croftLine_116 : decode cX8_croftLine 116 = .ok (.aload_n 0, 1) := by decide +kernel
theorem dX8_croftLine_117 : decode cX8_croftLine 117 = .ok (.getfield 212, 3) := by decide +kernel
theorem dX8_croftLine_120 : decode cX8_croftLine 120 = .ok (.iastore, 1) := by decide +kernel
theorem dX8_croftLine_121 : decode cX8_croftLine 121 = .ok (.aload_n 0, 1) := by decide +kernel
theorem dX8_croftLine_122 : decode cX8_croftLine 122 = .ok (.iconst 0, 1) := by decide +kernel
theorem dX8_croftLine_123 : decode cX8_croftLine 123 = .ok (.bipush 99, 2) := by decide +kernel
theorem dX8_croftLine_125 : decode cX8_croftLine 125 = .ok (.invokevirtual 221, 3) := by decide +kernel
theorem dX8_croftLine_128 : decode cX8_croftLine 128 = .ok (.ifCond .ne 5, 3) := by decide +kernel
theorem dX8_croftLine_131 : decode cX8_croftLine 131 = .ok (.iconst 0, 1) := by decide +kernel
theorem dX8_croftLine_132 : decode cX8_croftLine 132 = .ok (.ireturn, 1) := by decide +kernel
theorem dX8_croftLine_133 : decode cX8_croftLine 133 = .ok (.aload_n 0, 1) := by decide +kernel
theorem dX8_croftLine_134 : decode cX8_croftLine 134 = .ok (.getfield 39, 3) := by decide +kernel
theorem dX8_croftLine_137 : decode cX8_croftLine 137 = .ok (.iload_n 1, 1) := by decide +kernel
theorem dX8_croftLine_138 : decode cX8_croftLine 138 = .ok (.aload_n 0, 1) := by decide +kernel
theorem dX8_croftLine_139 : decode cX8_croftLine 139 = .ok (.getfield 212, 3) := by decide +kernel
theorem dX8_croftLine_142 : decode cX8_croftLine 142 = .ok (.iastore, 1) := by decide +kernel
theorem dX8_croftLine_143 : decode cX8_croftLine 143 = .ok (.aload_n 0, 1) := by decide +kernel
theorem dX8_croftLine_144 : decode cX8_croftLine 144 = .ok (.dup, 1) := by decide +kernel
theorem dX8_croftLine_145 : decode cX8_croftLine 145 = .ok (.getfield 228, 3) := by decide +kernel
theorem dX8_croftLine_148 : decode cX8_croftLine 148 = .ok (.iconst 1, 1) := by decide +kernel
theorem dX8_croftLine_149 : decode cX8_croftLine 149 = .ok (.iadd, 1) := by decide +kernel
theorem dX8_croftLine_150 : decode cX8_croftLine 150 = .ok (.putfield 228, 3) := by decide +kernel
theorem dX8_croftLine_153 : decode cX8_croftLine 153 = .ok (.iconst 1, 1) := by decide +kernel
theorem dX8_croftLine_154 : decode cX8_croftLine 154 = .ok (.ireturn, 1) := by decide +kernel
theorem dX8_fieldLine_0 : decode cX8_fieldLine 0 = .ok (.aload_n 0, 1) := by decide +kernel
theorem dX8_fieldLine_1 : decode cX8_fieldLine 1 = .ok (.getfield 231, 3) := by decide +kernel
theorem dX8_fieldLine_4 : decode cX8_fieldLine 4 = .ok (.bipush 6, 2) := by decide +kernel
theorem dX8_fieldLine_6 : decode cX8_fieldLine 6 = .ok (.if_icmp .ne 9, 3) := by decide +kernel
theorem dX8_fieldLine_9 : decode cX8_fieldLine 9 = .ok (.aload_n 0, 1) := by decide +kernel
theorem dX8_fieldLine_10 : decode cX8_fieldLine 10 = .ok (.iconst 2, 1) := by decide +kernel
theorem dX8_fieldLine_11 : decode cX8_fieldLine 11 = .ok (.invokevirtual 205, 3) := by decide +kernel
theorem dX8_fieldLine_14 : decode cX8_fieldLine 14 = .ok (.ireturn, 1) := by decide +kernel
theorem dX8_fieldLine_15 : decode cX8_fieldLine 15 = .ok (.aload_n 0, 1) := by decide +kernel
theorem dX8_fieldLine_16 : decode cX8_fieldLine 16 = .ok (.invokevirtual 215, 3) := by decide +kernel
theorem dX8_fieldLine_19 : decode cX8_fieldLine 19 = .ok (.aload_n 0, 1) := by decide +kernel
theorem dX8_fieldLine_20 : decode cX8_fieldLine 20 = .ok (.getfield 181, 3) := by decide +kernel
theorem dX8_fieldLine_23 : decode cX8_fieldLine 23 = .ok (.iconst 2, 1) := by decide +kernel
theorem dX8_fieldLine_24 : decode cX8_fieldLine 24 = .ok (.if_icmp .eq 9, 3) := by decide +kernel
theorem dX8_fieldLine_27 : decode cX8_fieldLine 27 = .ok (.aload_n 0, 1) := by decide +kernel
theorem dX8_fieldLine_28 : decode cX8_fieldLine 28 = .ok (.iconst 1, 1) := by decide +kernel
theorem dX8_fieldLine_29 : decode cX8_fieldLine 29 = .ok (.invokevirtual 205, 3) := by decide +kernel
theorem dX8_fieldLine_32 : decode cX8_fieldLine 32 = .ok (.ireturn, 1) := by decide +kernel
theorem dX8_fieldLine_33 : decode cX8_fieldLine 33 = .ok (.aload_n 0, 1) := by decide +kernel
theorem dX8_fieldLine_34 : decode cX8_fieldLine 34 = .ok (.getfield 30, 3) := by decide +kernel
theorem dX8_fieldLine_37 : decode cX8_fieldLine 37 = .ok (.iconst 4, 1) := by decide +kernel
theorem dX8_fieldLine_38 : decode cX8_fieldLine 38 = .ok (.aload_n 0, 1) := by decide +kernel
theorem dX8_fieldLine_39 : decode cX8_fieldLine 39 = .ok (.getfield 228, 3) := by decide +kernel
theorem dX8_fieldLine_42 : decode cX8_fieldLine 42 = .ok (.aload_n 0, 1) := by decide +kernel
theorem dX8_fieldLine_43 : decode cX8_fieldLine 43 = .ok (.getfield 192, 3) := by decide +kernel
theorem dX8_fieldLine_46 : decode cX8_fieldLine 46 = .ok (.invokestatic 265, 3) := by decide +kernel
theorem dX8_fieldLine_49 : decode cX8_fieldLine 49 = .ok (.istore_n 1, 1) := by decide +kernel
theorem dX8_fieldLine_50 : decode cX8_fieldLine 50 = .ok (.iload_n 1, 1) := by decide +kernel
theorem dX8_fieldLine_51 : decode cX8_fieldLine 51 = .ok (.ifCond .ge 9, 3) := by decide +kernel
theorem dX8_fieldLine_54 : decode cX8_fieldLine 54 = .ok (.aload_n 0, 1) := by decide +kernel
theorem dX8_fieldLine_55 : decode cX8_fieldLine 55 = .ok (.iconst 4, 1) := by decide +kernel
theorem dX8_fieldLine_56 : decode cX8_fieldLine 56 = .ok (.invokevirtual 205, 3) := by decide +kernel
theorem dX8_fieldLine_59 : decode cX8_fieldLine 59 = .ok (.ireturn, 1) := by decide +kernel
theorem dX8_fieldLine_60 : decode cX8_fieldLine 60 = .ok (.bipush 6, 2) := by decide +kernel
theorem dX8_fieldLine_62 : decode cX8_fieldLine 62 = .ok (.aload_n 0, 1) := by decide +kernel
theorem dX8_fieldLine_63 : decode cX8_fieldLine 63 = .ok (.getfield 231, 3) := by decide +kernel
theorem dX8_fieldLine_66 : decode cX8_fieldLine 66 = .ok (.iadd, 1) := by decide +kernel
theorem dX8_fieldLine_67 : decode cX8_fieldLine 67 = .ok (.istore_n 2, 1) := by decide +kernel
theorem dX8_fieldLine_68 : decode cX8_fieldLine 68 = .ok (.aload_n 0, 1) := by decide +kernel
theorem dX8_fieldLine_69 : decode cX8_fieldLine 69 = .ok (.getfield 42, 3) := by decide +kernel
theorem dX8_fieldLine_72 : decode cX8_fieldLine 72 = .ok (.iload_n 2, 1) := by decide +kernel
theorem dX8_fieldLine_73 : decode cX8_fieldLine 73 = .ok (.iload_n 1, 1) := by decide +kernel
theorem dX8_fieldLine_74 : decode cX8_fieldLine 74 = .ok (.iastore, 1) := by decide +kernel
theorem dX8_fieldLine_75 : decode cX8_fieldLine 75 = .ok (.aload_n 0, 1) := by decide +kernel
theorem dX8_fieldLine_76 : decode cX8_fieldLine 76 = .ok (.invokevirtual 215, 3) := by decide +kernel
theorem dX8_fieldLine_79 : decode cX8_fieldLine 79 = .ok (.aload_n 0, 1) := by decide +kernel
theorem dX8_fieldLine_80 : decode cX8_fieldLine 80 = .ok (.iconst 0, 1) := by decide +kernel
theorem dX8_fieldLine_81 : decode cX8_fieldLine 81 = .ok (.bipush 99, 2) := by decide +kernel
theorem dX8_fieldLine_83 : decode cX8_fieldLine 83 = .ok (.invokevirtual 221, 3) := by decide +kernel
theorem dX8_fieldLine_86 : decode cX8_fieldLine 86 = .ok (.ifCond .ne 5, 3) := by decide +kernel
theorem dX8_fieldLine_89 : decode cX8_fieldLine 89 = .ok (.iconst 0, 1) := by decide +kernel
theorem dX8_fieldLine_90 : decode cX8_fieldLine 90 = .ok (.ireturn, 1) := by decide +kernel
theorem dX8_fieldLine_91 : decode cX8_fieldLine 91 = .ok (.aload_n 0, 1) := by decide +kernel
theorem dX8_fieldLine_92 : decode cX8_fieldLine 92 = .ok (.getfield 45, 3) := by decide +kernel
theorem dX8_fieldLine_95 : decode cX8_fieldLine 95 = .ok (.iload_n 2, 1) := by decide +kernel
theorem dX8_fieldLine_96 : decode cX8_fieldLine 96 = .ok (.aload_n 0, 1) := by decide +kernel
theorem dX8_fieldLine_97 : decode cX8_fieldLine 97 = .ok (.getfield 212, 3) := by decide +kernel
theorem dX8_fieldLine_100 : decode cX8_fieldLine 100 = .ok (.iastore, 1) := by decide +kernel
theorem dX8_fieldLine_101 : decode cX8_fieldLine 101 = .ok (.aload_n 0, 1) := by decide +kernel
theorem dX8_fieldLine_102 : decode cX8_fieldLine 102 = .ok (.iconst 0, 1) := by decide +kernel
theorem dX8_fieldLine_103 : decode cX8_fieldLine 103 = .ok (.bipush 9, 2) := by decide +kernel
theorem dX8_fieldLine_105 : decode cX8_fieldLine 105 = .ok (.invokevirtual 221, 3) := by decide +kernel
theorem dX8_fieldLine_108 : decode cX8_fieldLine 108 = .ok (.ifCond .ne 5, 3) := by decide +kernel
theorem dX8_fieldLine_111 : decode cX8_fieldLine 111 = .ok (.iconst 0, 1) := by decide +kernel
theorem dX8_fieldLine_112 : decode cX8_fieldLine 112 = .ok (.ireturn, 1) := by decide +kernel
theorem dX8_fieldLine_113 : decode cX8_fieldLine 113 = .ok (.aload_n 0, 1) := by decide +kernel
theorem dX8_fieldLine_114 : decode cX8_fieldLine 114 = .ok (.getfield 48, 3) := by decide +kernel
theorem dX8_fieldLine_117 : decode cX8_fieldLine 117 = .ok (.iload_n 2, 1) := by decide +kernel
theorem dX8_fieldLine_118 : decode cX8_fieldLine 118 = .ok (.aload_n 0, 1) := by decide +kernel
theorem dX8_fieldLine_119 : decode cX8_fieldLine 119 = .ok (.getfield 212, 3) := by decide +kernel
theorem dX8_fieldLine_122 : decode cX8_fieldLine 122 = .ok (.iastore, 1) := by decide +kernel
theorem dX8_fieldLine_123 : decode cX8_fieldLine 123 = .ok (.aload_n 0, 1) := by decide +kernel
theorem dX8_fieldLine_124 : decode cX8_fieldLine 124 = .ok (.dup, 1) := by decide +kernel
theorem dX8_fieldLine_125 : decode cX8_fieldLine 125 = .ok (.getfield 231, 3) := by decide +kernel
theorem dX8_fieldLine_128 : decode cX8_fieldLine 128 = .ok (.iconst 1, 1) := by decide +kernel
theorem dX8_fieldLine_129 : decode cX8_fieldLine 129 = .ok (.iadd, 1) := by decide +kernel
theorem dX8_fieldLine_130 : decode cX8_fieldLine 130 = .ok (.putfield 231, 3) := by decide +kernel
theorem dX8_fieldLine_133 : decode cX8_fieldLine 133 = .ok (.iconst 1, 1) := by decide +kernel
theorem dX8_fieldLine_134 : decode cX8_fieldLine 134 = .ok (.ireturn, 1) := by decide +kernel
def f_X8_plainTried (h : Hp) : Option Hp :=
  lt_ (sZ h 8 0 63 false) fun h1 =>
  lt_ (sZ h1 8 0 64 false) fun h2 =>
  lt_ (sZ h2 8 0 65 false) fun h3 =>
  lt_ (sI h3 8 0 66 (-1)) fun h4 =>
  some h4
abbrev rmX8_plainTried : Room := { frames := 0, cells := 0, slots := 0, locals := 0 }
set_option maxRecDepth 100000 in
set_option maxHeartbeats 4000000 in
theorem w_X8_plainTried (X : Cx) (F : Fx X cX8_plainTried RX8 none rmX8_plainTried) (hA : xA X = Aw (xG X)) (hL : xL X = 1) (h : Hp) : Wm X (fun _ => none) (fun v => v) (fun _ => True) 0 [(0, .ref (adr (xG X) 8 0 0))] [] h (f_X8_plainTried h) := by
  have hS : ∀ i : Nat, i < 1 → i < xL X := fun i z => by rw [hL]; exact z
  unfold f_X8_plainTried
  refine r_aload_n F 0 rfl dX8_plainTried_0 rfl ?_
  refine r_iconst F (v := 0) dX8_plainTried_1 (by decide) ?_
  refine r_putZ F false rfl frX8_382 (by decide) rfl rfl dX8_plainTried_2 fun h1 => ?_
  refine r_aload_n F 0 rfl dX8_plainTried_5 rfl ?_
  refine r_iconst F (v := 0) dX8_plainTried_6 (by decide) ?_
  refine r_putZ F false rfl frX8_385 (by decide) rfl rfl dX8_plainTried_7 fun h2 => ?_
  refine r_aload_n F 0 rfl dX8_plainTried_10 rfl ?_
  refine r_iconst F (v := 0) dX8_plainTried_11 (by decide) ?_
  refine r_putZ F false rfl frX8_388 (by decide) rfl rfl dX8_plainTried_12 fun h3 => ?_
  refine r_aload_n F 0 rfl dX8_plainTried_15 rfl ?_
  refine r_iconst F (v := (-1)) dX8_plainTried_16 (by decide) ?_
  refine r_putI F frX8_118 (by decide) rfl rfl dX8_plainTried_17 fun h4 => ?_
  exact r_vret F hA rfl rfl trivial dX8_plainTried_20
theorem c_X8_plainTried (G : Gx) (l : Launch) (h : Hp) : Ctr G l yX8_plainTried (.code yX8_plainTried cX8_plainTried 1 none :: GT) rmX8_plainTried [.ref (adr G 8 0 0)] h (f_X8_plainTried h) (fun _ => none) (fun v => v) (fun _ => True) :=
  ctr_of (by decide) (Nat.le_of_ble_eq_true rfl) ⟨rfl, rfl⟩ fun X _ e2 hA hL F => by subst e2; exact w_X8_plainTried X F hA hL h
def f_X8_begin (N : Nat) (h : Hp) : Option Hp :=
  (f_X8_atFirst N h 0).bind fun h1 =>
  grd (inb 1 10) <|
  lt_ (sI h1 8 0 61 (gA h1 8 0 3 (1 : Int32).toNatClampNeg)) fun h2 =>
  grd (inb 4 10) <|
  lt_ (sL h2 8 0 62 ((gA h2 8 0 3 (4 : Int32).toNatClampNeg)).toInt64) fun h3 =>
  (f_X8_plainTried h3).bind fun h4 =>
  lt_ (sI h4 8 0 72 0) fun h5 =>
  lt_ (sI h5 8 0 73 (-1)) fun h6 =>
  lt_ (sI h6 8 0 76 0) fun h7 =>
  lt_ (sZ h7 8 0 78 false) fun h8 =>
  some h8
abbrev rmX8_begin : Room := { frames := 1, cells := 0, slots := 0, locals := 22 }
set_option maxRecDepth 100000 in
set_option maxHeartbeats 4000000 in
theorem w_X8_begin (X : Cx) (F : Fx X cX8_begin RX8 none rmX8_begin) (hA : xA X = Aw (xG X)) (hL : xL X = 1) (N : Nat) (h : Hp) : Wm X (fun _ => none) (fun v => v) (fun _ => True) 0 [(0, .ref (adr (xG X) 8 0 0))] [] h (f_X8_begin N h) := by
  have hS : ∀ i : Nat, i < 1 → i < xL X := fun i z => by rw [hL]; exact z
  unfold f_X8_begin
  refine r_aload_n F 0 rfl dX8_begin_0 rfl ?_
  refine r_iconst F (v := 0) dX8_begin_1 (by decide) ?_
  refine k_vH (run_V F cvX8_360 (by decide) (c_X8_atFirst (xG X) _ N h 0) rfl rfl ⟨⟨rfl, rfl⟩, Nat.le_of_ble_eq_true rfl, Nat.le_of_ble_eq_true rfl⟩ (Nat.le_of_ble_eq_true rfl) dX8_begin_2) fun h1 => ?_
  refine r_aload_n F 0 rfl dX8_begin_5 rfl ?_
  refine r_aload_n F 0 rfl dX8_begin_6 rfl ?_
  refine r_getA F frX8_24 (by decide) dX8_begin_7 ?_
  refine r_iconst F (v := 1) dX8_begin_10 (by decide) ?_
  refine r_iaload F (ar_8_3 0 (by decide)) dX8_begin_11 ?_
  refine r_putI F frX8_363 (by decide) rfl rfl dX8_begin_12 fun h2 => ?_
  refine r_aload_n F 0 rfl dX8_begin_15 rfl ?_
  refine r_aload_n F 0 rfl dX8_begin_16 rfl ?_
  refine r_getA F frX8_24 (by decide) dX8_begin_17 ?_
  refine r_iconst F (v := 4) dX8_begin_20 (by decide) ?_
  refine r_iaload F (ar_8_3 0 (by decide)) dX8_begin_21 ?_
  refine r_i2l F dX8_begin_22 ?_
  refine r_putL F frX8_366 (by decide) rfl rfl dX8_begin_23 fun h3 => ?_
  refine r_aload_n F 0 rfl dX8_begin_26 rfl ?_
  refine k_vH (run_V F cvX8_370 (by decide) (c_X8_plainTried (xG X) _ h3) rfl rfl ⟨⟨rfl, rfl⟩, Nat.le_of_ble_eq_true rfl, Nat.le_of_ble_eq_true rfl⟩ (Nat.le_of_ble_eq_true rfl) dX8_begin_27) fun h4 => ?_
  refine r_aload_n F 0 rfl dX8_begin_30 rfl ?_
  refine r_iconst F (v := 0) dX8_begin_31 (by decide) ?_
  refine r_putI F frX8_373 (by decide) rfl rfl dX8_begin_32 fun h5 => ?_
  refine r_aload_n F 0 rfl dX8_begin_35 rfl ?_
  refine r_iconst F (v := (-1)) dX8_begin_36 (by decide) ?_
  refine r_putI F frX8_130 (by decide) rfl rfl dX8_begin_37 fun h6 => ?_
  refine r_aload_n F 0 rfl dX8_begin_40 rfl ?_
  refine r_iconst F (v := 0) dX8_begin_41 (by decide) ?_
  refine r_putI F frX8_376 (by decide) rfl rfl dX8_begin_42 fun h7 => ?_
  refine r_aload_n F 0 rfl dX8_begin_45 rfl ?_
  refine r_iconst F (v := 0) dX8_begin_46 (by decide) ?_
  refine r_putZ F false rfl frX8_379 (by decide) rfl rfl dX8_begin_47 fun h8 => ?_
  exact r_vret F hA rfl rfl trivial dX8_begin_50
theorem c_X8_begin (G : Gx) (l : Launch) (N : Nat) (h : Hp) : Ctr G l yX8_begin (.code yX8_begin cX8_begin 1 none :: GT) rmX8_begin [.ref (adr G 8 0 0)] h (f_X8_begin N h) (fun _ => none) (fun v => v) (fun _ => True) :=
  ctr_of (by decide) (Nat.le_of_ble_eq_true rfl) ⟨rfl, rfl⟩ fun X _ e2 hA hL F => by subst e2; exact w_X8_begin X F hA hL N h
def f_X8_keepText_126 (N : Nat) (r126 : Int32 → Hp → Option Hp) (v16 : Int32) (h17 : Hp) : Option Hp :=
  if 4 ≤ v16 then
    (f_X8_copies N h17 8 0 14 4).bind fun h18 =>
    (f_X8_copies N h18 8 0 15 4).bind fun h19 =>
    (f_X8_copies N h19 8 0 16 64).bind fun h20 =>
    (f_X8_copies N h20 8 0 17 64).bind fun h21 =>
    (f_X8_copies N h21 8 0 18 64).bind fun h22 =>
    (f_X8_begin N h22).bind fun h23 =>
    some h23
  else
  grd (inb (4 + v16) 8) <|
  grd (inb v16 8) <| lt_ (sY h17 8 0 13 v16.toNatClampNeg ((gY h17 8 0 13 (4 + v16).toNatClampNeg))) fun h24 =>
  lt_ (v16 + 1) fun v25 =>
  r126 v25 h24
def f_X8_keepText (N : Nat) (h : Hp) : Option Hp :=
  lt_ (sI h 8 0 12 (gI h 8 0 17)) fun h1 =>
  lt_ (sI h1 8 0 13 (gI h1 8 0 18)) fun h2 =>
  lt_ (sI h2 8 0 14 (gI h2 8 0 19)) fun h3 =>
  lt_ (sI h3 8 0 15 (gI h3 8 0 20)) fun h4 =>
  lt_ (sI h4 8 0 16 (gI h4 8 0 21)) fun h5 =>
  (f_X8_copies N h5 8 0 3 5).bind fun h6 =>
  (f_X8_copies N h6 8 0 4 8).bind fun h7 =>
  (f_X8_copies N h7 8 0 5 4).bind fun h8 =>
  (f_X8_copies N h8 8 0 6 4).bind fun h9 =>
  (f_X8_copies N h9 8 0 7 4).bind fun h10 =>
  (f_X8_copies N h10 8 0 8 4).bind fun h11 =>
  (f_X8_copies N h11 8 0 9 6).bind fun h12 =>
  (f_X8_copies N h12 8 0 10 6).bind fun h13 =>
  (f_X8_copies N h13 8 0 11 6).bind fun h14 =>
  (f_X8_copies N h14 8 0 12 4).bind fun h15 =>
  iter (fun _ _ => none) (f_X8_keepText_126 N) N 0 h15
abbrev rmX8_keepText : Room := { frames := 2, cells := 0, slots := 0, locals := 42 }
set_option maxRecDepth 100000 in
set_option maxHeartbeats 4000000 in
theorem w_X8_keepText (X : Cx) (F : Fx X cX8_keepText RX8 none rmX8_keepText) (hA : xA X = Aw (xG X)) (hL : xL X = 2) (N : Nat) (h : Hp) : Wm X (fun _ => none) (fun v => v) (fun _ => True) 0 [(0, .ref (adr (xG X) 8 0 0))] [] h (f_X8_keepText N h) := by
  have hS : ∀ i : Nat, i < 2 → i < xL X := fun i z => by rw [hL]; exact z
  unfold f_X8_keepText
  refine r_aload_n F 0 rfl dX8_keepText_0 rfl ?_
  refine r_aload_n F 0 rfl dX8_keepText_1 rfl ?_
  refine r_getI F frX8_225 (by decide) dX8_keepText_2 ?_
  refine r_putI F frX8_243 (by decide) rfl rfl dX8_keepText_5 fun h1 => ?_
  refine r_aload_n F 0 rfl dX8_keepText_8 rfl ?_
  refine r_aload_n F 0 rfl dX8_keepText_9 rfl ?_
  refine r_getI F frX8_228 (by decide) dX8_keepText_10 ?_
  refine r_putI F frX8_246 (by decide) rfl rfl dX8_keepText_13 fun h2 => ?_
  refine r_aload_n F 0 rfl dX8_keepText_16 rfl ?_
  refine r_aload_n F 0 rfl dX8_keepText_17 rfl ?_
  refine r_getI F frX8_231 (by decide) dX8_keepText_18 ?_
  refine r_putI F frX8_249 (by decide) rfl rfl dX8_keepText_21 fun h3 => ?_
  refine r_aload_n F 0 rfl dX8_keepText_24 rfl ?_
  refine r_aload_n F 0 rfl dX8_keepText_25 rfl ?_
  refine r_getI F frX8_234 (by decide) dX8_keepText_26 ?_
  refine r_putI F frX8_252 (by decide) rfl rfl dX8_keepText_29 fun h4 => ?_
  refine r_aload_n F 0 rfl dX8_keepText_32 rfl ?_
  refine r_aload_n F 0 rfl dX8_keepText_33 rfl ?_
  refine r_getI F frX8_237 (by decide) dX8_keepText_34 ?_
  refine r_putI F frX8_255 (by decide) rfl rfl dX8_keepText_37 fun h5 => ?_
  refine r_aload_n F 0 rfl dX8_keepText_40 rfl ?_
  refine r_getA F frX8_24 (by decide) dX8_keepText_41 ?_
  refine r_iconst F (v := 5) dX8_keepText_44 (by decide) ?_
  refine k_vH (run_S F csX8_258 (c_X8_copies (xG X) _ N h5 8 0 3 (ar_8_3 0 (by decide)) 5) rfl rfl ⟨⟨rfl, rfl⟩, Nat.le_of_ble_eq_true rfl, Nat.le_of_ble_eq_true rfl⟩ (Nat.le_of_ble_eq_true rfl) dX8_keepText_45) fun h6 => ?_
  refine r_aload_n F 0 rfl dX8_keepText_48 rfl ?_
  refine r_getA F frX8_27 (by decide) dX8_keepText_49 ?_
  refine r_bipush F (v := 8) dX8_keepText_52 (by decide) ?_
  refine k_vH (run_S F csX8_258 (c_X8_copies (xG X) _ N h6 8 0 4 (ar_8_4 0 (by decide)) 8) rfl rfl ⟨⟨rfl, rfl⟩, Nat.le_of_ble_eq_true rfl, Nat.le_of_ble_eq_true rfl⟩ (Nat.le_of_ble_eq_true rfl) dX8_keepText_54) fun h7 => ?_
  refine r_aload_n F 0 rfl dX8_keepText_57 rfl ?_
  refine r_getA F frX8_30 (by decide) dX8_keepText_58 ?_
  refine r_iconst F (v := 4) dX8_keepText_61 (by decide) ?_
  refine k_vH (run_S F csX8_258 (c_X8_copies (xG X) _ N h7 8 0 5 (ar_8_5 0 (by decide)) 4) rfl rfl ⟨⟨rfl, rfl⟩, Nat.le_of_ble_eq_true rfl, Nat.le_of_ble_eq_true rfl⟩ (Nat.le_of_ble_eq_true rfl) dX8_keepText_62) fun h8 => ?_
  refine r_aload_n F 0 rfl dX8_keepText_65 rfl ?_
  refine r_getA F frX8_33 (by decide) dX8_keepText_66 ?_
  refine r_iconst F (v := 4) dX8_keepText_69 (by decide) ?_
  refine k_vH (run_S F csX8_258 (c_X8_copies (xG X) _ N h8 8 0 6 (ar_8_6 0 (by decide)) 4) rfl rfl ⟨⟨rfl, rfl⟩, Nat.le_of_ble_eq_true rfl, Nat.le_of_ble_eq_true rfl⟩ (Nat.le_of_ble_eq_true rfl) dX8_keepText_70) fun h9 => ?_
  refine r_aload_n F 0 rfl dX8_keepText_73 rfl ?_
  refine r_getA F frX8_36 (by decide) dX8_keepText_74 ?_
  refine r_iconst F (v := 4) dX8_keepText_77 (by decide) ?_
  refine k_vH (run_S F csX8_258 (c_X8_copies (xG X) _ N h9 8 0 7 (ar_8_7 0 (by decide)) 4) rfl rfl ⟨⟨rfl, rfl⟩, Nat.le_of_ble_eq_true rfl, Nat.le_of_ble_eq_true rfl⟩ (Nat.le_of_ble_eq_true rfl) dX8_keepText_78) fun h10 => ?_
  refine r_aload_n F 0 rfl dX8_keepText_81 rfl ?_
  refine r_getA F frX8_39 (by decide) dX8_keepText_82 ?_
  refine r_iconst F (v := 4) dX8_keepText_85 (by decide) ?_
  refine k_vH (run_S F csX8_258 (c_X8_copies (xG X) _ N h10 8 0 8 (ar_8_8 0 (by decide)) 4) rfl rfl ⟨⟨rfl, rfl⟩, Nat.le_of_ble_eq_true rfl, Nat.le_of_ble_eq_true rfl⟩ (Nat.le_of_ble_eq_true rfl) dX8_keepText_86) fun h11 => ?_
  refine r_aload_n F 0 rfl dX8_keepText_89 rfl ?_
  refine r_getA F frX8_42 (by decide) dX8_keepText_90 ?_
  refine r_bipush F (v := 6) dX8_keepText_93 (by decide) ?_
  refine k_vH (run_S F csX8_258 (c_X8_copies (xG X) _ N h11 8 0 9 (ar_8_9 0 (by decide)) 6) rfl rfl ⟨⟨rfl, rfl⟩, Nat.le_of_ble_eq_true rfl, Nat.le_of_ble_eq_true rfl⟩ (Nat.le_of_ble_eq_true rfl) dX8_keepText_95) fun h12 => ?_
  refine r_aload_n F 0 rfl dX8_keepText_98 rfl ?_
  refine r_getA F frX8_45 (by decide) dX8_keepText_99 ?_
  refine r_bipush F (v := 6) dX8_keepText_102 (by decide) ?_
  refine k_vH (run_S F csX8_258 (c_X8_copies (xG X) _ N h12 8 0 10 (ar_8_10 0 (by decide)) 6) rfl rfl ⟨⟨rfl, rfl⟩, Nat.le_of_ble_eq_true rfl, Nat.le_of_ble_eq_true rfl⟩ (Nat.le_of_ble_eq_true rfl) dX8_keepText_104) fun h13 => ?_
  refine r_aload_n F 0 rfl dX8_keepText_107 rfl ?_
  refine r_getA F frX8_48 (by decide) dX8_keepText_108 ?_
  refine r_bipush F (v := 6) dX8_keepText_111 (by decide) ?_
  refine k_vH (run_S F csX8_258 (c_X8_copies (xG X) _ N h13 8 0 11 (ar_8_11 0 (by decide)) 6) rfl rfl ⟨⟨rfl, rfl⟩, Nat.le_of_ble_eq_true rfl, Nat.le_of_ble_eq_true rfl⟩ (Nat.le_of_ble_eq_true rfl) dX8_keepText_113) fun h14 => ?_
  refine r_aload_n F 0 rfl dX8_keepText_116 rfl ?_
  refine r_getA F frX8_51 (by decide) dX8_keepText_117 ?_
  refine r_iconst F (v := 4) dX8_keepText_120 (by decide) ?_
  refine k_vH (run_S F csX8_258 (c_X8_copies (xG X) _ N h14 8 0 12 (ar_8_12 0 (by decide)) 4) rfl rfl ⟨⟨rfl, rfl⟩, Nat.le_of_ble_eq_true rfl, Nat.le_of_ble_eq_true rfl⟩ (Nat.le_of_ble_eq_true rfl) dX8_keepText_121) fun h15 => ?_
  refine r_iconst F (v := 0) dX8_keepText_124 (by decide) ?_
  refine r_istore_n F [(1, .int 0), (0, .ref (adr (xG X) 8 0 0))] rfl dX8_keepText_125 rfl (hS _ (by decide)) ?_
  have hl126 : ∀ n : Nat, ∀ v16 : Int32, ∀ h17 : Hp, Wm X (fun _ => none) (fun v => v) (fun _ => True) 126 [(0, .ref (adr (xG X) 8 0 0)), (1, .int v16)] [] h17 (iter (fun _ _ => none) (f_X8_keepText_126 N) n v16 h17) := by
    intro n
    induction n with
    | zero => intro v16 h17; exact Wt_none
    | succ n ih =>
      revert ih
      show (∀ v16 : Int32, ∀ h17 : Hp, Wm X (fun _ => none) (fun v => v) (fun _ => True) 126 [(0, .ref (adr (xG X) 8 0 0)), (1, .int v16)] [] h17 (iter (fun _ _ => none) (f_X8_keepText_126 N) n v16 h17)) → _
      intro ih126 v16 h17
      show Wm X (fun _ => none) (fun v => v) (fun _ => True) 126 [(0, .ref (adr (xG X) 8 0 0)), (1, .int v16)] [] h17 (f_X8_keepText_126 N (iter (fun _ _ => none) (f_X8_keepText_126 N) n) v16 h17)
      revert ih126
      generalize iter (fun _ _ => none) (f_X8_keepText_126 N) n = r126
      intro ih126
      unfold f_X8_keepText_126
      refine r_iload_n F 1 rfl dX8_keepText_126 rfl ?_
      refine r_iconst F (v := 4) dX8_keepText_127 (by decide) ?_
      refine r_icmpge F (tgt := 151) dX8_keepText_128 (by decide) ?_ ?_
      · skip
        refine r_aload_n F 0 rfl dX8_keepText_151 rfl ?_
        refine r_getA F frX8_57 (by decide) dX8_keepText_152 ?_
        refine r_iconst F (v := 4) dX8_keepText_155 (by decide) ?_
        refine k_vH (run_S F csX8_258 (c_X8_copies (xG X) _ N h17 8 0 14 (ar_8_14 0 (by decide)) 4) rfl rfl ⟨⟨rfl, rfl⟩, Nat.le_of_ble_eq_true rfl, Nat.le_of_ble_eq_true rfl⟩ (Nat.le_of_ble_eq_true rfl) dX8_keepText_156) fun h18 => ?_
        refine r_aload_n F 0 rfl dX8_keepText_159 rfl ?_
        refine r_getA F frX8_60 (by decide) dX8_keepText_160 ?_
        refine r_iconst F (v := 4) dX8_keepText_163 (by decide) ?_
        refine k_vH (run_S F csX8_258 (c_X8_copies (xG X) _ N h18 8 0 15 (ar_8_15 0 (by decide)) 4) rfl rfl ⟨⟨rfl, rfl⟩, Nat.le_of_ble_eq_true rfl, Nat.le_of_ble_eq_true rfl⟩ (Nat.le_of_ble_eq_true rfl) dX8_keepText_164) fun h19 => ?_
        refine r_aload_n F 0 rfl dX8_keepText_167 rfl ?_
        refine r_getA F frX8_63 (by decide) dX8_keepText_168 ?_
        refine r_bipush F (v := 64) dX8_keepText_171 (by decide) ?_
        refine k_vH (run_S F csX8_258 (c_X8_copies (xG X) _ N h19 8 0 16 (ar_8_16 0 (by decide)) 64) rfl rfl ⟨⟨rfl, rfl⟩, Nat.le_of_ble_eq_true rfl, Nat.le_of_ble_eq_true rfl⟩ (Nat.le_of_ble_eq_true rfl) dX8_keepText_173) fun h20 => ?_
        refine r_aload_n F 0 rfl dX8_keepText_176 rfl ?_
        refine r_getA F frX8_66 (by decide) dX8_keepText_177 ?_
        refine r_bipush F (v := 64) dX8_keepText_180 (by decide) ?_
        refine k_vH (run_S F csX8_258 (c_X8_copies (xG X) _ N h20 8 0 17 (ar_8_17 0 (by decide)) 64) rfl rfl ⟨⟨rfl, rfl⟩, Nat.le_of_ble_eq_true rfl, Nat.le_of_ble_eq_true rfl⟩ (Nat.le_of_ble_eq_true rfl) dX8_keepText_182) fun h21 => ?_
        refine r_aload_n F 0 rfl dX8_keepText_185 rfl ?_
        refine r_getA F frX8_69 (by decide) dX8_keepText_186 ?_
        refine r_bipush F (v := 64) dX8_keepText_189 (by decide) ?_
        refine k_vH (run_S F csX8_258 (c_X8_copies (xG X) _ N h21 8 0 18 (ar_8_18 0 (by decide)) 64) rfl rfl ⟨⟨rfl, rfl⟩, Nat.le_of_ble_eq_true rfl, Nat.le_of_ble_eq_true rfl⟩ (Nat.le_of_ble_eq_true rfl) dX8_keepText_191) fun h22 => ?_
        refine r_aload_n F 0 rfl dX8_keepText_194 rfl ?_
        refine k_vH (run_V F cvX8_262 (by decide) (c_X8_begin (xG X) _ N h22) rfl rfl ⟨⟨rfl, rfl⟩, Nat.le_of_ble_eq_true rfl, Nat.le_of_ble_eq_true rfl⟩ (Nat.le_of_ble_eq_true rfl) dX8_keepText_195) fun h23 => ?_
        exact r_vret F hA rfl rfl trivial dX8_keepText_198
      refine r_aload_n F 0 rfl dX8_keepText_131 rfl ?_
      refine r_getA F frX8_54 (by decide) dX8_keepText_132 ?_
      refine r_iload_n F 1 rfl dX8_keepText_135 rfl ?_
      refine r_aload_n F 0 rfl dX8_keepText_136 rfl ?_
      refine r_getA F frX8_54 (by decide) dX8_keepText_137 ?_
      refine r_iconst F (v := 4) dX8_keepText_140 (by decide) ?_
      refine r_iload_n F 1 rfl dX8_keepText_141 rfl ?_
      refine r_iadd F dX8_keepText_142 ?_
      refine r_baload F (ar_8_13 0 (by decide)) dX8_keepText_143 ?_
      refine r_bastore F ((gY h17 8 0 13 (4 + v16).toNatClampNeg)) rfl (ar_8_13 0 (by decide)) dX8_keepText_144 fun h24 => ?_
      refine r_iinc F (v := 1) 1 rfl (by decide) (fun v25 => [(1, .int v25), (0, .ref (adr (xG X) 8 0 0))]) (fun _ => rfl) dX8_keepText_145 (hS _ (by decide)) fun v25 => ?_
      refine r_goto F (tgt := 126) dX8_keepText_148 (by decide) ?_
      exact Wt_pick [1, 0] rfl (ih126 v25 h24)
  exact Wt_pick [1, 0] rfl (hl126 N 0 h15)
theorem c_X8_keepText (G : Gx) (l : Launch) (N : Nat) (h : Hp) : Ctr G l yX8_keepText (.code yX8_keepText cX8_keepText 2 none :: GT) rmX8_keepText [.ref (adr G 8 0 0)] h (f_X8_keepText N h) (fun _ => none) (fun v => v) (fun _ => True) :=
  ctr_of (by decide) (Nat.le_of_ble_eq_true rfl) ⟨rfl, rfl⟩ fun X _ e2 hA hL F => by subst e2; exact w_X8_keepText X F hA hL N h
def f_X8_find_3 (h : Hp) (p0c : Nat) (p0o : Nat) (p0a : Nat) (p1 : Int32) (p2 : Int32) (p3 : Int32) (r3 : Int32 → Option Int32) (v1 : Int32) : Option Int32 :=
  if p2 ≤ v1 then
    some (-1)
  else
  grd (inb (p1 + v1) (ak p0c p0a).2) <|
  if ¬ (gA h p0c p0o p0a (p1 + v1).toNatClampNeg) = p3 then
    lt_ (v1 + 1) fun v2 =>
    r3 v2
  else
  some v1
def f_X8_find (N : Nat) (h : Hp) (p0c p0o p0a : Nat) (p1 : Int32) (p2 : Int32) (p3 : Int32) : Option Int32 :=
  iter (fun _ => none) (f_X8_find_3 h p0c p0o p0a p1 p2 p3) N 0
abbrev rmX8_find : Room := { frames := 0, cells := 0, slots := 0, locals := 0 }
set_option maxRecDepth 100000 in
set_option maxHeartbeats 4000000 in
theorem w_X8_find (X : Cx) (F : Fx X cX8_find RX8 (some .int) rmX8_find) (hA : xA X = Aw (xG X)) (hL : xL X = 5) (N : Nat) (h : Hp) (p0c p0o p0a : Nat) (h_p0 : AR p0c p0o p0a 0 (ak p0c p0a).2) (p1 : Int32) (p2 : Int32) (p3 : Int32) : Wm X (fun v => some (.int v)) (fun _ => h) (fun _ => True) 0 [(0, .ref (adr (xG X) p0c p0o (p0a + 1))), (1, .int p1), (2, .int p2), (3, .int p3)] [] h (f_X8_find N h p0c p0o p0a p1 p2 p3) := by
  have hS : ∀ i : Nat, i < 5 → i < xL X := fun i z => by rw [hL]; exact z
  unfold f_X8_find
  refine r_iconst F (v := 0) dX8_find_0 (by decide) ?_
  refine r_istore F [(4, .int 0), (0, .ref (adr (xG X) p0c p0o (p0a + 1))), (1, .int p1), (2, .int p2), (3, .int p3)] rfl dX8_find_1 (hS _ (by decide)) ?_
  have hl3 : ∀ n : Nat, ∀ v1 : Int32, Wm X (fun v => some (.int v)) (fun _ => h) (fun _ => True) 3 [(0, .ref (adr (xG X) p0c p0o (p0a + 1))), (1, .int p1), (2, .int p2), (3, .int p3), (4, .int v1)] [] h (iter (fun _ => none) (f_X8_find_3 h p0c p0o p0a p1 p2 p3) n v1) := by
    intro n
    induction n with
    | zero => intro v1; exact Wt_none
    | succ n ih =>
      revert ih
      show (∀ v1 : Int32, Wm X (fun v => some (.int v)) (fun _ => h) (fun _ => True) 3 [(0, .ref (adr (xG X) p0c p0o (p0a + 1))), (1, .int p1), (2, .int p2), (3, .int p3), (4, .int v1)] [] h (iter (fun _ => none) (f_X8_find_3 h p0c p0o p0a p1 p2 p3) n v1)) → _
      intro ih3 v1
      show Wm X (fun v => some (.int v)) (fun _ => h) (fun _ => True) 3 [(0, .ref (adr (xG X) p0c p0o (p0a + 1))), (1, .int p1), (2, .int p2), (3, .int p3), (4, .int v1)] [] h (f_X8_find_3 h p0c p0o p0a p1 p2 p3 (iter (fun _ => none) (f_X8_find_3 h p0c p0o p0a p1 p2 p3) n) v1)
      revert ih3
      generalize iter (fun _ => none) (f_X8_find_3 h p0c p0o p0a p1 p2 p3) n = r3
      intro ih3
      unfold f_X8_find_3
      refine r_iload F 4 rfl dX8_find_3 ?_
      refine r_iload_n F 2 rfl dX8_find_5 rfl ?_
      refine r_icmpge F (tgt := 28) dX8_find_6 (by decide) ?_ ?_
      · skip
        refine r_iconst F (v := (-1)) dX8_find_28 (by decide) ?_
        exact r_iret F hA rfl rfl trivial dX8_find_29
      refine r_aload_n F 0 rfl dX8_find_9 rfl ?_
      refine r_iload_n F 1 rfl dX8_find_10 rfl ?_
      refine r_iload F 4 rfl dX8_find_11 ?_
      refine r_iadd F dX8_find_13 ?_
      refine r_iaload F h_p0 dX8_find_14 ?_
      refine r_iload_n F 3 rfl dX8_find_15 rfl ?_
      refine r_icmpne F (tgt := 22) dX8_find_16 (by decide) ?_ ?_
      · skip
        refine r_iinc F (v := 1) 4 rfl (by decide) (fun v2 => [(4, .int v2), (0, .ref (adr (xG X) p0c p0o (p0a + 1))), (1, .int p1), (2, .int p2), (3, .int p3)]) (fun _ => rfl) dX8_find_22 (hS _ (by decide)) fun v2 => ?_
        refine r_goto F (tgt := 3) dX8_find_25 (by decide) ?_
        exact Wt_pick [1, 2, 3, 4, 0] rfl (ih3 v2)
      refine r_iload F 4 rfl dX8_find_19 ?_
      exact r_iret F hA rfl rfl trivial dX8_find_21
  exact Wt_pick [1, 2, 3, 4, 0] rfl (hl3 N 0)
theorem c_X8_find (G : Gx) (l : Launch) (N : Nat) (h : Hp) (p0c p0o p0a : Nat) (h_p0 : AR p0c p0o p0a 0 (ak p0c p0a).2) (p1 : Int32) (p2 : Int32) (p3 : Int32) : Ctr G l yX8_find (.code yX8_find cX8_find 5 (some .int) :: GT) rmX8_find [.ref (adr G p0c p0o (p0a + 1)), .int p1, .int p2, .int p3] h (f_X8_find N h p0c p0o p0a p1 p2 p3) (fun v => some (.int v)) (fun _ => h) (fun _ => True) :=
  ctr_of (by decide) (Nat.le_of_ble_eq_true rfl) ⟨rfl, rfl⟩ fun X _ e2 hA hL F => by subst e2; exact w_X8_find X F hA hL N h p0c p0o p0a h_p0 p1 p2 p3
def f_X8_isOnce (N : Nat) (h : Hp) (p1 : Int32) : Option (Bool × Hp) :=
  grd (inb p1 4) <|
  if (b2i (gY h 8 0 2 p1.toNatClampNeg)) = 0 then
    grd (inb p1 4) <| lt_ (sY h 8 0 2 p1.toNatClampNeg true) fun h1 =>
    (f_X8_token N h1).bind fun h2 =>
    some (true, h2)
  else
  bd2 (f_X8_wrong h 3) fun v4 h3 =>
  some (v4, h3)
abbrev rmX8_isOnce : Room := { frames := 2, cells := 0, slots := 0, locals := 47 }
set_option maxRecDepth 100000 in
set_option maxHeartbeats 4000000 in
theorem w_X8_isOnce (X : Cx) (F : Fx X cX8_isOnce RX8 (some .boolean) rmX8_isOnce) (hA : xA X = Aw (xG X)) (hL : xL X = 2) (N : Nat) (h : Hp) (p1 : Int32) : Wm X (fun v => some (.int (b2i v.1))) (fun v => v.2) (fun _ => True) 0 [(0, .ref (adr (xG X) 8 0 0)), (1, .int p1)] [] h (f_X8_isOnce N h p1) := by
  have hS : ∀ i : Nat, i < 2 → i < xL X := fun i z => by rw [hL]; exact z
  unfold f_X8_isOnce
  refine r_aload_n F 0 rfl dX8_isOnce_0 rfl ?_
  refine r_getA F frX8_20 (by decide) dX8_isOnce_1 ?_
  refine r_iload_n F 1 rfl dX8_isOnce_4 rfl ?_
  refine r_baload F (ar_8_2 0 (by decide)) dX8_isOnce_5 ?_
  refine r_ifeq F (tgt := 15) dX8_isOnce_6 (by decide) ?_ ?_
  · skip
    refine r_aload_n F 0 rfl dX8_isOnce_15 rfl ?_
    refine r_getA F frX8_20 (by decide) dX8_isOnce_16 ?_
    refine r_iload_n F 1 rfl dX8_isOnce_19 rfl ?_
    refine r_iconst F (v := 1) dX8_isOnce_20 (by decide) ?_
    refine r_bastore F true rfl (ar_8_2 0 (by decide)) dX8_isOnce_21 fun h1 => ?_
    refine r_aload_n F 0 rfl dX8_isOnce_22 rfl ?_
    refine k_vH (run_V F cvX8_215 (by decide) (c_X8_token (xG X) _ N h1) rfl rfl ⟨⟨rfl, rfl⟩, Nat.le_of_ble_eq_true rfl, Nat.le_of_ble_eq_true rfl⟩ (Nat.le_of_ble_eq_true rfl) dX8_isOnce_23) fun h2 => ?_
    refine r_iconst F (v := 1) dX8_isOnce_26 (by decide) ?_
    exact r_zret F hA true rfl rfl rfl trivial dX8_isOnce_27
  refine r_aload_n F 0 rfl dX8_isOnce_9 rfl ?_
  refine r_iconst F (v := 3) dX8_isOnce_10 (by decide) ?_
  refine k_zH (run_V F cvX8_205 (by decide) (c_X8_wrong (xG X) _ h 3) rfl rfl ⟨⟨rfl, rfl⟩, Nat.le_of_ble_eq_true rfl, Nat.le_of_ble_eq_true rfl⟩ (Nat.le_of_ble_eq_true rfl) dX8_isOnce_11) fun v4 h3 => ?_
  exact r_zret F hA v4 rfl rfl rfl trivial dX8_isOnce_14
theorem c_X8_isOnce (G : Gx) (l : Launch) (N : Nat) (h : Hp) (p1 : Int32) : Ctr G l yX8_isOnce (.code yX8_isOnce cX8_isOnce 2 (some .boolean) :: GT) rmX8_isOnce [.ref (adr G 8 0 0), .int p1] h (f_X8_isOnce N h p1) (fun v => some (.int (b2i v.1))) (fun v => v.2) (fun _ => True) :=
  ctr_of (by decide) (Nat.le_of_ble_eq_true rfl) ⟨rfl, rfl⟩ fun X _ e2 hA hL F => by subst e2; exact w_X8_isOnce X F hA hL N h p1
def f_X8_croftLine (N : Nat) (h : Hp) : Option (Bool × Hp) :=
  if ¬ (gI h 8 0 18) = 4 then
    (f_X8_token N h).bind fun h1 =>
    if (gI h1 8 0 8) = 2 then
      (f_X8_find N h1 8 0 5 4 (gI h1 8 0 18) (gI h1 8 0 9)).bind fun v2 =>
      if v2 < 0 then
        lt_ ((4 + (gI h1 8 0 18))) fun v3 =>
        grd (inb v3 8) <| lt_ (sA h1 8 0 5 v3.toNatClampNeg (gI h1 8 0 9)) fun h4 =>
        (f_X8_token N h4).bind fun h5 =>
        bd2 (f_X8_number N h5 0 5) fun v7 h6 =>
        if ¬ (b2i v7) = 0 then
          grd (inb v3 8) <| lt_ (sA h6 8 0 6 v3.toNatClampNeg (gI h6 8 0 11)) fun h8 =>
          bd2 (f_X8_number N h8 0 9) fun v10 h9 =>
          if ¬ (b2i v10) = 0 then
            grd (inb v3 8) <| lt_ (sA h9 8 0 7 v3.toNatClampNeg (gI h9 8 0 11)) fun h11 =>
            bd2 (f_X8_number N h11 0 99) fun v13 h12 =>
            if ¬ (b2i v13) = 0 then
              grd (inb v3 8) <| lt_ (sA h12 8 0 8 v3.toNatClampNeg (gI h12 8 0 11)) fun h14 =>
              lt_ (sI h14 8 0 18 ((gI h14 8 0 18) + 1)) fun h15 =>
              some (true, h15)
            else
            some (false, h12)
          else
          some (false, h9)
        else
        some (false, h6)
      else
      bd2 (f_X8_wrong h1 3) fun v17 h16 =>
      some (v17, h16)
    else
    bd2 (f_X8_wrong h1 1) fun v19 h18 =>
    some (v19, h18)
  else
  bd2 (f_X8_wrong h 2) fun v21 h20 =>
  some (v21, h20)
abbrev rmX8_croftLine : Room := { frames := 3, cells := 0, slots := 0, locals := 69 }
set_option maxRecDepth 100000 in
set_option maxHeartbeats 4000000 in
theorem w_X8_croftLine (X : Cx) (F : Fx X cX8_croftLine RX8 (some .boolean) rmX8_croftLine) (hA : xA X = Aw (xG X)) (hL : xL X = 2) (N : Nat) (h : Hp) : Wm X (fun v => some (.int (b2i v.1))) (fun v => v.2) (fun _ => True) 0 [(0, .ref (adr (xG X) 8 0 0))] [] h (f_X8_croftLine N h) := by
  have hS : ∀ i : Nat, i < 2 → i < xL X := fun i z => by rw [hL]; exact z
  unfold f_X8_croftLine
  refine r_aload_n F 0 rfl dX8_croftLine_0 rfl ?_
  refine r_getI F frX8_228 (by decide) dX8_croftLine_1 ?_
  refine r_iconst F (v := 4) dX8_croftLine_4 (by decide) ?_
  refine r_icmpne F (tgt := 14) dX8_croftLine_5 (by decide) ?_ ?_
  · skip
    refine r_aload_n F 0 rfl dX8_croftLine_14 rfl ?_
    refine k_vH (run_V F cvX8_215 (by decide) (c_X8_token (xG X) _ N h) rfl rfl ⟨⟨rfl, rfl⟩, Nat.le_of_ble_eq_true rfl, Nat.le_of_ble_eq_true rfl⟩ (Nat.le_of_ble_eq_true rfl) dX8_croftLine_15) fun h1 => ?_
    refine r_aload_n F 0 rfl dX8_croftLine_18 rfl ?_
    refine r_getI F frX8_181 (by decide) dX8_croftLine_19 ?_
    refine r_iconst F (v := 2) dX8_croftLine_22 (by decide) ?_
    refine r_icmpeq F (tgt := 32) dX8_croftLine_23 (by decide) ?_ ?_
    · skip
      refine r_aload_n F 0 rfl dX8_croftLine_32 rfl ?_
      refine r_getA F frX8_30 (by decide) dX8_croftLine_33 ?_
      refine r_iconst F (v := 4) dX8_croftLine_36 (by decide) ?_
      refine r_aload_n F 0 rfl dX8_croftLine_37 rfl ?_
      refine r_getI F frX8_228 (by decide) dX8_croftLine_38 ?_
      refine r_aload_n F 0 rfl dX8_croftLine_41 rfl ?_
      refine r_getI F frX8_192 (by decide) dX8_croftLine_42 ?_
      refine k_iP (run_S F csX8_265 (c_X8_find (xG X) _ N h1 8 0 5 (ar_8_5 0 (by decide)) 4 (gI h1 8 0 18) (gI h1 8 0 9)) rfl rfl ⟨⟨rfl, rfl⟩, Nat.le_of_ble_eq_true rfl, Nat.le_of_ble_eq_true rfl⟩ (Nat.le_of_ble_eq_true rfl) dX8_croftLine_45) fun v2 _ => ?_
      refine r_iflt F (tgt := 57) dX8_croftLine_48 (by decide) ?_ ?_
      · skip
        refine r_iconst F (v := 4) dX8_croftLine_57 (by decide) ?_
        refine r_aload_n F 0 rfl dX8_croftLine_58 rfl ?_
        refine r_getI F frX8_228 (by decide) dX8_croftLine_59 ?_
        refine r_iadd F dX8_croftLine_62 ?_
        refine r_nmI fun v3 => ?_
        refine r_istore_n F [(1, .int v3), (0, .ref (adr (xG X) 8 0 0))] rfl dX8_croftLine_63 rfl (hS _ (by decide)) ?_
        refine r_aload_n F 1 rfl dX8_croftLine_64 rfl ?_
        refine r_getA F frX8_30 (by decide) dX8_croftLine_65 ?_
        refine r_iload_n F 0 rfl dX8_croftLine_68 rfl ?_
        refine r_aload_n F 1 rfl dX8_croftLine_69 rfl ?_
        refine r_getI F frX8_192 (by decide) dX8_croftLine_70 ?_
        refine r_iastore F (ar_8_5 0 (by decide)) dX8_croftLine_73 fun h4 => ?_
        refine r_aload_n F 1 rfl dX8_croftLine_74 rfl ?_
        refine k_vH (run_V F cvX8_215 (by decide) (c_X8_token (xG X) _ N h4) rfl rfl ⟨⟨rfl, rfl⟩, Nat.le_of_ble_eq_true rfl, Nat.le_of_ble_eq_true rfl⟩ (Nat.le_of_ble_eq_true rfl) dX8_croftLine_75) fun h5 => ?_
        refine r_aload_n F 1 rfl dX8_croftLine_78 rfl ?_
        refine r_iconst F (v := 0) dX8_croftLine_79 (by decide) ?_
        refine r_iconst F (v := 5) dX8_croftLine_80 (by decide) ?_
        refine k_zH (run_V F cvX8_221 (by decide) (c_X8_number (xG X) _ N h5 0 5) rfl rfl ⟨⟨rfl, rfl⟩, Nat.le_of_ble_eq_true rfl, Nat.le_of_ble_eq_true rfl⟩ (Nat.le_of_ble_eq_true rfl) dX8_croftLine_81) fun v7 h6 => ?_
        refine r_ifne F (tgt := 89) dX8_croftLine_84 (by decide) ?_ ?_
        · skip
          refine r_aload_n F 1 rfl dX8_croftLine_89 rfl ?_
          refine r_getA F frX8_33 (by decide) dX8_croftLine_90 ?_
          refine r_iload_n F 0 rfl dX8_croftLine_93 rfl ?_
          refine r_aload_n F 1 rfl dX8_croftLine_94 rfl ?_
          refine r_getI F frX8_212 (by decide) dX8_croftLine_95 ?_
          refine r_iastore F (ar_8_6 0 (by decide)) dX8_croftLine_98 fun h8 => ?_
          refine r_aload_n F 1 rfl dX8_croftLine_99 rfl ?_
          refine r_iconst F (v := 0) dX8_croftLine_100 (by decide) ?_
          refine r_bipush F (v := 9) dX8_croftLine_101 (by decide) ?_
          refine k_zH (run_V F cvX8_221 (by decide) (c_X8_number (xG X) _ N h8 0 9) rfl rfl ⟨⟨rfl, rfl⟩, Nat.le_of_ble_eq_true rfl, Nat.le_of_ble_eq_true rfl⟩ (Nat.le_of_ble_eq_true rfl) dX8_croftLine_103) fun v10 h9 => ?_
          refine r_ifne F (tgt := 111) dX8_croftLine_106 (by decide) ?_ ?_
          · skip
            refine r_aload_n F 1 rfl dX8_croftLine_111 rfl ?_
            refine r_getA F frX8_36 (by decide) dX8_croftLine_112 ?_
            refine r_iload_n F 0 rfl dX8_croftLine_115 rfl ?_
            refine r_aload_n F 1 rfl dX8_croftLine_116 rfl ?_
            refine r_getI F frX8_212 (by decide) dX8_croftLine_117 ?_
            refine r_iastore F (ar_8_7 0 (by decide)) dX8_croftLine_120 fun h11 => ?_
            refine r_aload_n F 1 rfl dX8_croftLine_121 rfl ?_
            refine r_iconst F (v := 0) dX8_croftLine_122 (by decide) ?_
            refine r_bipush F (v := 99) dX8_croftLine_123 (by decide) ?_
            refine k_zH (run_V F cvX8_221 (by decide) (c_X8_number (xG X) _ N h11 0 99) rfl rfl ⟨⟨rfl, rfl⟩, Nat.le_of_ble_eq_true rfl, Nat.le_of_ble_eq_true rfl⟩ (Nat.le_of_ble_eq_true rfl) dX8_croftLine_125) fun v13 h12 => ?_
            refine r_ifne F (tgt := 133) dX8_croftLine_128 (by decide) ?_ ?_
            · skip
              refine r_aload_n F 1 rfl dX8_croftLine_133 rfl ?_
              refine r_getA F frX8_39 (by decide) dX8_croftLine_134 ?_
              refine r_iload_n F 0 rfl dX8_croftLine_137 rfl ?_
              refine r_aload_n F 1 rfl dX8_croftLine_138 rfl ?_
              refine r_getI F frX8_212 (by decide) dX8_croftLine_139 ?_
              refine r_iastore F (ar_8_8 0 (by decide)) dX8_croftLine_142 fun h14 => ?_
              refine r_aload_n F 1 rfl dX8_croftLine_143 rfl ?_
              refine r_dup F rfl dX8_croftLine_144 ?_
              refine r_getI F frX8_228 (by decide) dX8_croftLine_145 ?_
              refine r_iconst F (v := 1) dX8_croftLine_148 (by decide) ?_
              refine r_iadd F dX8_croftLine_149 ?_
              refine r_putI F frX8_228 (by decide) rfl rfl dX8_croftLine_150 fun h15 => ?_
              refine r_iconst F (v := 1) dX8_croftLine_153 (by decide) ?_
              exact r_zret F hA true rfl rfl rfl trivial dX8_croftLine_154
            refine r_iconst F (v := 0) dX8_croftLine_131 (by decide) ?_
            exact r_zret F hA false rfl rfl rfl trivial dX8_croftLine_132
          refine r_iconst F (v := 0) dX8_croftLine_109 (by decide) ?_
          exact r_zret F hA false rfl rfl rfl trivial dX8_croftLine_110
        refine r_iconst F (v := 0) dX8_croftLine_87 (by decide) ?_
        exact r_zret F hA false rfl rfl rfl trivial dX8_croftLine_88
      refine r_aload_n F 0 rfl dX8_croftLine_51 rfl ?_
      refine r_iconst F (v := 3) dX8_croftLine_52 (by decide) ?_
      refine k_zH (run_V F cvX8_205 (by decide) (c_X8_wrong (xG X) _ h1 3) rfl rfl ⟨⟨rfl, rfl⟩, Nat.le_of_ble_eq_true rfl, Nat.le_of_ble_eq_true rfl⟩ (Nat.le_of_ble_eq_true rfl) dX8_croftLine_53) fun v17 h16 => ?_
      exact r_zret F hA v17 rfl rfl rfl trivial dX8_croftLine_56
    refine r_aload_n F 0 rfl dX8_croftLine_26 rfl ?_
    refine r_iconst F (v := 1) dX8_croftLine_27 (by decide) ?_
    refine k_zH (run_V F cvX8_205 (by decide) (c_X8_wrong (xG X) _ h1 1) rfl rfl ⟨⟨rfl, rfl⟩, Nat.le_of_ble_eq_true rfl, Nat.le_of_ble_eq_true rfl⟩ (Nat.le_of_ble_eq_true rfl) dX8_croftLine_28) fun v19 h18 => ?_
    exact r_zret F hA v19 rfl rfl rfl trivial dX8_croftLine_31
  refine r_aload_n F 0 rfl dX8_croftLine_8 rfl ?_
  refine r_iconst F (v := 2) dX8_croftLine_9 (by decide) ?_
  refine k_zH (run_V F cvX8_205 (by decide) (c_X8_wrong (xG X) _ h 2) rfl rfl ⟨⟨rfl, rfl⟩, Nat.le_of_ble_eq_true rfl, Nat.le_of_ble_eq_true rfl⟩ (Nat.le_of_ble_eq_true rfl) dX8_croftLine_10) fun v21 h20 => ?_
  exact r_zret F hA v21 rfl rfl rfl trivial dX8_croftLine_13
theorem c_X8_croftLine (G : Gx) (l : Launch) (N : Nat) (h : Hp) : Ctr G l yX8_croftLine (.code yX8_croftLine cX8_croftLine 2 (some .boolean) :: GT) rmX8_croftLine [.ref (adr G 8 0 0)] h (f_X8_croftLine N h) (fun v => some (.int (b2i v.1))) (fun v => v.2) (fun _ => True) :=
  ctr_of (by decide) (Nat.le_of_ble_eq_true rfl) ⟨rfl, rfl⟩ fun X _ e2 hA hL F => by subst e2; exact w_X8_croftLine X F hA hL N h
def f_X8_fieldLine (N : Nat) (h : Hp) : Option (Bool × Hp) :=
  if ¬ (gI h 8 0 19) = 6 then
    (f_X8_token N h).bind fun h1 =>
    if (gI h1 8 0 8) = 2 then
      (f_X8_find N h1 8 0 5 4 (gI h1 8 0 18) (gI h1 8 0 9)).bind fun v2 =>
      if 0 ≤ v2 then
        lt_ ((6 + (gI h1 8 0 19))) fun v3 =>
        grd (inb v3 12) <| lt_ (sA h1 8 0 9 v3.toNatClampNeg v2) fun h4 =>
        (f_X8_token N h4).bind fun h5 =>
        bd2 (f_X8_number N h5 0 99) fun v7 h6 =>
        if ¬ (b2i v7) = 0 then
          grd (inb v3 12) <| lt_ (sA h6 8 0 10 v3.toNatClampNeg (gI h6 8 0 11)) fun h8 =>
          bd2 (f_X8_number N h8 0 9) fun v10 h9 =>
          if ¬ (b2i v10) = 0 then
            grd (inb v3 12) <| lt_ (sA h9 8 0 11 v3.toNatClampNeg (gI h9 8 0 11)) fun h11 =>
            lt_ (sI h11 8 0 19 ((gI h11 8 0 19) + 1)) fun h12 =>
            some (true, h12)
          else
          some (false, h9)
        else
        some (false, h6)
      else
      bd2 (f_X8_wrong h1 4) fun v14 h13 =>
      some (v14, h13)
    else
    bd2 (f_X8_wrong h1 1) fun v16 h15 =>
    some (v16, h15)
  else
  bd2 (f_X8_wrong h 2) fun v18 h17 =>
  some (v18, h17)
abbrev rmX8_fieldLine : Room := { frames := 3, cells := 0, slots := 0, locals := 69 }
set_option maxRecDepth 100000 in
set_option maxHeartbeats 4000000 in
theorem w_X8_fieldLine (X : Cx) (F : Fx X cX8_fieldLine RX8 (some .boolean) rmX8_fieldLine) (hA : xA X = Aw (xG X)) (hL : xL X = 3) (N : Nat) (h : Hp) : Wm X (fun v => some (.int (b2i v.1))) (fun v => v.2) (fun _ => True) 0 [(0, .ref (adr (xG X) 8 0 0))] [] h (f_X8_fieldLine N h) := by
  have hS : ∀ i : Nat, i < 3 → i < xL X := fun i z => by rw [hL]; exact z
  unfold f_X8_fieldLine
  refine r_aload_n F 0 rfl dX8_fieldLine_0 rfl ?_
  refine r_getI F frX8_231 (by decide) dX8_fieldLine_1 ?_
  refine r_bipush F (v := 6) dX8_fieldLine_4 (by decide) ?_
  refine r_icmpne F (tgt := 15) dX8_fieldLine_6 (by decide) ?_ ?_
  · skip
    refine r_aload_n F 0 rfl dX8_fieldLine_15 rfl ?_
    refine k_vH (run_V F cvX8_215 (by decide) (c_X8_token (xG X) _ N h) rfl rfl ⟨⟨rfl, rfl⟩, Nat.le_of_ble_eq_true rfl, Nat.le_of_ble_eq_true rfl⟩ (Nat.le_of_ble_eq_true rfl) dX8_fieldLine_16) fun h1 => ?_
    refine r_aload_n F 0 rfl dX8_fieldLine_19 rfl ?_
    refine r_getI F frX8_181 (by decide) dX8_fieldLine_20 ?_
    refine r_iconst F (v := 2) dX8_fieldLine_23 (by decide) ?_
    refine r_icmpeq F (tgt := 33) dX8_fieldLine_24 (by decide) ?_ ?_
    · skip
      refine r_aload_n F 0 rfl dX8_fieldLine_33 rfl ?_
      refine r_getA F frX8_30 (by decide) dX8_fieldLine_34 ?_
      refine r_iconst F (v := 4) dX8_fieldLine_37 (by decide) ?_
      refine r_aload_n F 0 rfl dX8_fieldLine_38 rfl ?_
      refine r_getI F frX8_228 (by decide) dX8_fieldLine_39 ?_
      refine r_aload_n F 0 rfl dX8_fieldLine_42 rfl ?_
      refine r_getI F frX8_192 (by decide) dX8_fieldLine_43 ?_
      refine k_iP (run_S F csX8_265 (c_X8_find (xG X) _ N h1 8 0 5 (ar_8_5 0 (by decide)) 4 (gI h1 8 0 18) (gI h1 8 0 9)) rfl rfl ⟨⟨rfl, rfl⟩, Nat.le_of_ble_eq_true rfl, Nat.le_of_ble_eq_true rfl⟩ (Nat.le_of_ble_eq_true rfl) dX8_fieldLine_46) fun v2 _ => ?_
      refine r_istore_n F [(1, .int v2), (0, .ref (adr (xG X) 8 0 0))] rfl dX8_fieldLine_49 rfl (hS _ (by decide)) ?_
      refine r_iload_n F 0 rfl dX8_fieldLine_50 rfl ?_
      refine r_ifge F (tgt := 60) dX8_fieldLine_51 (by decide) ?_ ?_
      · skip
        refine r_bipush F (v := 6) dX8_fieldLine_60 (by decide) ?_
        refine r_aload_n F 1 rfl dX8_fieldLine_62 rfl ?_
        refine r_getI F frX8_231 (by decide) dX8_fieldLine_63 ?_
        refine r_iadd F dX8_fieldLine_66 ?_
        refine r_nmI fun v3 => ?_
        refine r_istore_n F [(2, .int v3), (1, .int v2), (0, .ref (adr (xG X) 8 0 0))] rfl dX8_fieldLine_67 rfl (hS _ (by decide)) ?_
        refine r_aload_n F 2 rfl dX8_fieldLine_68 rfl ?_
        refine r_getA F frX8_42 (by decide) dX8_fieldLine_69 ?_
        refine r_iload_n F 0 rfl dX8_fieldLine_72 rfl ?_
        refine r_iload_n F 1 rfl dX8_fieldLine_73 rfl ?_
        refine r_iastore F (ar_8_9 0 (by decide)) dX8_fieldLine_74 fun h4 => ?_
        refine r_aload_n F 2 rfl dX8_fieldLine_75 rfl ?_
        refine k_vH (run_V F cvX8_215 (by decide) (c_X8_token (xG X) _ N h4) rfl rfl ⟨⟨rfl, rfl⟩, Nat.le_of_ble_eq_true rfl, Nat.le_of_ble_eq_true rfl⟩ (Nat.le_of_ble_eq_true rfl) dX8_fieldLine_76) fun h5 => ?_
        refine r_aload_n F 2 rfl dX8_fieldLine_79 rfl ?_
        refine r_iconst F (v := 0) dX8_fieldLine_80 (by decide) ?_
        refine r_bipush F (v := 99) dX8_fieldLine_81 (by decide) ?_
        refine k_zH (run_V F cvX8_221 (by decide) (c_X8_number (xG X) _ N h5 0 99) rfl rfl ⟨⟨rfl, rfl⟩, Nat.le_of_ble_eq_true rfl, Nat.le_of_ble_eq_true rfl⟩ (Nat.le_of_ble_eq_true rfl) dX8_fieldLine_83) fun v7 h6 => ?_
        refine r_ifne F (tgt := 91) dX8_fieldLine_86 (by decide) ?_ ?_
        · skip
          refine r_aload_n F 2 rfl dX8_fieldLine_91 rfl ?_
          refine r_getA F frX8_45 (by decide) dX8_fieldLine_92 ?_
          refine r_iload_n F 0 rfl dX8_fieldLine_95 rfl ?_
          refine r_aload_n F 2 rfl dX8_fieldLine_96 rfl ?_
          refine r_getI F frX8_212 (by decide) dX8_fieldLine_97 ?_
          refine r_iastore F (ar_8_10 0 (by decide)) dX8_fieldLine_100 fun h8 => ?_
          refine r_aload_n F 2 rfl dX8_fieldLine_101 rfl ?_
          refine r_iconst F (v := 0) dX8_fieldLine_102 (by decide) ?_
          refine r_bipush F (v := 9) dX8_fieldLine_103 (by decide) ?_
          refine k_zH (run_V F cvX8_221 (by decide) (c_X8_number (xG X) _ N h8 0 9) rfl rfl ⟨⟨rfl, rfl⟩, Nat.le_of_ble_eq_true rfl, Nat.le_of_ble_eq_true rfl⟩ (Nat.le_of_ble_eq_true rfl) dX8_fieldLine_105) fun v10 h9 => ?_
          refine r_ifne F (tgt := 113) dX8_fieldLine_108 (by decide) ?_ ?_
          · skip
            refine r_aload_n F 2 rfl dX8_fieldLine_113 rfl ?_
            refine r_getA F frX8_48 (by decide) dX8_fieldLine_114 ?_
            refine r_iload_n F 0 rfl dX8_fieldLine_117 rfl ?_
            refine r_aload_n F 2 rfl dX8_fieldLine_118 rfl ?_
            refine r_getI F frX8_212 (by decide) dX8_fieldLine_119 ?_
            refine r_iastore F (ar_8_11 0 (by decide)) dX8_fieldLine_122 fun h11 => ?_
            refine r_aload_n F 2 rfl dX8_fieldLine_123 rfl ?_
            refine r_dup F rfl dX8_fieldLine_124 ?_
            refine r_getI F frX8_231 (by decide) dX8_fieldLine_125 ?_
            refine r_iconst F (v := 1) dX8_fieldLine_128 (by decide) ?_
            refine r_iadd F dX8_fieldLine_129 ?_
            refine r_putI F frX8_231 (by decide) rfl rfl dX8_fieldLine_130 fun h12 => ?_
            refine r_iconst F (v := 1) dX8_fieldLine_133 (by decide) ?_
            exact r_zret F hA true rfl rfl rfl trivial dX8_fieldLine_134
          refine r_iconst F (v := 0) dX8_fieldLine_111 (by decide) ?_
          exact r_zret F hA false rfl rfl rfl trivial dX8_fieldLine_112
        refine r_iconst F (v := 0) dX8_fieldLine_89 (by decide) ?_
        exact r_zret F hA false rfl rfl rfl trivial dX8_fieldLine_90
      refine r_aload_n F 1 rfl dX8_fieldLine_54 rfl ?_
      refine r_iconst F (v := 4) dX8_fieldLine_55 (by decide) ?_
      refine k_zH (run_V F cvX8_205 (by decide) (c_X8_wrong (xG X) _ h1 4) rfl rfl ⟨⟨rfl, rfl⟩, Nat.le_of_ble_eq_true rfl, Nat.le_of_ble_eq_true rfl⟩ (Nat.le_of_ble_eq_true rfl) dX8_fieldLine_56) fun v14 h13 => ?_
      exact r_zret F hA v14 rfl rfl rfl trivial dX8_fieldLine_59
    refine r_aload_n F 0 rfl dX8_fieldLine_27 rfl ?_
    refine r_iconst F (v := 1) dX8_fieldLine_28 (by decide) ?_
    refine k_zH (run_V F cvX8_205 (by decide) (c_X8_wrong (xG X) _ h1 1) rfl rfl ⟨⟨rfl, rfl⟩, Nat.le_of_ble_eq_true rfl, Nat.le_of_ble_eq_true rfl⟩ (Nat.le_of_ble_eq_true rfl) dX8_fieldLine_29) fun v16 h15 => ?_
    exact r_zret F hA v16 rfl rfl rfl trivial dX8_fieldLine_32
  refine r_aload_n F 0 rfl dX8_fieldLine_9 rfl ?_
  refine r_iconst F (v := 2) dX8_fieldLine_10 (by decide) ?_
  refine k_zH (run_V F cvX8_205 (by decide) (c_X8_wrong (xG X) _ h 2) rfl rfl ⟨⟨rfl, rfl⟩, Nat.le_of_ble_eq_true rfl, Nat.le_of_ble_eq_true rfl⟩ (Nat.le_of_ble_eq_true rfl) dX8_fieldLine_11) fun v18 h17 => ?_
  exact r_zret F hA v18 rfl rfl rfl trivial dX8_fieldLine_14
theorem c_X8_fieldLine (G : Gx) (l : Launch) (N : Nat) (h : Hp) : Ctr G l yX8_fieldLine (.code yX8_fieldLine cX8_fieldLine 3 (some .boolean) :: GT) rmX8_fieldLine [.ref (adr G 8 0 0)] h (f_X8_fieldLine N h) (fun v => some (.int (b2i v.1))) (fun v => v.2) (fun _ => True) :=
  ctr_of (by decide) (Nat.le_of_ble_eq_true rfl) ⟨rfl, rfl⟩ fun X _ e2 hA hL F => by subst e2; exact w_X8_fieldLine X F hA hL N h
