theorem dX8_layTried_0 : decode cX8_layTried 0 = .ok (.iconst 0, 1) := by decide +kernel
theorem dX8_layTried_1 : decode cX8_layTried 1 = .ok (.istore_n 1, 1) := by decide +kernel
theorem dX8_layTried_2 : decode cX8_layTried 2 = .ok (.iload_n 1, 1) := by decide +kernel
theorem dX8_layTried_3 : decode cX8_layTried 3 = .ok (.bipush 8, 2) := by decide +kernel
theorem dX8_layTried_5 : decode cX8_layTried 5 = .ok (.if_icmp .ge 39, 3) := by decide +kernel
theorem dX8_layTried_8 : decode cX8_layTried 8 = .ok (.aload_n 0, 1) := by decide +kernel
theorem dX8_layTried_9 : decode cX8_layTried 9 = .ok (.getfield 85, 3) := by decide +kernel
theorem dX8_layTried_12 : decode cX8_layTried 12 = .ok (.bipush 8, 2) := by decide +kernel
theorem dX8_layTried_14 : decode cX8_layTried 14 = .ok (.iload_n 1, 1) := by decide +kernel
theorem dX8_layTried_15 : decode cX8_layTried 15 = .ok (.iadd, 1) := by decide +kernel
theorem dX8_layTried_16 : decode cX8_layTried 16 = .ok (.aload_n 0, 1) := by decide +kernel
theorem dX8_layTried_17 : decode cX8_layTried 17 = .ok (.getfield 85, 3) := by decide +kernel
theorem dX8_layTried_20 : decode cX8_layTried 20 = .ok (.iload_n 1, 1) := by decide +kernel
theorem dX8_layTried_21 : decode cX8_layTried 21 = .ok (.iaload, 1) := by decide +kernel
theorem dX8_layTried_22 : decode cX8_layTried 22 = .ok (.iastore, 1) := by decide +kernel
theorem dX8_layTried_23 : decode cX8_layTried 23 = .ok (.aload_n 0, 1) := by decide +kernel
theorem dX8_layTried_24 : decode cX8_layTried 24 = .ok (.getfield 88, 3) := by decide +kernel
theorem dX8_layTried_27 : decode cX8_layTried 27 = .ok (.bipush 8, 2) := by decide +kernel
theorem dX8_layTried_29 : decode cX8_layTried 29 = .ok (.iload_n 1, 1) := by decide +kernel
theorem dX8_layTried_30 : decode cX8_layTried 30 = .ok (.iadd, 1) := by decide +kernel
theorem dX8_layTried_31 : decode cX8_layTried 31 = .ok (.aload_n 0, 1) := by decide +kernel
theorem dX8_layTried_32 : decode cX8_layTried 32 = .ok (.getfield 88, 3) := by decide +kernel
theorem dX8_layTried_35 : decode cX8_layTried 35 = .ok (.iload_n 1, 1) := by decide +kernel
theorem dX8_layTried_36 : decode cX8_layTried 36 = .ok (.iaload, 1) := by decide +kernel
theorem dX8_layTried_37 : decode cX8_layTried 37 = .ok (.iastore, 1) := by decide +kernel
theorem dX8_layTried_38 : decode cX8_layTried 38 = .ok (.iinc 1 1, 3) := by decide +kernel
theorem dX8_layTried_41 : decode cX8_layTried 41 = .ok (.goto (-39), 3) := by decide +kernel
theorem dX8_layTried_44 : decode cX8_layTried 44 = .ok (.iconst 0, 1) := by decide +kernel
theorem dX8_layTried_45 : decode cX8_layTried 45 = .ok (.istore_n 1, 1) := by decide +kernel
theorem dX8_layTried_46 : decode cX8_layTried 46 = .ok (.iload_n 1, 1) := by decide +kernel
theorem dX8_layTried_47 : decode cX8_layTried 47 = .ok (.iconst 4, 1) := by decide +kernel
theorem dX8_layTried_48 : decode cX8_layTried 48 = .ok (.if_icmp .ge 79, 3) := by decide +kernel
theorem dX8_layTried_51 : decode cX8_layTried 51 = .ok (.aload_n 0, 1) := by decide +kernel
theorem dX8_layTried_52 : decode cX8_layTried 52 = .ok (.getfield 91, 3) := by decide +kernel
theorem dX8_layTried_55 : decode cX8_layTried 55 = .ok (.iconst 4, 1) := by decide +kernel
theorem dX8_layTried_56 : decode cX8_layTried 56 = .ok (.iload_n 1, 1) := by decide +kernel
theorem dX8_layTried_57 : decode cX8_layTried 57 = .ok (.iadd, 1) := by decide +kernel
theorem dX8_layTried_58 : decode cX8_layTried 58 = .ok (.aload_n 0, 1) := by decide +kernel
theorem dX8_layTried_59 : decode cX8_layTried 59 = .ok (.getfield 91, 3) := by decide +kernel
theorem dX8_layTried_62 : decode cX8_layTried 62 = .ok (.iload_n 1, 1) := by decide +kernel
theorem dX8_layTried_63 : decode cX8_layTried 63 = .ok (.iaload, 1) := by decide +kernel
theorem dX8_layTried_64 : decode cX8_layTried 64 = .ok (.iastore, 1) := by decide +kernel
theorem dX8_layTried_65 : decode cX8_layTried 65 = .ok (.aload_n 0, 1) := by decide +kernel
theorem dX8_layTried_66 : decode cX8_layTried 66 = .ok (.getfield 94, 3) := by decide +kernel
theorem dX8_layTried_69 : decode cX8_layTried 69 = .ok (.iconst 4, 1) := by decide +kernel
theorem dX8_layTried_70 : decode cX8_layTried 70 = .ok (.iload_n 1, 1) := by decide +kernel
theorem dX8_layTried_71 : decode cX8_layTried 71 = .ok (.iadd, 1) := by decide +kernel
theorem dX8_layTried_72 : decode cX8_layTried 72 = .ok (.aload_n 0, 1) := by decide +kernel
theorem dX8_layTried_73 : decode cX8_layTried 73 = .ok (.getfield 94, 3) := by decide +kernel
theorem dX8_layTried_76 : decode cX8_layTried 76 = .ok (.iload_n 1, 1) := by decide +kernel
theorem dX8_layTried_77 : decode cX8_layTried 77 = .ok (.iaload, 1) := by decide +kernel
theorem dX8_layTried_78 : decode cX8_layTried 78 = .ok (.iastore, 1) := by decide +kernel
theorem dX8_layTried_79 : decode cX8_layTried 79 = .ok (.aload_n 0, 1) := by decide +kernel
theorem dX8_layTried_80 : decode cX8_layTried 80 = .ok (.getfield 97, 3) := by decide +kernel
theorem dX8_layTried_83 : decode cX8_layTried 83 = .ok (.iconst 4, 1) := by decide +kernel
theorem dX8_layTried_84 : decode cX8_layTried 84 = .ok (.iload_n 1, 1) := by decide +kernel
theorem dX8_layTried_85 : decode cX8_layTried 85 = .ok (.iadd, 1) := by decide +kernel
theorem dX8_layTried_86 : decode cX8_layTried 86 = .ok (.aload_n 0, 1) := by decide +kernel
theorem dX8_layTried_87 : decode cX8_layTried 87 = .ok (.getfield 97, 3) := by decide +kernel
theorem dX8_layTried_90 : decode cX8_layTried 90 = .ok (.iload_n 1, 1) := by decide +kernel
theorem dX8_layTried_91 : decode cX8_layTried 91 = .ok (.iaload, 1) := by decide +kernel
theorem dX8_layTried_92 : decode cX8_layTried 92 = .ok (.iastore, 1) := by decide +kernel
theorem dX8_layTried_93 : decode cX8_layTried 93 = .ok (.aload_n 0, 1) := by decide +kernel
theorem dX8_layTried_94 : decode cX8_layTried 94 = .ok (.getfield 100, 3) := by decide +kernel
theorem dX8_layTried_97 : decode cX8_layTried 97 = .ok (.iconst 4, 1) := by decide +kernel
theorem dX8_layTried_98 : decode cX8_layTried 98 = .ok (.iload_n 1, 1) := by decide +kernel
theorem dX8_layTried_99 : decode cX8_layTried 99 = .ok (.iadd, 1) := by decide +kernel
theorem dX8_layTried_100 : decode cX8_layTried 100 = .ok (.aload_n 0, 1) := by decide +kernel
theorem dX8_layTried_101 : decode cX8_layTried 101 = .ok (.getfield 100, 3) := by decide +kernel
theorem dX8_layTried_104 : decode cX8_layTried 104 = .ok (.iload_n 1, 1) := by decide +kernel
theorem dX8_layTried_105 : decode cX8_layTried 105 = .ok (.iaload, 1) := by decide +kernel
theorem dX8_layTried_106 : decode cX8_layTried 106 = .ok (.iastore, 1) := by decide +kernel
theorem dX8_layTried_107 : decode cX8_layTried 107 = .ok (.aload_n 0, 1) := by decide +kernel
theorem dX8_layTried_108 : decode cX8_layTried 108 = .ok (.getfield 103, 3) := by decide +kernel
theorem dX8_layTried_111 : decode cX8_layTried 111 = .ok (.iconst 4, 1) := by decide +kernel
theorem dX8_layTried_112 : decode cX8_layTried 112 = .ok (.iload_n 1, 1) := by decide +kernel
theorem dX8_layTried_113 : decode cX8_layTried 113 = .ok (.iadd, 1) := by decide +kernel
theorem dX8_layTried_114 : decode cX8_layTried 114 = .ok (.aload_n 0, 1) := by decide +kernel
theorem dX8_layTried_115 : decode cX8_layTried 115 = .ok (.getfield 103, 3) := by decide +kernel
theorem dX8_layTried_118 : decode cX8_layTried 118 = .ok (.iload_n 1, 1) := by decide +kernel
theorem dX8_layTried_119 : decode cX8_layTried 119 = .ok (.iaload, 1) := by decide +kernel
theorem dX8_layTried_120 : decode cX8_layTried 120 = .ok (.iastore, 1) := by decide +kernel
theorem dX8_layTried_121 : decode cX8_layTried 121 = .ok (.iinc 1 1, 3) := by decide +kernel
theorem dX8_layTried_124 : decode cX8_layTried 124 = .ok (.goto (-78), 3) := by decide +kernel
theorem dX8_layTried_127 : decode cX8_layTried 127 = .ok (.iconst 0, 1) := by decide +kernel
theorem dX8_layTried_128 : decode cX8_layTried 128 = .ok (.istore_n 1, 1) := by decide +kernel
theorem dX8_layTried_129 : decode cX8_layTried 129 = .ok (.iload_n 1, 1) := by decide +kernel
theorem dX8_layTried_130 : decode cX8_layTried 130 = .ok (.bipush 6, 2) := by decide +kernel
theorem dX8_layTried_132 : decode cX8_layTried 132 = .ok (.if_icmp .ge 24, 3) := by decide +kernel
theorem dX8_layTried_135 : decode cX8_layTried 135 = .ok (.aload_n 0, 1) := by decide +kernel
theorem dX8_layTried_136 : decode cX8_layTried 136 = .ok (.getfield 106, 3) := by decide +kernel
theorem dX8_layTried_139 : decode cX8_layTried 139 = .ok (.bipush 6, 2) := by decide +kernel
theorem dX8_layTried_141 : decode cX8_layTried 141 = .ok (.iload_n 1, 1) := by decide +kernel
theorem dX8_layTried_142 : decode cX8_layTried 142 = .ok (.iadd, 1) := by decide +kernel
theorem dX8_layTried_143 : decode cX8_layTried 143 = .ok (.aload_n 0, 1) := by decide +kernel
theorem dX8_layTried_144 : decode cX8_layTried 144 = .ok (.getfield 106, 3) := by decide +kernel
theorem dX8_layTried_147 : decode cX8_layTried 147 = .ok (.iload_n 1, 1) := by decide +kernel
theorem dX8_layTried_148 : decode cX8_layTried 148 = .ok (.iaload, 1) := by decide +kernel
theorem dX8_layTried_149 : decode cX8_layTried 149 = .ok (.iastore, 1) := by decide +kernel
theorem dX8_layTried_150 : decode cX8_layTried 150 = .ok (.iinc 1 1, 3) := by decide +kernel
theorem dX8_layTried_153 : decode cX8_layTried 153 = .ok (.goto (-24), 3) := by decide +kernel
theorem dX8_layTried_156 : decode cX8_layTried 156 = .ok (.aload_n 0, 1) := by decide +kernel
theorem dX8_layTried_157 : decode cX8_layTried 157 = .ok (.getfield 109, 3) := by decide +kernel
theorem dX8_layTried_160 : decode cX8_layTried 160 = .ok (.iconst 1, 1) := by decide +kernel
theorem dX8_layTried_161 : decode cX8_layTried 161 = .ok (.aload_n 0, 1) := by decide +kernel
theorem dX8_layTried_162 : decode cX8_layTried 162 = .ok (.getfield 109, 3) := by decide +kernel
theorem dX8_layTried_165 : decode cX8_layTried 165 = .ok (.iconst 0, 1) := by decide +kernel
theorem dX8_layTried_166 : decode cX8_layTried 166 = .ok (.iaload, 1) := by decide +kernel
theorem dX8_layTried_167 : decode cX8_layTried 167 = .ok (.iastore, 1) := by decide +kernel
theorem dX8_layTried_168 : decode cX8_layTried 168 = .ok (.aload_n 0, 1) := by decide +kernel
theorem dX8_layTried_169 : decode cX8_layTried 169 = .ok (.getfield 112, 3) := by decide +kernel
theorem dX8_layTried_172 : decode cX8_layTried 172 = .ok (.iconst 1, 1) := by decide +kernel
theorem dX8_layTried_173 : decode cX8_layTried 173 = .ok (.aload_n 0, 1) := by decide +kernel
theorem dX8_layTried_174 : decode cX8_layTried 174 = .ok (.getfield 112, 3) := by decide +kernel
theorem dX8_layTried_177 : decode cX8_layTried 177 = .ok (.iconst 0, 1) := by decide +kernel
theorem dX8_layTried_178 : decode cX8_layTried 178 = .ok (.iaload, 1) := by decide +kernel
theorem dX8_layTried_179 : decode cX8_layTried 179 = .ok (.iastore, 1) := by decide +kernel
theorem dX8_layTried_180 : decode cX8_layTried 180 = .ok (.aload_n 0, 1) := by decide +kernel
theorem dX8_layTried_181 : decode cX8_layTried 181 = .ok (.getfield 115, 3) := by decide +kernel
theorem dX8_layTried_184 : decode cX8_layTried 184 = .ok (.iconst 1, 1) := by decide +kernel
theorem dX8_layTried_185 : decode cX8_layTried 185 = .ok (.aload_n 0, 1) := by decide +kernel
theorem dX8_layTried_186 : decode cX8_layTried 186 = .ok (.getfield 115, 3) := by decide +kernel
theorem dX8_layTried_189 : decode cX8_layTried 189 = .ok (.iconst 0, 1) := by decide +kernel
theorem dX8_layTried_190 : decode cX8_layTried 190 = .ok (.iaload, 1) := by decide +kernel
theorem dX8_layTried_191 : decode cX8_layTried 191 = .ok (.iastore, 1) := by decide +kernel
theorem dX8_layTried_192 : decode cX8_layTried 192 = .ok (.aload_n 0, 1) := by decide +kernel
theorem dX8_layTried_193 : decode cX8_layTried 193 = .ok (.invokevirtual 370, 3) := by decide +kernel
theorem dX8_layTried_196 : decode cX8_layTried 196 = .ok (.return_, 1) := by decide +kernel
theorem dX8_isStripe_0 : decode cX8_isStripe 0 = .ok (.iload_n 1, 1) := by decide +kernel
theorem dX8_isStripe_1 : decode cX8_isStripe 1 = .ok (.ifCond .lt 15, 3) := by decide +kernel
theorem dX8_isStripe_4 : decode cX8_isStripe 4 = .ok (.iload_n 1, 1) := by decide +kernel
theorem dX8_isStripe_5 : decode cX8_isStripe 5 = .ok (.aload_n 0, 1) := by decide +kernel
theorem dX8_isStripe_6 : decode cX8_isStripe 6 = .ok (.getfield 243, 3) := by decide +kernel
theorem dX8_isStripe_9 : decode cX8_isStripe 9 = .ok (.if_icmp .ge 7, 3) := by decide +kernel
theorem dX8_isStripe_12 : decode cX8_isStripe 12 = .ok (.iconst 1, 1) := by decide +kernel
theorem dX8_isStripe_13 : decode cX8_isStripe 13 = .ok (.goto 4, 3) := by decide +kernel
theorem dX8_isStripe_16 : decode cX8_isStripe 16 = .ok (.iconst 0, 1) := by decide +kernel
theorem dX8_isStripe_17 : decode cX8_isStripe 17 = .ok (.ireturn, 1) := by decide +kernel
theorem dX8_isCroft_0 : decode cX8_isCroft 0 = .ok (.iload_n 1, 1) := by decide +kernel
theorem dX8_isCroft_1 : decode cX8_isCroft 1 = .ok (.ifCond .lt 15, 3) := by decide +kernel
theorem dX8_isCroft_4 : decode cX8_isCroft 4 = .ok (.iload_n 1, 1) := by decide +kernel
theorem dX8_isCroft_5 : decode cX8_isCroft 5 = .ok (.aload_n 0, 1) := by decide +kernel
theorem dX8_isCroft_6 : decode cX8_isCroft 6 = .ok (.getfield 246, 3) := by decide +kernel
theorem dX8_isCroft_9 : decode cX8_isCroft 9 = .ok (.if_icmp .ge 7, 3) := by decide +kernel
theorem dX8_isCroft_12 : decode cX8_isCroft 12 = .ok (.iconst 1, 1) := by decide +kernel
theorem dX8_isCroft_13 : decode cX8_isCroft 13 = .ok (.goto 4, 3) := by decide +kernel
theorem dX8_isCroft_16 : decode cX8_isCroft 16 = .ok (.iconst 0, 1) := by decide +kernel
theorem dX8_isCroft_17 : decode cX8_isCroft 17 = .ok (.ireturn, 1) := by decide +kernel
theorem dX8_isField_0 : decode cX8_isField 0 = .ok (.iload_n 1, 1) := by decide +kernel
theorem dX8_isField_1 : decode cX8_isField 1 = .ok (.ifCond .lt 15, 3) := by decide +kernel
theorem dX8_isField_4 : decode cX8_isField 4 = .ok (.iload_n 1, 1) := by decide +kernel
theorem dX8_isField_5 : decode cX8_isField 5 = .ok (.aload_n 0, 1) := by decide +kernel
theorem dX8_isField_6 : decode cX8_isField 6 = .ok (.getfield 249, 3) := by decide +kernel
theorem dX8_isField_9 : decode cX8_isField 9 = .ok (.if_icmp .ge 7, 3) := by decide +kernel
theorem dX8_isField_12 : decode cX8_isField 12 = .ok (.iconst 1, 1) := by decide +kernel
theorem dX8_isField_13 : decode cX8_isField 13 = .ok (.goto 4, 3) := by decide +kernel
theorem dX8_isField_16 : decode cX8_isField 16 = .ok (.iconst 0, 1) := by decide +kernel
theorem dX8_isField_17 : decode cX8_isField 17 = .ok (.ireturn, 1) := by decide +kernel
theorem dX8_layNames_0 : decode cX8_layNames 0 = .ok (.aload_n 0, 1) := by decide +kernel
theorem dX8_layNames_1 : decode cX8_layNames 1 = .ok (.getfield 78, 3) := by decide +kernel
theorem dX8_layNames_4 : decode cX8_layNames 4 = .ok (.iconst 0, 1) := by decide +kernel
theorem dX8_layNames_5 : decode cX8_layNames 5 = .ok (.iload_n 2, 1) := by decide +kernel
theorem dX8_layNames_6 : decode cX8_layNames 6 = .ok (.i2l, 1) := by decide +kernel
theorem dX8_layNames_7 : decode cX8_layNames 7 = .ok (.lastore, 1) := by decide +kernel
theorem dX8_layNames_8 : decode cX8_layNames 8 = .ok (.aload_n 0, 1) := by decide +kernel
theorem dX8_layNames_9 : decode cX8_layNames 9 = .ok (.getfield 78, 3) := by decide +kernel
theorem dX8_layNames_12 : decode cX8_layNames 12 = .ok (.iconst 1, 1) := by decide +kernel
theorem dX8_layNames_13 : decode cX8_layNames 13 = .ok (.iload_n 3, 1) := by decide +kernel
theorem dX8_layNames_14 : decode cX8_layNames 14 = .ok (.ifCond .ge 7, 3) := by decide +kernel
theorem dX8_layNames_17 : decode cX8_layNames 17 = .ok (.lconst 0, 1) := by decide +kernel
theorem dX8_layNames_18 : decode cX8_layNames 18 = .ok (.goto 14, 3) := by decide +kernel
theorem dX8_layNames_21 : decode cX8_layNames 21 = .ok (.aload_n 0, 1) := by decide +kernel
theorem dX8_layNames_22 : decode cX8_layNames 22 = .ok (.getfield 91, 3) := by decide +kernel
theorem dX8_layNames_25 : decode cX8_layNames 25 = .ok (.iconst 4, 1) := by decide +kernel
theorem dX8_layNames_26 : decode cX8_layNames 26 = .ok (.iload_n 1, 1) := by decide +kernel
theorem dX8_layNames_27 : decode cX8_layNames 27 = .ok (.imul, 1) := by decide +kernel
theorem dX8_layNames_28 : decode cX8_layNames 28 = .ok (.iload_n 3, 1) := by decide +kernel
theorem dX8_layNames_29 : decode cX8_layNames 29 = .ok (.iadd, 1) := by decide +kernel
theorem dX8_layNames_30 : decode cX8_layNames 30 = .ok (.iaload, 1) := by decide +kernel
theorem dX8_layNames_31 : decode cX8_layNames 31 = .ok (.i2l, 1) := by decide +kernel
theorem dX8_layNames_32 : decode cX8_layNames 32 = .ok (.lastore, 1) := by decide +kernel
theorem dX8_layNames_33 : decode cX8_layNames 33 = .ok (.aload_n 0, 1) := by decide +kernel
theorem dX8_layNames_34 : decode cX8_layNames 34 = .ok (.getfield 78, 3) := by decide +kernel
theorem dX8_layNames_37 : decode cX8_layNames 37 = .ok (.iconst 2, 1) := by decide +kernel
theorem dX8_layNames_38 : decode cX8_layNames 38 = .ok (.iload_n 3, 1) := by decide +kernel
theorem dX8_layNames_39 : decode cX8_layNames 39 = .ok (.ifCond .lt 10, 3) := by decide +kernel
theorem dX8_layNames_42 : decode cX8_layNames 42 = .ok (.aload_n 0, 1) := by decide +kernel
theorem dX8_layNames_43 : decode cX8_layNames 43 = .ok (.getfield 385, 3) := by decide +kernel
theorem dX8_layNames_46 : decode cX8_layNames 46 = .ok (.ifCond .eq 7, 3) := by decide +kernel
theorem dX8_layNames_49 : decode cX8_layNames 49 = .ok (.lconst 0, 1) := by decide +kernel
theorem dX8_layNames_50 : decode cX8_layNames 50 = .ok (.goto 10, 3) := by decide +kernel
theorem dX8_layNames_53 : decode cX8_layNames 53 = .ok (.aload_n 0, 1) := by decide +kernel
theorem dX8_layNames_54 : decode cX8_layNames 54 = .ok (.getfield 36, 3) := by decide +kernel
theorem dX8_layNames_57 : decode cX8_layNames 57 = .ok (.iload_n 3, 1) := by decide +kernel
theorem dX8_layNames_58 : decode cX8_layNames 58 = .ok (.iaload, 1) := by decide +kernel
theorem dX8_layNames_59 : decode cX8_layNames 59 = .ok (.i2l, 1) := by decide +kernel
theorem dX8_layNames_60 : decode cX8_layNames 60 = .ok (.lastore, 1) := by decide +kernel
theorem dX8_layNames_61 : decode cX8_layNames 61 = .ok (.aload_n 0, 1) := by decide +kernel
theorem dX8_layNames_62 : decode cX8_layNames 62 = .ok (.getfield 78, 3) := by decide +kernel
theorem dX8_layNames_65 : decode cX8_layNames 65 = .ok (.iconst 3, 1) := by decide +kernel
theorem dX8_layNames_66 : decode cX8_layNames 66 = .ok (.aload_n 0, 1) := by decide +kernel
theorem dX8_layNames_67 : decode cX8_layNames 67 = .ok (.getfield 115, 3) := by decide +kernel
theorem dX8_layNames_70 : decode cX8_layNames 70 = .ok (.iload_n 1, 1) := by decide +kernel
theorem dX8_layNames_71 : decode cX8_layNames 71 = .ok (.iaload, 1) := by decide +kernel
theorem dX8_layNames_72 : decode cX8_layNames 72 = .ok (.bipush 24, 2) := by decide +kernel
theorem dX8_layNames_74 : decode cX8_layNames 74 = .ok (.irem, 1) := by decide +kernel
theorem dX8_layNames_75 : decode cX8_layNames 75 = .ok (.i2l, 1) := by decide +kernel
theorem dX8_layNames_76 : decode cX8_layNames 76 = .ok (.lastore, 1) := by decide +kernel
theorem dX8_layNames_77 : decode cX8_layNames 77 = .ok (.aload_n 0, 1) := by decide +kernel
theorem dX8_layNames_78 : decode cX8_layNames 78 = .ok (.getfield 78, 3) := by decide +kernel
theorem dX8_layNames_81 : decode cX8_layNames 81 = .ok (.iconst 4, 1) := by decide +kernel
theorem dX8_layNames_82 : decode cX8_layNames 82 = .ok (.lconst 0, 1) := by decide +kernel
theorem dX8_layNames_83 : decode cX8_layNames 83 = .ok (.lastore, 1) := by decide +kernel
theorem dX8_layNames_84 : decode cX8_layNames 84 = .ok (.aload_n 0, 1) := by decide +kernel
theorem dX8_layNames_85 : decode cX8_layNames 85 = .ok (.getfield 78, 3) := by decide +kernel
theorem dX8_layNames_88 : decode cX8_layNames 88 = .ok (.iconst 5, 1) := by decide +kernel
theorem dX8_layNames_89 : decode cX8_layNames 89 = .ok (.lconst 0, 1) := by decide +kernel
theorem dX8_layNames_90 : decode cX8_layNames 90 = .ok (.lastore, 1) := by decide +kernel
theorem dX8_layNames_91 : decode cX8_layNames 91 = .ok (.aload_n 0, 1) := by decide +kernel
theorem dX8_layNames_92 : decode cX8_layNames 92 = .ok (.getfield 78, 3) := by decide +kernel
theorem dX8_layNames_95 : decode cX8_layNames 95 = .ok (.bipush 6, 2) := by decide +kernel
theorem dX8_layNames_97 : decode cX8_layNames 97 = .ok (.lconst 0, 1) := by decide +kernel
theorem dX8_layNames_98 : decode cX8_layNames 98 = .ok (.lastore, 1) := by decide +kernel
theorem dX8_layNames_99 : decode cX8_layNames 99 = .ok (.return_, 1) := by decide +kernel
theorem dX8_layField_0 : decode cX8_layField 0 = .ok (.aload_n 0, 1) := by decide +kernel
theorem dX8_layField_1 : decode cX8_layField 1 = .ok (.iload_n 1, 1) := by decide +kernel
theorem dX8_layField_2 : decode cX8_layField 2 = .ok (.iconst 0, 1) := by decide +kernel
theorem dX8_layField_3 : decode cX8_layField 3 = .ok (.aload_n 0, 1) := by decide +kernel
theorem dX8_layField_4 : decode cX8_layField 4 = .ok (.getfield 42, 3) := by decide +kernel
theorem dX8_layField_7 : decode cX8_layField 7 = .ok (.iload_n 2, 1) := by decide +kernel
theorem dX8_layField_8 : decode cX8_layField 8 = .ok (.iaload, 1) := by decide +kernel
theorem dX8_layField_9 : decode cX8_layField 9 = .ok (.invokevirtual 391, 3) := by decide +kernel
theorem dX8_layField_12 : decode cX8_layField 12 = .ok (.aload_n 0, 1) := by decide +kernel
theorem dX8_layField_13 : decode cX8_layField 13 = .ok (.getfield 78, 3) := by decide +kernel
theorem dX8_layField_16 : decode cX8_layField 16 = .ok (.iconst 4, 1) := by decide +kernel
theorem dX8_layField_17 : decode cX8_layField 17 = .ok (.aload_n 0, 1) := by decide +kernel
theorem dX8_layField_18 : decode cX8_layField 18 = .ok (.getfield 106, 3) := by decide +kernel
theorem dX8_layField_21 : decode cX8_layField 21 = .ok (.bipush 6, 2) := by decide +kernel
theorem dX8_layField_23 : decode cX8_layField 23 = .ok (.iload_n 1, 1) := by decide +kernel
theorem dX8_layField_24 : decode cX8_layField 24 = .ok (.imul, 1) := by decide +kernel
theorem dX8_layField_25 : decode cX8_layField 25 = .ok (.iload_n 2, 1) := by decide +kernel
theorem dX8_layField_26 : decode cX8_layField 26 = .ok (.iadd, 1) := by decide +kernel
theorem dX8_layField_27 : decode cX8_layField 27 = .ok (.iaload, 1) := by decide +kernel
theorem dX8_layField_28 : decode cX8_layField 28 = .ok (.i2l, 1) := by decide +kernel
theorem dX8_layField_29 : decode cX8_layField 29 = .ok (.lastore, 1) := by decide +kernel
theorem dX8_layField_30 : decode cX8_layField 30 = .ok (.aload_n 0, 1) := by decide +kernel
theorem dX8_layField_31 : decode cX8_layField 31 = .ok (.getfield 78, 3) := by decide +kernel
theorem dX8_layField_34 : decode cX8_layField 34 = .ok (.iconst 5, 1) := by decide +kernel
theorem dX8_layField_35 : decode cX8_layField 35 = .ok (.aload_n 0, 1) := by decide +kernel
theorem dX8_layField_36 : decode cX8_layField 36 = .ok (.getfield 45, 3) := by decide +kernel
theorem dX8_layField_39 : decode cX8_layField 39 = .ok (.iload_n 2, 1) := by decide +kernel
theorem dX8_layField_40 : decode cX8_layField 40 = .ok (.iaload, 1) := by decide +kernel
theorem dX8_layField_41 : decode cX8_layField 41 = .ok (.i2l, 1) := by decide +kernel
theorem dX8_layField_42 : decode cX8_layField 42 = .ok (.lastore, 1) := by decide +kernel
theorem dX8_layField_43 : decode cX8_layField 43 = .ok (.aload_n 0, 1) := by decide +kernel
theorem dX8_layField_44 : decode cX8_layField 44 = .ok (.getfield 78, 3) := by decide +kernel
theorem dX8_layField_47 : decode cX8_layField 47 = .ok (.bipush 6, 2) := by decide +kernel
theorem dX8_layField_49 : decode cX8_layField 49 = .ok (.aload_n 0, 1) := by decide +kernel
theorem dX8_layField_50 : decode cX8_layField 50 = .ok (.getfield 48, 3) := by decide +kernel
theorem dX8_layField_53 : decode cX8_layField 53 = .ok (.iload_n 2, 1) := by decide +kernel
theorem dX8_layField_54 : decode cX8_layField 54 = .ok (.iaload, 1) := by decide +kernel
theorem dX8_layField_55 : decode cX8_layField 55 = .ok (.i2l, 1) := by decide +kernel
theorem dX8_layField_56 : decode cX8_layField 56 = .ok (.lastore, 1) := by decide +kernel
theorem dX8_layField_57 : decode cX8_layField 57 = .ok (.return_, 1) := by decide +kernel
theorem dX8_lawOf_0 : decode cX8_lawOf 0 = .ok (.aload_n 0, 1) := by decide +kernel
theorem dX8_lawOf_1 : decode cX8_lawOf 1 = .ok (.iconst 0, 1) := by decide +kernel
theorem dX8_lawOf_2 : decode cX8_lawOf 2 = .ok (.putfield 341, 3) := by decide +kernel
theorem dX8_lawOf_5 : decode cX8_lawOf 5 = .ok (.aload_n 0, 1) := by decide +kernel
theorem dX8_lawOf_6 : decode cX8_lawOf 6 = .ok (.getfield 57, 3) := by decide +kernel
theorem dX8_lawOf_9 : decode cX8_lawOf 9 = .ok (.iload_n 1, 1) := by decide +kernel
theorem dX8_lawOf_10 : decode cX8_lawOf 10 = .ok (.iaload, 1) := by decide +kernel
theorem dX8_lawOf_11 : decode cX8_lawOf 11 = .ok (.istore_n 2, 1) := by decide +kernel
theorem dX8_lawOf_12 : decode cX8_lawOf 12 = .ok (.iload_n 2, 1) := by decide +kernel
theorem dX8_lawOf_13 : decode cX8_lawOf 13 = .ok (.aload_n 0, 1) := by decide +kernel
theorem dX8_lawOf_14 : decode cX8_lawOf 14 = .ok (.getfield 60, 3) := by decide +kernel
theorem dX8_lawOf_17 : decode cX8_lawOf 17 = .ok (.iload_n 1, 1) := by decide +kernel
theorem dX8_lawOf_18 : decode cX8_lawOf 18 = .ok (.iaload, 1) := by decide +kernel
theorem dX8_lawOf_19 : decode cX8_lawOf 19 = .ok (.if_icmp .ge 20, 3) := by decide +kernel
theorem dX8_lawOf_22 : decode cX8_lawOf 22 = .ok (.aload_n 0, 1) := by decide +kernel
theorem dX8_lawOf_23 : decode cX8_lawOf 23 = .ok (.getfield 82, 3) := by decide +kernel
theorem dX8_lawOf_26 : decode cX8_lawOf 26 = .ok (.iload_n 2, 1) := by decide +kernel
theorem dX8_lawOf_27 : decode cX8_lawOf 27 = .ok (.aload_n 0, 1) := by decide +kernel
theorem dX8_lawOf_28 : decode cX8_lawOf 28 = .ok (.iload_n 2, 1) := by decide +kernel
theorem dX8_lawOf_29 : decode cX8_lawOf 29 = .ok (.invokevirtual 394, 3) := by decide +kernel
theorem dX8_lawOf_32 : decode cX8_lawOf 32 = .ok (.lastore, 1) := by decide +kernel
theorem dX8_lawOf_33 : decode cX8_lawOf 33 = .ok (.iinc 2 1, 3) := by decide +kernel
theorem dX8_lawOf_36 : decode cX8_lawOf 36 = .ok (.goto (-24), 3) := by decide +kernel
theorem dX8_lawOf_39 : decode cX8_lawOf 39 = .ok (.aload_n 0, 1) := by decide +kernel
theorem dX8_lawOf_40 : decode cX8_lawOf 40 = .ok (.getfield 341, 3) := by decide +kernel
theorem dX8_lawOf_43 : decode cX8_lawOf 43 = .ok (.ifCond .eq 7, 3) := by decide +kernel
theorem dX8_lawOf_46 : decode cX8_lawOf 46 = .ok (.lconst 0, 1) := by decide +kernel
theorem dX8_lawOf_47 : decode cX8_lawOf 47 = .ok (.goto 16, 3) := by decide +kernel
theorem dX8_lawOf_50 : decode cX8_lawOf 50 = .ok (.aload_n 0, 1) := by decide +kernel
theorem dX8_lawOf_51 : decode cX8_lawOf 51 = .ok (.getfield 82, 3) := by decide +kernel
theorem dX8_lawOf_54 : decode cX8_lawOf 54 = .ok (.aload_n 0, 1) := by decide +kernel
theorem dX8_lawOf_55 : decode cX8_lawOf 55 = .ok (.getfield 60, 3) := by decide +kernel
theorem dX8_lawOf_58 : decode cX8_lawOf 58 = .ok (.iload_n 1, 1) := by decide +kernel
theorem dX8_lawOf_59 : decode cX8_lawOf 59 = .ok (.iaload, 1) := by decide +kernel
theorem dX8_lawOf_60 : decode cX8_lawOf 60 = .ok (.iconst 1, 1) := by decide +kernel
theorem dX8_lawOf_61 : decode cX8_lawOf 61 = .ok (.isub, 1) := by decide +kernel
theorem dX8_lawOf_62 : decode cX8_lawOf 62 = .ok (.laload, 1) := by decide +kernel
theorem dX8_lawOf_63 : decode cX8_lawOf 63 = .ok (.lreturn, 1) := by decide +kernel
def f_X8_layTried_129 (r129 : Int32 → Hp → Option Hp) (v5 : Int32) (h6 : Hp) : Option Hp :=
  if 6 ≤ v5 then
    grd (inb 0 2) <|
    grd (inb 1 2) <| lt_ (sA h6 8 0 31 (1 : Int32).toNatClampNeg (gA h6 8 0 31 (0 : Int32).toNatClampNeg)) fun h7 =>
    grd (inb 0 2) <|
    grd (inb 1 2) <| lt_ (sA h7 8 0 32 (1 : Int32).toNatClampNeg (gA h7 8 0 32 (0 : Int32).toNatClampNeg)) fun h8 =>
    grd (inb 0 2) <|
    grd (inb 1 2) <| lt_ (sA h8 8 0 33 (1 : Int32).toNatClampNeg (gA h8 8 0 33 (0 : Int32).toNatClampNeg)) fun h9 =>
    (f_X8_plainTried h9).bind fun h10 =>
    some h10
  else
  grd (inb v5 12) <|
  grd (inb (6 + v5) 12) <| lt_ (sA h6 8 0 30 (6 + v5).toNatClampNeg (gA h6 8 0 30 v5.toNatClampNeg)) fun h11 =>
  lt_ (v5 + 1) fun v12 =>
  r129 v12 h11
def f_X8_layTried_46 (N : Nat) (r46 : Int32 → Hp → Option Hp) (v3 : Int32) (h4 : Hp) : Option Hp :=
  if 4 ≤ v3 then
    iter (fun _ _ => none) f_X8_layTried_129 N 0 h4
  else
  grd (inb v3 8) <|
  grd (inb (4 + v3) 8) <| lt_ (sA h4 8 0 25 (4 + v3).toNatClampNeg (gA h4 8 0 25 v3.toNatClampNeg)) fun h13 =>
  grd (inb v3 8) <|
  grd (inb (4 + v3) 8) <| lt_ (sA h13 8 0 26 (4 + v3).toNatClampNeg (gA h13 8 0 26 v3.toNatClampNeg)) fun h14 =>
  grd (inb v3 8) <|
  grd (inb (4 + v3) 8) <| lt_ (sA h14 8 0 27 (4 + v3).toNatClampNeg (gA h14 8 0 27 v3.toNatClampNeg)) fun h15 =>
  grd (inb v3 8) <|
  grd (inb (4 + v3) 8) <| lt_ (sA h15 8 0 28 (4 + v3).toNatClampNeg (gA h15 8 0 28 v3.toNatClampNeg)) fun h16 =>
  grd (inb v3 8) <|
  grd (inb (4 + v3) 8) <| lt_ (sA h16 8 0 29 (4 + v3).toNatClampNeg (gA h16 8 0 29 v3.toNatClampNeg)) fun h17 =>
  lt_ (v3 + 1) fun v18 =>
  r46 v18 h17
def f_X8_layTried_2 (N : Nat) (r2 : Int32 → Hp → Option Hp) (v1 : Int32) (h2 : Hp) : Option Hp :=
  if 8 ≤ v1 then
    iter (fun _ _ => none) (f_X8_layTried_46 N) N 0 h2
  else
  grd (inb v1 16) <|
  grd (inb (8 + v1) 16) <| lt_ (sA h2 8 0 23 (8 + v1).toNatClampNeg (gA h2 8 0 23 v1.toNatClampNeg)) fun h19 =>
  grd (inb v1 16) <|
  grd (inb (8 + v1) 16) <| lt_ (sA h19 8 0 24 (8 + v1).toNatClampNeg (gA h19 8 0 24 v1.toNatClampNeg)) fun h20 =>
  lt_ (v1 + 1) fun v21 =>
  r2 v21 h20
def f_X8_layTried (N : Nat) (h : Hp) : Option Hp :=
  iter (fun _ _ => none) (f_X8_layTried_2 N) N 0 h
abbrev rmX8_layTried : Room := { frames := 1, cells := 0, slots := 0, locals := 20 }
set_option maxRecDepth 100000 in
set_option maxHeartbeats 4000000 in
theorem w_X8_layTried (X : Cx) (F : Fx X cX8_layTried RX8 none rmX8_layTried) (hA : xA X = Aw (xG X)) (hL : xL X = 2) (N : Nat) (h : Hp) : Wm X (fun _ => none) (fun v => v) (fun _ => True) 0 [(0, .ref (adr (xG X) 8 0 0))] [] h (f_X8_layTried N h) := by
  have hS : ∀ i : Nat, i < 2 → i < xL X := fun i z => by rw [hL]; exact z
  unfold f_X8_layTried
  refine r_iconst F (v := 0) dX8_layTried_0 (by decide) ?_
  refine r_istore_n F [(1, .int 0), (0, .ref (adr (xG X) 8 0 0))] rfl dX8_layTried_1 rfl (hS _ (by decide)) ?_
  have hl2 : ∀ n : Nat, ∀ v1 : Int32, ∀ h2 : Hp, Wm X (fun _ => none) (fun v => v) (fun _ => True) 2 [(0, .ref (adr (xG X) 8 0 0)), (1, .int v1)] [] h2 (iter (fun _ _ => none) (f_X8_layTried_2 N) n v1 h2) := by
    intro n
    induction n with
    | zero => intro v1 h2; exact Wt_none
    | succ n ih =>
      revert ih
      show (∀ v1 : Int32, ∀ h2 : Hp, Wm X (fun _ => none) (fun v => v) (fun _ => True) 2 [(0, .ref (adr (xG X) 8 0 0)), (1, .int v1)] [] h2 (iter (fun _ _ => none) (f_X8_layTried_2 N) n v1 h2)) → _
      intro ih2 v1 h2
      show Wm X (fun _ => none) (fun v => v) (fun _ => True) 2 [(0, .ref (adr (xG X) 8 0 0)), (1, .int v1)] [] h2 (f_X8_layTried_2 N (iter (fun _ _ => none) (f_X8_layTried_2 N) n) v1 h2)
      revert ih2
      generalize iter (fun _ _ => none) (f_X8_layTried_2 N) n = r2
      intro ih2
      unfold f_X8_layTried_2
      refine r_iload_n F 1 rfl dX8_layTried_2 rfl ?_
      refine r_bipush F (v := 8) dX8_layTried_3 (by decide) ?_
      refine r_icmpge F (tgt := 44) dX8_layTried_5 (by decide) ?_ ?_
      · skip
        refine r_iconst F (v := 0) dX8_layTried_44 (by decide) ?_
        refine r_istore_n F [(1, .int 0), (0, .ref (adr (xG X) 8 0 0))] rfl dX8_layTried_45 rfl (hS _ (by decide)) ?_
        have hl46 : ∀ n : Nat, ∀ v3 : Int32, ∀ h4 : Hp, Wm X (fun _ => none) (fun v => v) (fun _ => True) 46 [(0, .ref (adr (xG X) 8 0 0)), (1, .int v3)] [] h4 (iter (fun _ _ => none) (f_X8_layTried_46 N) n v3 h4) := by
          intro n
          induction n with
          | zero => intro v3 h4; exact Wt_none
          | succ n ih =>
            revert ih
            show (∀ v3 : Int32, ∀ h4 : Hp, Wm X (fun _ => none) (fun v => v) (fun _ => True) 46 [(0, .ref (adr (xG X) 8 0 0)), (1, .int v3)] [] h4 (iter (fun _ _ => none) (f_X8_layTried_46 N) n v3 h4)) → _
            intro ih46 v3 h4
            show Wm X (fun _ => none) (fun v => v) (fun _ => True) 46 [(0, .ref (adr (xG X) 8 0 0)), (1, .int v3)] [] h4 (f_X8_layTried_46 N (iter (fun _ _ => none) (f_X8_layTried_46 N) n) v3 h4)
            revert ih46
            generalize iter (fun _ _ => none) (f_X8_layTried_46 N) n = r46
            intro ih46
            unfold f_X8_layTried_46
            refine r_iload_n F 1 rfl dX8_layTried_46 rfl ?_
            refine r_iconst F (v := 4) dX8_layTried_47 (by decide) ?_
            refine r_icmpge F (tgt := 127) dX8_layTried_48 (by decide) ?_ ?_
            · skip
              refine r_iconst F (v := 0) dX8_layTried_127 (by decide) ?_
              refine r_istore_n F [(1, .int 0), (0, .ref (adr (xG X) 8 0 0))] rfl dX8_layTried_128 rfl (hS _ (by decide)) ?_
              have hl129 : ∀ n : Nat, ∀ v5 : Int32, ∀ h6 : Hp, Wm X (fun _ => none) (fun v => v) (fun _ => True) 129 [(0, .ref (adr (xG X) 8 0 0)), (1, .int v5)] [] h6 (iter (fun _ _ => none) f_X8_layTried_129 n v5 h6) := by
                intro n
                induction n with
                | zero => intro v5 h6; exact Wt_none
                | succ n ih =>
                  revert ih
                  show (∀ v5 : Int32, ∀ h6 : Hp, Wm X (fun _ => none) (fun v => v) (fun _ => True) 129 [(0, .ref (adr (xG X) 8 0 0)), (1, .int v5)] [] h6 (iter (fun _ _ => none) f_X8_layTried_129 n v5 h6)) → _
                  intro ih129 v5 h6
                  show Wm X (fun _ => none) (fun v => v) (fun _ => True) 129 [(0, .ref (adr (xG X) 8 0 0)), (1, .int v5)] [] h6 (f_X8_layTried_129 (iter (fun _ _ => none) f_X8_layTried_129 n) v5 h6)
                  revert ih129
                  generalize iter (fun _ _ => none) f_X8_layTried_129 n = r129
                  intro ih129
                  unfold f_X8_layTried_129
                  refine r_iload_n F 1 rfl dX8_layTried_129 rfl ?_
                  refine r_bipush F (v := 6) dX8_layTried_130 (by decide) ?_
                  refine r_icmpge F (tgt := 156) dX8_layTried_132 (by decide) ?_ ?_
                  · skip
                    refine r_aload_n F 0 rfl dX8_layTried_156 rfl ?_
                    refine r_getA F frX8_109 (by decide) dX8_layTried_157 ?_
                    refine r_iconst F (v := 1) dX8_layTried_160 (by decide) ?_
                    refine r_aload_n F 0 rfl dX8_layTried_161 rfl ?_
                    refine r_getA F frX8_109 (by decide) dX8_layTried_162 ?_
                    refine r_iconst F (v := 0) dX8_layTried_165 (by decide) ?_
                    refine r_iaload F (ar_8_31 0 (by decide)) dX8_layTried_166 ?_
                    refine r_iastore F (ar_8_31 0 (by decide)) dX8_layTried_167 fun h7 => ?_
                    refine r_aload_n F 0 rfl dX8_layTried_168 rfl ?_
                    refine r_getA F frX8_112 (by decide) dX8_layTried_169 ?_
                    refine r_iconst F (v := 1) dX8_layTried_172 (by decide) ?_
                    refine r_aload_n F 0 rfl dX8_layTried_173 rfl ?_
                    refine r_getA F frX8_112 (by decide) dX8_layTried_174 ?_
                    refine r_iconst F (v := 0) dX8_layTried_177 (by decide) ?_
                    refine r_iaload F (ar_8_32 0 (by decide)) dX8_layTried_178 ?_
                    refine r_iastore F (ar_8_32 0 (by decide)) dX8_layTried_179 fun h8 => ?_
                    refine r_aload_n F 0 rfl dX8_layTried_180 rfl ?_
                    refine r_getA F frX8_115 (by decide) dX8_layTried_181 ?_
                    refine r_iconst F (v := 1) dX8_layTried_184 (by decide) ?_
                    refine r_aload_n F 0 rfl dX8_layTried_185 rfl ?_
                    refine r_getA F frX8_115 (by decide) dX8_layTried_186 ?_
                    refine r_iconst F (v := 0) dX8_layTried_189 (by decide) ?_
                    refine r_iaload F (ar_8_33 0 (by decide)) dX8_layTried_190 ?_
                    refine r_iastore F (ar_8_33 0 (by decide)) dX8_layTried_191 fun h9 => ?_
                    refine r_aload_n F 0 rfl dX8_layTried_192 rfl ?_
                    refine k_vH (run_V F cvX8_370 (by decide) (c_X8_plainTried (xG X) _ h9) rfl rfl ⟨⟨rfl, rfl⟩, Nat.le_of_ble_eq_true rfl, Nat.le_of_ble_eq_true rfl⟩ (Nat.le_of_ble_eq_true rfl) dX8_layTried_193) fun h10 => ?_
                    exact r_vret F hA rfl rfl trivial dX8_layTried_196
                  refine r_aload_n F 0 rfl dX8_layTried_135 rfl ?_
                  refine r_getA F frX8_106 (by decide) dX8_layTried_136 ?_
                  refine r_bipush F (v := 6) dX8_layTried_139 (by decide) ?_
                  refine r_iload_n F 1 rfl dX8_layTried_141 rfl ?_
                  refine r_iadd F dX8_layTried_142 ?_
                  refine r_aload_n F 0 rfl dX8_layTried_143 rfl ?_
                  refine r_getA F frX8_106 (by decide) dX8_layTried_144 ?_
                  refine r_iload_n F 1 rfl dX8_layTried_147 rfl ?_
                  refine r_iaload F (ar_8_30 0 (by decide)) dX8_layTried_148 ?_
                  refine r_iastore F (ar_8_30 0 (by decide)) dX8_layTried_149 fun h11 => ?_
                  refine r_iinc F (v := 1) 1 rfl (by decide) (fun v12 => [(1, .int v12), (0, .ref (adr (xG X) 8 0 0))]) (fun _ => rfl) dX8_layTried_150 (hS _ (by decide)) fun v12 => ?_
                  refine r_goto F (tgt := 129) dX8_layTried_153 (by decide) ?_
                  exact Wt_pick [1, 0] rfl (ih129 v12 h11)
              exact Wt_pick [1, 0] rfl (hl129 N 0 h4)
            refine r_aload_n F 0 rfl dX8_layTried_51 rfl ?_
            refine r_getA F frX8_91 (by decide) dX8_layTried_52 ?_
            refine r_iconst F (v := 4) dX8_layTried_55 (by decide) ?_
            refine r_iload_n F 1 rfl dX8_layTried_56 rfl ?_
            refine r_iadd F dX8_layTried_57 ?_
            refine r_aload_n F 0 rfl dX8_layTried_58 rfl ?_
            refine r_getA F frX8_91 (by decide) dX8_layTried_59 ?_
            refine r_iload_n F 1 rfl dX8_layTried_62 rfl ?_
            refine r_iaload F (ar_8_25 0 (by decide)) dX8_layTried_63 ?_
            refine r_iastore F (ar_8_25 0 (by decide)) dX8_layTried_64 fun h13 => ?_
            refine r_aload_n F 0 rfl dX8_layTried_65 rfl ?_
            refine r_getA F frX8_94 (by decide) dX8_layTried_66 ?_
            refine r_iconst F (v := 4) dX8_layTried_69 (by decide) ?_
            refine r_iload_n F 1 rfl dX8_layTried_70 rfl ?_
            refine r_iadd F dX8_layTried_71 ?_
            refine r_aload_n F 0 rfl dX8_layTried_72 rfl ?_
            refine r_getA F frX8_94 (by decide) dX8_layTried_73 ?_
            refine r_iload_n F 1 rfl dX8_layTried_76 rfl ?_
            refine r_iaload F (ar_8_26 0 (by decide)) dX8_layTried_77 ?_
            refine r_iastore F (ar_8_26 0 (by decide)) dX8_layTried_78 fun h14 => ?_
            refine r_aload_n F 0 rfl dX8_layTried_79 rfl ?_
            refine r_getA F frX8_97 (by decide) dX8_layTried_80 ?_
            refine r_iconst F (v := 4) dX8_layTried_83 (by decide) ?_
            refine r_iload_n F 1 rfl dX8_layTried_84 rfl ?_
            refine r_iadd F dX8_layTried_85 ?_
            refine r_aload_n F 0 rfl dX8_layTried_86 rfl ?_
            refine r_getA F frX8_97 (by decide) dX8_layTried_87 ?_
            refine r_iload_n F 1 rfl dX8_layTried_90 rfl ?_
            refine r_iaload F (ar_8_27 0 (by decide)) dX8_layTried_91 ?_
            refine r_iastore F (ar_8_27 0 (by decide)) dX8_layTried_92 fun h15 => ?_
            refine r_aload_n F 0 rfl dX8_layTried_93 rfl ?_
            refine r_getA F frX8_100 (by decide) dX8_layTried_94 ?_
            refine r_iconst F (v := 4) dX8_layTried_97 (by decide) ?_
            refine r_iload_n F 1 rfl dX8_layTried_98 rfl ?_
            refine r_iadd F dX8_layTried_99 ?_
            refine r_aload_n F 0 rfl dX8_layTried_100 rfl ?_
            refine r_getA F frX8_100 (by decide) dX8_layTried_101 ?_
            refine r_iload_n F 1 rfl dX8_layTried_104 rfl ?_
            refine r_iaload F (ar_8_28 0 (by decide)) dX8_layTried_105 ?_
            refine r_iastore F (ar_8_28 0 (by decide)) dX8_layTried_106 fun h16 => ?_
            refine r_aload_n F 0 rfl dX8_layTried_107 rfl ?_
            refine r_getA F frX8_103 (by decide) dX8_layTried_108 ?_
            refine r_iconst F (v := 4) dX8_layTried_111 (by decide) ?_
            refine r_iload_n F 1 rfl dX8_layTried_112 rfl ?_
            refine r_iadd F dX8_layTried_113 ?_
            refine r_aload_n F 0 rfl dX8_layTried_114 rfl ?_
            refine r_getA F frX8_103 (by decide) dX8_layTried_115 ?_
            refine r_iload_n F 1 rfl dX8_layTried_118 rfl ?_
            refine r_iaload F (ar_8_29 0 (by decide)) dX8_layTried_119 ?_
            refine r_iastore F (ar_8_29 0 (by decide)) dX8_layTried_120 fun h17 => ?_
            refine r_iinc F (v := 1) 1 rfl (by decide) (fun v18 => [(1, .int v18), (0, .ref (adr (xG X) 8 0 0))]) (fun _ => rfl) dX8_layTried_121 (hS _ (by decide)) fun v18 => ?_
            refine r_goto F (tgt := 46) dX8_layTried_124 (by decide) ?_
            exact Wt_pick [1, 0] rfl (ih46 v18 h17)
        exact Wt_pick [1, 0] rfl (hl46 N 0 h2)
      refine r_aload_n F 0 rfl dX8_layTried_8 rfl ?_
      refine r_getA F frX8_85 (by decide) dX8_layTried_9 ?_
      refine r_bipush F (v := 8) dX8_layTried_12 (by decide) ?_
      refine r_iload_n F 1 rfl dX8_layTried_14 rfl ?_
      refine r_iadd F dX8_layTried_15 ?_
      refine r_aload_n F 0 rfl dX8_layTried_16 rfl ?_
      refine r_getA F frX8_85 (by decide) dX8_layTried_17 ?_
      refine r_iload_n F 1 rfl dX8_layTried_20 rfl ?_
      refine r_iaload F (ar_8_23 0 (by decide)) dX8_layTried_21 ?_
      refine r_iastore F (ar_8_23 0 (by decide)) dX8_layTried_22 fun h19 => ?_
      refine r_aload_n F 0 rfl dX8_layTried_23 rfl ?_
      refine r_getA F frX8_88 (by decide) dX8_layTried_24 ?_
      refine r_bipush F (v := 8) dX8_layTried_27 (by decide) ?_
      refine r_iload_n F 1 rfl dX8_layTried_29 rfl ?_
      refine r_iadd F dX8_layTried_30 ?_
      refine r_aload_n F 0 rfl dX8_layTried_31 rfl ?_
      refine r_getA F frX8_88 (by decide) dX8_layTried_32 ?_
      refine r_iload_n F 1 rfl dX8_layTried_35 rfl ?_
      refine r_iaload F (ar_8_24 0 (by decide)) dX8_layTried_36 ?_
      refine r_iastore F (ar_8_24 0 (by decide)) dX8_layTried_37 fun h20 => ?_
      refine r_iinc F (v := 1) 1 rfl (by decide) (fun v21 => [(1, .int v21), (0, .ref (adr (xG X) 8 0 0))]) (fun _ => rfl) dX8_layTried_38 (hS _ (by decide)) fun v21 => ?_
      refine r_goto F (tgt := 2) dX8_layTried_41 (by decide) ?_
      exact Wt_pick [1, 0] rfl (ih2 v21 h20)
  exact Wt_pick [1, 0] rfl (hl2 N 0 h)
theorem c_X8_layTried (G : Gx) (l : Launch) (N : Nat) (h : Hp) : Ctr G l yX8_layTried (.code yX8_layTried cX8_layTried 2 none :: GT) rmX8_layTried [.ref (adr G 8 0 0)] h (f_X8_layTried N h) (fun _ => none) (fun v => v) (fun _ => True) :=
  ctr_of (by decide) (Nat.le_of_ble_eq_true rfl) ⟨rfl, rfl⟩ fun X _ e2 hA hL F => by subst e2; exact w_X8_layTried X F hA hL N h
def f_X8_isStripe (h : Hp) (p1 : Int32) : Option Bool :=
  jn (fun (v1 : Bool) =>
    some v1) fun (j17 : Bool → Option Bool) =>
  jn (
    j17 false) fun (j16 : Option Bool) =>
  if p1 < 0 then
    j16
  else
  if (gI h 8 0 12) ≤ p1 then
    j16
  else
  j17 true
abbrev rmX8_isStripe : Room := { frames := 0, cells := 0, slots := 0, locals := 0 }
set_option maxRecDepth 100000 in
set_option maxHeartbeats 4000000 in
theorem w_X8_isStripe (X : Cx) (F : Fx X cX8_isStripe RX8 (some .boolean) rmX8_isStripe) (hA : xA X = Aw (xG X)) (hL : xL X = 2) (h : Hp) (p1 : Int32) : Wm X (fun v => some (.int (b2i v))) (fun _ => h) (fun _ => True) 0 [(0, .ref (adr (xG X) 8 0 0)), (1, .int p1)] [] h (f_X8_isStripe h p1) := by
  have hS : ∀ i : Nat, i < 2 → i < xL X := fun i z => by rw [hL]; exact z
  unfold f_X8_isStripe
  refine r_iload_n F 1 rfl dX8_isStripe_0 rfl ?_
  refine Wt_jn (fun (j17 : Bool → Option Bool) => ∀ v1 : Bool, Wm X (fun v => some (.int (b2i v))) (fun _ => h) (fun _ => True) 17 [] [.int (b2i v1)] h (j17 v1)) ?_ fun j17 hj17 => ?_
  · intro v1
    exact r_zret F hA v1 rfl rfl rfl trivial dX8_isStripe_17
  refine Wt_jn (fun (j16 : Option Bool) => Wm X (fun v => some (.int (b2i v))) (fun _ => h) (fun _ => True) 16 [] [] h (j16)) ?_ fun j16 hj16 => ?_
  · skip
    refine r_iconst F (v := 0) dX8_isStripe_16 (by decide) ?_
    exact Wt_pick [] rfl (hj17 false)
  refine r_iflt F (tgt := 16) dX8_isStripe_1 (by decide) ?_ ?_
  · skip
    exact Wt_pick [] rfl (hj16)
  refine r_iload_n F 1 rfl dX8_isStripe_4 rfl ?_
  refine r_aload_n F 0 rfl dX8_isStripe_5 rfl ?_
  refine r_getI F frX8_243 (by decide) dX8_isStripe_6 ?_
  refine r_icmpge F (tgt := 16) dX8_isStripe_9 (by decide) ?_ ?_
  · skip
    exact Wt_pick [] rfl (hj16)
  refine r_iconst F (v := 1) dX8_isStripe_12 (by decide) ?_
  refine r_goto F (tgt := 17) dX8_isStripe_13 (by decide) ?_
  exact Wt_pick [] rfl (hj17 true)
theorem c_X8_isStripe (G : Gx) (l : Launch) (h : Hp) (p1 : Int32) : Ctr G l yX8_isStripe (.code yX8_isStripe cX8_isStripe 2 (some .boolean) :: GT) rmX8_isStripe [.ref (adr G 8 0 0), .int p1] h (f_X8_isStripe h p1) (fun v => some (.int (b2i v))) (fun _ => h) (fun _ => True) :=
  ctr_of (by decide) (Nat.le_of_ble_eq_true rfl) ⟨rfl, rfl⟩ fun X _ e2 hA hL F => by subst e2; exact w_X8_isStripe X F hA hL h p1
def f_X8_isCroft (h : Hp) (p1 : Int32) : Option Bool :=
  jn (fun (v1 : Bool) =>
    some v1) fun (j17 : Bool → Option Bool) =>
  jn (
    j17 false) fun (j16 : Option Bool) =>
  if p1 < 0 then
    j16
  else
  if (gI h 8 0 13) ≤ p1 then
    j16
  else
  j17 true
abbrev rmX8_isCroft : Room := { frames := 0, cells := 0, slots := 0, locals := 0 }
set_option maxRecDepth 100000 in
set_option maxHeartbeats 4000000 in
theorem w_X8_isCroft (X : Cx) (F : Fx X cX8_isCroft RX8 (some .boolean) rmX8_isCroft) (hA : xA X = Aw (xG X)) (hL : xL X = 2) (h : Hp) (p1 : Int32) : Wm X (fun v => some (.int (b2i v))) (fun _ => h) (fun _ => True) 0 [(0, .ref (adr (xG X) 8 0 0)), (1, .int p1)] [] h (f_X8_isCroft h p1) := by
  have hS : ∀ i : Nat, i < 2 → i < xL X := fun i z => by rw [hL]; exact z
  unfold f_X8_isCroft
  refine r_iload_n F 1 rfl dX8_isCroft_0 rfl ?_
  refine Wt_jn (fun (j17 : Bool → Option Bool) => ∀ v1 : Bool, Wm X (fun v => some (.int (b2i v))) (fun _ => h) (fun _ => True) 17 [] [.int (b2i v1)] h (j17 v1)) ?_ fun j17 hj17 => ?_
  · intro v1
    exact r_zret F hA v1 rfl rfl rfl trivial dX8_isCroft_17
  refine Wt_jn (fun (j16 : Option Bool) => Wm X (fun v => some (.int (b2i v))) (fun _ => h) (fun _ => True) 16 [] [] h (j16)) ?_ fun j16 hj16 => ?_
  · skip
    refine r_iconst F (v := 0) dX8_isCroft_16 (by decide) ?_
    exact Wt_pick [] rfl (hj17 false)
  refine r_iflt F (tgt := 16) dX8_isCroft_1 (by decide) ?_ ?_
  · skip
    exact Wt_pick [] rfl (hj16)
  refine r_iload_n F 1 rfl dX8_isCroft_4 rfl ?_
  refine r_aload_n F 0 rfl dX8_isCroft_5 rfl ?_
  refine r_getI F frX8_246 (by decide) dX8_isCroft_6 ?_
  refine r_icmpge F (tgt := 16) dX8_isCroft_9 (by decide) ?_ ?_
  · skip
    exact Wt_pick [] rfl (hj16)
  refine r_iconst F (v := 1) dX8_isCroft_12 (by decide) ?_
  refine r_goto F (tgt := 17) dX8_isCroft_13 (by decide) ?_
  exact Wt_pick [] rfl (hj17 true)
theorem c_X8_isCroft (G : Gx) (l : Launch) (h : Hp) (p1 : Int32) : Ctr G l yX8_isCroft (.code yX8_isCroft cX8_isCroft 2 (some .boolean) :: GT) rmX8_isCroft [.ref (adr G 8 0 0), .int p1] h (f_X8_isCroft h p1) (fun v => some (.int (b2i v))) (fun _ => h) (fun _ => True) :=
  ctr_of (by decide) (Nat.le_of_ble_eq_true rfl) ⟨rfl, rfl⟩ fun X _ e2 hA hL F => by subst e2; exact w_X8_isCroft X F hA hL h p1
def f_X8_isField (h : Hp) (p1 : Int32) : Option Bool :=
  jn (fun (v1 : Bool) =>
    some v1) fun (j17 : Bool → Option Bool) =>
  jn (
    j17 false) fun (j16 : Option Bool) =>
  if p1 < 0 then
    j16
  else
  if (gI h 8 0 14) ≤ p1 then
    j16
  else
  j17 true
abbrev rmX8_isField : Room := { frames := 0, cells := 0, slots := 0, locals := 0 }
set_option maxRecDepth 100000 in
set_option maxHeartbeats 4000000 in
theorem w_X8_isField (X : Cx) (F : Fx X cX8_isField RX8 (some .boolean) rmX8_isField) (hA : xA X = Aw (xG X)) (hL : xL X = 2) (h : Hp) (p1 : Int32) : Wm X (fun v => some (.int (b2i v))) (fun _ => h) (fun _ => True) 0 [(0, .ref (adr (xG X) 8 0 0)), (1, .int p1)] [] h (f_X8_isField h p1) := by
  have hS : ∀ i : Nat, i < 2 → i < xL X := fun i z => by rw [hL]; exact z
  unfold f_X8_isField
  refine r_iload_n F 1 rfl dX8_isField_0 rfl ?_
  refine Wt_jn (fun (j17 : Bool → Option Bool) => ∀ v1 : Bool, Wm X (fun v => some (.int (b2i v))) (fun _ => h) (fun _ => True) 17 [] [.int (b2i v1)] h (j17 v1)) ?_ fun j17 hj17 => ?_
  · intro v1
    exact r_zret F hA v1 rfl rfl rfl trivial dX8_isField_17
  refine Wt_jn (fun (j16 : Option Bool) => Wm X (fun v => some (.int (b2i v))) (fun _ => h) (fun _ => True) 16 [] [] h (j16)) ?_ fun j16 hj16 => ?_
  · skip
    refine r_iconst F (v := 0) dX8_isField_16 (by decide) ?_
    exact Wt_pick [] rfl (hj17 false)
  refine r_iflt F (tgt := 16) dX8_isField_1 (by decide) ?_ ?_
  · skip
    exact Wt_pick [] rfl (hj16)
  refine r_iload_n F 1 rfl dX8_isField_4 rfl ?_
  refine r_aload_n F 0 rfl dX8_isField_5 rfl ?_
  refine r_getI F frX8_249 (by decide) dX8_isField_6 ?_
  refine r_icmpge F (tgt := 16) dX8_isField_9 (by decide) ?_ ?_
  · skip
    exact Wt_pick [] rfl (hj16)
  refine r_iconst F (v := 1) dX8_isField_12 (by decide) ?_
  refine r_goto F (tgt := 17) dX8_isField_13 (by decide) ?_
  exact Wt_pick [] rfl (hj17 true)
theorem c_X8_isField (G : Gx) (l : Launch) (h : Hp) (p1 : Int32) : Ctr G l yX8_isField (.code yX8_isField cX8_isField 2 (some .boolean) :: GT) rmX8_isField [.ref (adr G 8 0 0), .int p1] h (f_X8_isField h p1) (fun v => some (.int (b2i v))) (fun _ => h) (fun _ => True) :=
  ctr_of (by decide) (Nat.le_of_ble_eq_true rfl) ⟨rfl, rfl⟩ fun X _ e2 hA hL F => by subst e2; exact w_X8_isField X F hA hL h p1
def f_X8_layNames (h : Hp) (p1 : Int32) (p2 : Int32) (p3 : Int32) : Option Hp :=
  grd (inb 0 7) <| lt_ (sB h 8 0 21 (0 : Int32).toNatClampNeg (p2).toInt64) fun h1 =>
  jn (fun (v2 : Int64) =>
    grd (inb 1 7) <| lt_ (sB h1 8 0 21 (1 : Int32).toNatClampNeg v2) fun h3 =>
    jn (fun (v4 : Int64) =>
      grd (inb 2 7) <| lt_ (sB h3 8 0 21 (2 : Int32).toNatClampNeg v4) fun h5 =>
      grd (inb p1 2) <|
      grd (inb 3 7) <| lt_ (sB h5 8 0 21 (3 : Int32).toNatClampNeg (((gA h5 8 0 33 p1.toNatClampNeg) - (gA h5 8 0 33 p1.toNatClampNeg) / 24 * 24)).toInt64) fun h6 =>
      grd (inb 4 7) <| lt_ (sB h6 8 0 21 (4 : Int32).toNatClampNeg (0 : Int64)) fun h7 =>
      grd (inb 5 7) <| lt_ (sB h7 8 0 21 (5 : Int32).toNatClampNeg (0 : Int64)) fun h8 =>
      grd (inb 6 7) <| lt_ (sB h8 8 0 21 (6 : Int32).toNatClampNeg (0 : Int64)) fun h9 =>
      some h9) fun (j60 : Int64 → Option Hp) =>
    jn (
      j60 ((0 : Int64))) fun (j49 : Option Hp) =>
    if p3 < 0 then
      j49
    else
    if (b2i (gZ h3 8 0 64)) = 0 then
      grd (inb p3 8) <|
      j60 (((gA h3 8 0 7 p3.toNatClampNeg)).toInt64)
    else
    j49) fun (j32 : Int64 → Option Hp) =>
  if 0 ≤ p3 then
    grd (inb ((4 * p1) + p3) 8) <|
    j32 (((gA h1 8 0 25 ((4 * p1) + p3).toNatClampNeg)).toInt64)
  else
  j32 ((0 : Int64))
abbrev rmX8_layNames : Room := { frames := 0, cells := 0, slots := 0, locals := 0 }
set_option maxRecDepth 100000 in
set_option maxHeartbeats 4000000 in
theorem w_X8_layNames (X : Cx) (F : Fx X cX8_layNames RX8 none rmX8_layNames) (hA : xA X = Aw (xG X)) (hL : xL X = 4) (h : Hp) (p1 : Int32) (p2 : Int32) (p3 : Int32) : Wm X (fun _ => none) (fun v => v) (fun _ => True) 0 [(0, .ref (adr (xG X) 8 0 0)), (1, .int p1), (2, .int p2), (3, .int p3)] [] h (f_X8_layNames h p1 p2 p3) := by
  have hS : ∀ i : Nat, i < 4 → i < xL X := fun i z => by rw [hL]; exact z
  unfold f_X8_layNames
  refine r_aload_n F 0 rfl dX8_layNames_0 rfl ?_
  refine r_getA F frX8_78 (by decide) dX8_layNames_1 ?_
  refine r_iconst F (v := 0) dX8_layNames_4 (by decide) ?_
  refine r_iload_n F 2 rfl dX8_layNames_5 rfl ?_
  refine r_i2l F dX8_layNames_6 ?_
  refine r_lastore F (ar_8_21 0 (by decide)) dX8_layNames_7 fun h1 => ?_
  refine r_aload_n F 0 rfl dX8_layNames_8 rfl ?_
  refine r_getA F frX8_78 (by decide) dX8_layNames_9 ?_
  refine r_iconst F (v := 1) dX8_layNames_12 (by decide) ?_
  refine r_iload_n F 3 rfl dX8_layNames_13 rfl ?_
  refine Wt_jn (fun (j32 : Int64 → Option Hp) => ∀ v2 : Int64, Wm X (fun _ => none) (fun v => v) (fun _ => True) 32 [(0, .ref (adr (xG X) 8 0 0)), (1, .int p1), (3, .int p3)] [.long v2, .int 1, .ref (adr (xG X) 8 0 22)] h1 (j32 v2)) ?_ fun j32 hj32 => ?_
  · intro v2
    refine r_lastore F (ar_8_21 0 (by decide)) dX8_layNames_32 fun h3 => ?_
    refine r_aload_n F 0 rfl dX8_layNames_33 rfl ?_
    refine r_getA F frX8_78 (by decide) dX8_layNames_34 ?_
    refine r_iconst F (v := 2) dX8_layNames_37 (by decide) ?_
    refine r_iload_n F 2 rfl dX8_layNames_38 rfl ?_
    refine Wt_jn (fun (j60 : Int64 → Option Hp) => ∀ v4 : Int64, Wm X (fun _ => none) (fun v => v) (fun _ => True) 60 [(0, .ref (adr (xG X) 8 0 0)), (1, .int p1)] [.long v4, .int 2, .ref (adr (xG X) 8 0 22)] h3 (j60 v4)) ?_ fun j60 hj60 => ?_
    · intro v4
      refine r_lastore F (ar_8_21 0 (by decide)) dX8_layNames_60 fun h5 => ?_
      refine r_aload_n F 0 rfl dX8_layNames_61 rfl ?_
      refine r_getA F frX8_78 (by decide) dX8_layNames_62 ?_
      refine r_iconst F (v := 3) dX8_layNames_65 (by decide) ?_
      refine r_aload_n F 0 rfl dX8_layNames_66 rfl ?_
      refine r_getA F frX8_115 (by decide) dX8_layNames_67 ?_
      refine r_iload_n F 1 rfl dX8_layNames_70 rfl ?_
      refine r_iaload F (ar_8_33 0 (by decide)) dX8_layNames_71 ?_
      refine r_bipush F (v := 24) dX8_layNames_72 (by decide) ?_
      refine r_iremc F (by decide) dX8_layNames_74 ?_
      refine r_i2l F dX8_layNames_75 ?_
      refine r_lastore F (ar_8_21 0 (by decide)) dX8_layNames_76 fun h6 => ?_
      refine r_aload_n F 0 rfl dX8_layNames_77 rfl ?_
      refine r_getA F frX8_78 (by decide) dX8_layNames_78 ?_
      refine r_iconst F (v := 4) dX8_layNames_81 (by decide) ?_
      refine r_lconst F (v := 0) dX8_layNames_82 (by decide) ?_
      refine r_lastore F (ar_8_21 0 (by decide)) dX8_layNames_83 fun h7 => ?_
      refine r_aload_n F 0 rfl dX8_layNames_84 rfl ?_
      refine r_getA F frX8_78 (by decide) dX8_layNames_85 ?_
      refine r_iconst F (v := 5) dX8_layNames_88 (by decide) ?_
      refine r_lconst F (v := 0) dX8_layNames_89 (by decide) ?_
      refine r_lastore F (ar_8_21 0 (by decide)) dX8_layNames_90 fun h8 => ?_
      refine r_aload_n F 0 rfl dX8_layNames_91 rfl ?_
      refine r_getA F frX8_78 (by decide) dX8_layNames_92 ?_
      refine r_bipush F (v := 6) dX8_layNames_95 (by decide) ?_
      refine r_lconst F (v := 0) dX8_layNames_97 (by decide) ?_
      refine r_lastore F (ar_8_21 0 (by decide)) dX8_layNames_98 fun h9 => ?_
      exact r_vret F hA rfl rfl trivial dX8_layNames_99
    refine Wt_jn (fun (j49 : Option Hp) => Wm X (fun _ => none) (fun v => v) (fun _ => True) 49 [(0, .ref (adr (xG X) 8 0 0)), (1, .int p1)] [.int 2, .ref (adr (xG X) 8 0 22)] h3 (j49)) ?_ fun j49 hj49 => ?_
    · skip
      refine r_lconst F (v := 0) dX8_layNames_49 (by decide) ?_
      refine r_goto F (tgt := 60) dX8_layNames_50 (by decide) ?_
      exact Wt_pick [0, 1] rfl (hj60 ((0 : Int64)))
    refine r_iflt F (tgt := 49) dX8_layNames_39 (by decide) ?_ ?_
    · skip
      exact Wt_pick [0, 1] rfl (hj49)
    refine r_aload_n F 0 rfl dX8_layNames_42 rfl ?_
    refine r_getZ F frX8_385 (by decide) dX8_layNames_43 ?_
    refine r_ifeq F (tgt := 53) dX8_layNames_46 (by decide) ?_ ?_
    · skip
      refine r_aload_n F 0 rfl dX8_layNames_53 rfl ?_
      refine r_getA F frX8_36 (by decide) dX8_layNames_54 ?_
      refine r_iload_n F 2 rfl dX8_layNames_57 rfl ?_
      refine r_iaload F (ar_8_7 0 (by decide)) dX8_layNames_58 ?_
      refine r_i2l F dX8_layNames_59 ?_
      exact Wt_pick [0, 1] rfl (hj60 (((gA h3 8 0 7 p3.toNatClampNeg)).toInt64))
    exact Wt_pick [0, 1] rfl (hj49)
  refine r_ifge F (tgt := 21) dX8_layNames_14 (by decide) ?_ ?_
  · skip
    refine r_aload_n F 0 rfl dX8_layNames_21 rfl ?_
    refine r_getA F frX8_91 (by decide) dX8_layNames_22 ?_
    refine r_iconst F (v := 4) dX8_layNames_25 (by decide) ?_
    refine r_iload_n F 1 rfl dX8_layNames_26 rfl ?_
    refine r_imul F dX8_layNames_27 ?_
    refine r_iload_n F 3 rfl dX8_layNames_28 rfl ?_
    refine r_iadd F dX8_layNames_29 ?_
    refine r_iaload F (ar_8_25 0 (by decide)) dX8_layNames_30 ?_
    refine r_i2l F dX8_layNames_31 ?_
    exact Wt_pick [0, 1, 3] rfl (hj32 (((gA h1 8 0 25 ((4 * p1) + p3).toNatClampNeg)).toInt64))
  refine r_lconst F (v := 0) dX8_layNames_17 (by decide) ?_
  refine r_goto F (tgt := 32) dX8_layNames_18 (by decide) ?_
  exact Wt_pick [0, 1, 3] rfl (hj32 ((0 : Int64)))
theorem c_X8_layNames (G : Gx) (l : Launch) (h : Hp) (p1 : Int32) (p2 : Int32) (p3 : Int32) : Ctr G l yX8_layNames (.code yX8_layNames cX8_layNames 4 none :: GT) rmX8_layNames [.ref (adr G 8 0 0), .int p1, .int p2, .int p3] h (f_X8_layNames h p1 p2 p3) (fun _ => none) (fun v => v) (fun _ => True) :=
  ctr_of (by decide) (Nat.le_of_ble_eq_true rfl) ⟨rfl, rfl⟩ fun X _ e2 hA hL F => by subst e2; exact w_X8_layNames X F hA hL h p1 p2 p3
def f_X8_layField (h : Hp) (p1 : Int32) (p2 : Int32) : Option Hp :=
  grd (inb p2 12) <|
  (f_X8_layNames h p1 0 (gA h 8 0 9 p2.toNatClampNeg)).bind fun h1 =>
  grd (inb ((6 * p1) + p2) 12) <|
  grd (inb 4 7) <| lt_ (sB h1 8 0 21 (4 : Int32).toNatClampNeg ((gA h1 8 0 30 ((6 * p1) + p2).toNatClampNeg)).toInt64) fun h2 =>
  grd (inb p2 12) <|
  grd (inb 5 7) <| lt_ (sB h2 8 0 21 (5 : Int32).toNatClampNeg ((gA h2 8 0 10 p2.toNatClampNeg)).toInt64) fun h3 =>
  grd (inb p2 12) <|
  grd (inb 6 7) <| lt_ (sB h3 8 0 21 (6 : Int32).toNatClampNeg ((gA h3 8 0 11 p2.toNatClampNeg)).toInt64) fun h4 =>
  some h4
abbrev rmX8_layField : Room := { frames := 1, cells := 0, slots := 0, locals := 23 }
set_option maxRecDepth 100000 in
set_option maxHeartbeats 4000000 in
theorem w_X8_layField (X : Cx) (F : Fx X cX8_layField RX8 none rmX8_layField) (hA : xA X = Aw (xG X)) (hL : xL X = 3) (h : Hp) (p1 : Int32) (p2 : Int32) : Wm X (fun _ => none) (fun v => v) (fun _ => True) 0 [(0, .ref (adr (xG X) 8 0 0)), (1, .int p1), (2, .int p2)] [] h (f_X8_layField h p1 p2) := by
  have hS : ∀ i : Nat, i < 3 → i < xL X := fun i z => by rw [hL]; exact z
  unfold f_X8_layField
  refine r_aload_n F 0 rfl dX8_layField_0 rfl ?_
  refine r_iload_n F 1 rfl dX8_layField_1 rfl ?_
  refine r_iconst F (v := 0) dX8_layField_2 (by decide) ?_
  refine r_aload_n F 0 rfl dX8_layField_3 rfl ?_
  refine r_getA F frX8_42 (by decide) dX8_layField_4 ?_
  refine r_iload_n F 2 rfl dX8_layField_7 rfl ?_
  refine r_iaload F (ar_8_9 0 (by decide)) dX8_layField_8 ?_
  refine k_vH (run_V F cvX8_391 (by decide) (c_X8_layNames (xG X) _ h p1 0 (gA h 8 0 9 p2.toNatClampNeg)) rfl rfl ⟨⟨rfl, rfl⟩, Nat.le_of_ble_eq_true rfl, Nat.le_of_ble_eq_true rfl⟩ (Nat.le_of_ble_eq_true rfl) dX8_layField_9) fun h1 => ?_
  refine r_aload_n F 0 rfl dX8_layField_12 rfl ?_
  refine r_getA F frX8_78 (by decide) dX8_layField_13 ?_
  refine r_iconst F (v := 4) dX8_layField_16 (by decide) ?_
  refine r_aload_n F 0 rfl dX8_layField_17 rfl ?_
  refine r_getA F frX8_106 (by decide) dX8_layField_18 ?_
  refine r_bipush F (v := 6) dX8_layField_21 (by decide) ?_
  refine r_iload_n F 1 rfl dX8_layField_23 rfl ?_
  refine r_imul F dX8_layField_24 ?_
  refine r_iload_n F 2 rfl dX8_layField_25 rfl ?_
  refine r_iadd F dX8_layField_26 ?_
  refine r_iaload F (ar_8_30 0 (by decide)) dX8_layField_27 ?_
  refine r_i2l F dX8_layField_28 ?_
  refine r_lastore F (ar_8_21 0 (by decide)) dX8_layField_29 fun h2 => ?_
  refine r_aload_n F 0 rfl dX8_layField_30 rfl ?_
  refine r_getA F frX8_78 (by decide) dX8_layField_31 ?_
  refine r_iconst F (v := 5) dX8_layField_34 (by decide) ?_
  refine r_aload_n F 0 rfl dX8_layField_35 rfl ?_
  refine r_getA F frX8_45 (by decide) dX8_layField_36 ?_
  refine r_iload_n F 2 rfl dX8_layField_39 rfl ?_
  refine r_iaload F (ar_8_10 0 (by decide)) dX8_layField_40 ?_
  refine r_i2l F dX8_layField_41 ?_
  refine r_lastore F (ar_8_21 0 (by decide)) dX8_layField_42 fun h3 => ?_
  refine r_aload_n F 0 rfl dX8_layField_43 rfl ?_
  refine r_getA F frX8_78 (by decide) dX8_layField_44 ?_
  refine r_bipush F (v := 6) dX8_layField_47 (by decide) ?_
  refine r_aload_n F 0 rfl dX8_layField_49 rfl ?_
  refine r_getA F frX8_48 (by decide) dX8_layField_50 ?_
  refine r_iload_n F 2 rfl dX8_layField_53 rfl ?_
  refine r_iaload F (ar_8_11 0 (by decide)) dX8_layField_54 ?_
  refine r_i2l F dX8_layField_55 ?_
  refine r_lastore F (ar_8_21 0 (by decide)) dX8_layField_56 fun h4 => ?_
  exact r_vret F hA rfl rfl trivial dX8_layField_57
theorem c_X8_layField (G : Gx) (l : Launch) (h : Hp) (p1 : Int32) (p2 : Int32) : Ctr G l yX8_layField (.code yX8_layField cX8_layField 3 none :: GT) rmX8_layField [.ref (adr G 8 0 0), .int p1, .int p2] h (f_X8_layField h p1 p2) (fun _ => none) (fun v => v) (fun _ => True) :=
  ctr_of (by decide) (Nat.le_of_ble_eq_true rfl) ⟨rfl, rfl⟩ fun X _ e2 hA hL F => by subst e2; exact w_X8_layField X F hA hL h p1 p2
def f_X8_lawOf_12 (p1 : Int32) (r12 : Int32 → Hp → Option (Int64 × Hp)) (v3 : Int32) (h4 : Hp) : Option (Int64 × Hp) :=
  grd (inb p1 8) <|
  if (gA h4 8 0 15 p1.toNatClampNeg) ≤ v3 then
    jn (fun (v5 : Int64) =>
      some (v5, h4)) fun (j63 : Int64 → Option (Int64 × Hp)) =>
    if (b2i (gZ h4 8 0 49)) = 0 then
      grd (inb p1 8) <|
      grd (inb ((gA h4 8 0 15 p1.toNatClampNeg) - 1) 64) <|
      j63 ((gB h4 8 0 22 ((gA h4 8 0 15 p1.toNatClampNeg) - 1).toNatClampNeg))
    else
    j63 ((0 : Int64))
  else
  bd2 (f_X8_valueOf h4 v3) fun v7 h6 =>
  grd (inb v3 64) <| lt_ (sB h6 8 0 22 v3.toNatClampNeg v7) fun h8 =>
  lt_ (v3 + 1) fun v9 =>
  r12 v9 h8
def f_X8_lawOf (N : Nat) (h : Hp) (p1 : Int32) : Option (Int64 × Hp) :=
  lt_ (sZ h 8 0 49 false) fun h1 =>
  grd (inb p1 8) <|
  lt_ ((gA h1 8 0 14 p1.toNatClampNeg)) fun v2 =>
  iter (fun _ _ => none) (f_X8_lawOf_12 p1) N v2 h1
abbrev rmX8_lawOf : Room := { frames := 2, cells := 0, slots := 0, locals := 50 }
set_option maxRecDepth 100000 in
set_option maxHeartbeats 4000000 in
theorem w_X8_lawOf (X : Cx) (F : Fx X cX8_lawOf RX8 (some .long) rmX8_lawOf) (hA : xA X = Aw (xG X)) (hL : xL X = 3) (N : Nat) (h : Hp) (p1 : Int32) : Wm X (fun v => some (.long v.1)) (fun v => v.2) (fun _ => True) 0 [(0, .ref (adr (xG X) 8 0 0)), (1, .int p1)] [] h (f_X8_lawOf N h p1) := by
  have hS : ∀ i : Nat, i < 3 → i < xL X := fun i z => by rw [hL]; exact z
  unfold f_X8_lawOf
  refine r_aload_n F 0 rfl dX8_lawOf_0 rfl ?_
  refine r_iconst F (v := 0) dX8_lawOf_1 (by decide) ?_
  refine r_putZ F false rfl frX8_341 (by decide) rfl rfl dX8_lawOf_2 fun h1 => ?_
  refine r_aload_n F 0 rfl dX8_lawOf_5 rfl ?_
  refine r_getA F frX8_57 (by decide) dX8_lawOf_6 ?_
  refine r_iload_n F 1 rfl dX8_lawOf_9 rfl ?_
  refine r_iaload F (ar_8_14 0 (by decide)) dX8_lawOf_10 ?_
  refine r_nmI fun v2 => ?_
  refine r_istore_n F [(2, .int v2), (0, .ref (adr (xG X) 8 0 0)), (1, .int p1)] rfl dX8_lawOf_11 rfl (hS _ (by decide)) ?_
  have hl12 : ∀ n : Nat, ∀ v3 : Int32, ∀ h4 : Hp, Wm X (fun v => some (.long v.1)) (fun v => v.2) (fun _ => True) 12 [(0, .ref (adr (xG X) 8 0 0)), (1, .int p1), (2, .int v3)] [] h4 (iter (fun _ _ => none) (f_X8_lawOf_12 p1) n v3 h4) := by
    intro n
    induction n with
    | zero => intro v3 h4; exact Wt_none
    | succ n ih =>
      revert ih
      show (∀ v3 : Int32, ∀ h4 : Hp, Wm X (fun v => some (.long v.1)) (fun v => v.2) (fun _ => True) 12 [(0, .ref (adr (xG X) 8 0 0)), (1, .int p1), (2, .int v3)] [] h4 (iter (fun _ _ => none) (f_X8_lawOf_12 p1) n v3 h4)) → _
      intro ih12 v3 h4
      show Wm X (fun v => some (.long v.1)) (fun v => v.2) (fun _ => True) 12 [(0, .ref (adr (xG X) 8 0 0)), (1, .int p1), (2, .int v3)] [] h4 (f_X8_lawOf_12 p1 (iter (fun _ _ => none) (f_X8_lawOf_12 p1) n) v3 h4)
      revert ih12
      generalize iter (fun _ _ => none) (f_X8_lawOf_12 p1) n = r12
      intro ih12
      unfold f_X8_lawOf_12
      refine r_iload_n F 2 rfl dX8_lawOf_12 rfl ?_
      refine r_aload_n F 0 rfl dX8_lawOf_13 rfl ?_
      refine r_getA F frX8_60 (by decide) dX8_lawOf_14 ?_
      refine r_iload_n F 1 rfl dX8_lawOf_17 rfl ?_
      refine r_iaload F (ar_8_15 0 (by decide)) dX8_lawOf_18 ?_
      refine r_icmpge F (tgt := 39) dX8_lawOf_19 (by decide) ?_ ?_
      · skip
        refine r_aload_n F 0 rfl dX8_lawOf_39 rfl ?_
        refine r_getZ F frX8_341 (by decide) dX8_lawOf_40 ?_
        refine Wt_jn (fun (j63 : Int64 → Option (Int64 × Hp)) => ∀ v5 : Int64, Wm X (fun v => some (.long v.1)) (fun v => v.2) (fun _ => True) 63 [] [.long v5] h4 (j63 v5)) ?_ fun j63 hj63 => ?_
        · intro v5
          exact r_lret F hA rfl rfl trivial dX8_lawOf_63
        refine r_ifeq F (tgt := 50) dX8_lawOf_43 (by decide) ?_ ?_
        · skip
          refine r_aload_n F 0 rfl dX8_lawOf_50 rfl ?_
          refine r_getA F frX8_82 (by decide) dX8_lawOf_51 ?_
          refine r_aload_n F 0 rfl dX8_lawOf_54 rfl ?_
          refine r_getA F frX8_60 (by decide) dX8_lawOf_55 ?_
          refine r_iload_n F 1 rfl dX8_lawOf_58 rfl ?_
          refine r_iaload F (ar_8_15 0 (by decide)) dX8_lawOf_59 ?_
          refine r_iconst F (v := 1) dX8_lawOf_60 (by decide) ?_
          refine r_isub F dX8_lawOf_61 ?_
          refine r_laload F (ar_8_22 0 (by decide)) dX8_lawOf_62 ?_
          exact Wt_pick [] rfl (hj63 ((gB h4 8 0 22 ((gA h4 8 0 15 p1.toNatClampNeg) - 1).toNatClampNeg)))
        refine r_lconst F (v := 0) dX8_lawOf_46 (by decide) ?_
        refine r_goto F (tgt := 63) dX8_lawOf_47 (by decide) ?_
        exact Wt_pick [] rfl (hj63 ((0 : Int64)))
      refine r_aload_n F 0 rfl dX8_lawOf_22 rfl ?_
      refine r_getA F frX8_82 (by decide) dX8_lawOf_23 ?_
      refine r_iload_n F 2 rfl dX8_lawOf_26 rfl ?_
      refine r_aload_n F 0 rfl dX8_lawOf_27 rfl ?_
      refine r_iload_n F 2 rfl dX8_lawOf_28 rfl ?_
      refine k_lH (run_V F cvX8_394 (by decide) (c_X8_valueOf (xG X) _ h4 v3) rfl rfl ⟨⟨rfl, rfl⟩, Nat.le_of_ble_eq_true rfl, Nat.le_of_ble_eq_true rfl⟩ (Nat.le_of_ble_eq_true rfl) dX8_lawOf_29) fun v7 h6 => ?_
      refine r_lastore F (ar_8_22 0 (by decide)) dX8_lawOf_32 fun h8 => ?_
      refine r_iinc F (v := 1) 2 rfl (by decide) (fun v9 => [(2, .int v9), (0, .ref (adr (xG X) 8 0 0)), (1, .int p1)]) (fun _ => rfl) dX8_lawOf_33 (hS _ (by decide)) fun v9 => ?_
      refine r_goto F (tgt := 12) dX8_lawOf_36 (by decide) ?_
      exact Wt_pick [1, 2, 0] rfl (ih12 v9 h8)
  exact Wt_pick [1, 2, 0] rfl (hl12 N v2 h1)
theorem c_X8_lawOf (G : Gx) (l : Launch) (N : Nat) (h : Hp) (p1 : Int32) : Ctr G l yX8_lawOf (.code yX8_lawOf cX8_lawOf 3 (some .long) :: GT) rmX8_lawOf [.ref (adr G 8 0 0), .int p1] h (f_X8_lawOf N h p1) (fun v => some (.long v.1)) (fun v => v.2) (fun _ => True) :=
  ctr_of (by decide) (Nat.le_of_ble_eq_true rfl) ⟨rfl, rfl⟩ fun X _ e2 hA hL F => by subst e2; exact w_X8_lawOf X F hA hL N h p1
