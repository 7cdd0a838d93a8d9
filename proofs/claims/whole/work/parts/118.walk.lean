theorem dX8_tideLine_0 : decode cX8_tideLine 0 = .ok (.aload_n 0, 1) := by decide +kernel
theorem dX8_tideLine_1 : decode cX8_tideLine 1 = .ok (.getfield 234, 3) := by decide +kernel
theorem dX8_tideLine_4 : decode cX8_tideLine 4 = .ok (.iconst 4, 1) := by decide +kernel
theorem dX8_tideLine_5 : decode cX8_tideLine 5 = .ok (.if_icmp .ne 9, 3) := by decide +kernel
theorem dX8_tideLine_8 : decode cX8_tideLine 8 = .ok (.aload_n 0, 1) := by decide +kernel
theorem dX8_tideLine_9 : decode cX8_tideLine 9 = .ok (.iconst 2, 1) := by decide +kernel
theorem dX8_tideLine_10 : decode cX8_tideLine 10 = .ok (.invokevirtual 205, 3) := by decide +kernel
theorem dX8_tideLine_13 : decode cX8_tideLine 13 = .ok (.ireturn, 1) := by decide +kernel
theorem dX8_tideLine_14 : decode cX8_tideLine 14 = .ok (.aload_n 0, 1) := by decide +kernel
theorem dX8_tideLine_15 : decode cX8_tideLine 15 = .ok (.invokevirtual 215, 3) := by decide +kernel
theorem dX8_tideLine_18 : decode cX8_tideLine 18 = .ok (.aload_n 0, 1) := by decide +kernel
theorem dX8_tideLine_19 : decode cX8_tideLine 19 = .ok (.getfield 172, 3) := by decide +kernel
theorem dX8_tideLine_22 : decode cX8_tideLine 22 = .ok (.istore_n 1, 1) := by decide +kernel
theorem dX8_tideLine_23 : decode cX8_tideLine 23 = .ok (.aload_n 0, 1) := by decide +kernel
theorem dX8_tideLine_24 : decode cX8_tideLine 24 = .ok (.iconst 0, 1) := by decide +kernel
theorem dX8_tideLine_25 : decode cX8_tideLine 25 = .ok (.bipush 23, 2) := by decide +kernel
theorem dX8_tideLine_27 : decode cX8_tideLine 27 = .ok (.invokevirtual 221, 3) := by decide +kernel
theorem dX8_tideLine_30 : decode cX8_tideLine 30 = .ok (.ifCond .ne 5, 3) := by decide +kernel
theorem dX8_tideLine_33 : decode cX8_tideLine 33 = .ok (.iconst 0, 1) := by decide +kernel
theorem dX8_tideLine_34 : decode cX8_tideLine 34 = .ok (.ireturn, 1) := by decide +kernel
theorem dX8_tideLine_35 : decode cX8_tideLine 35 = .ok (.aload_n 0, 1) := by decide +kernel
theorem dX8_tideLine_36 : decode cX8_tideLine 36 = .ok (.getfield 51, 3) := by decide +kernel
theorem dX8_tideLine_39 : decode cX8_tideLine 39 = .ok (.iconst 4, 1) := by decide +kernel
theorem dX8_tideLine_40 : decode cX8_tideLine 40 = .ok (.aload_n 0, 1) := by decide +kernel
theorem dX8_tideLine_41 : decode cX8_tideLine 41 = .ok (.getfield 234, 3) := by decide +kernel
theorem dX8_tideLine_44 : decode cX8_tideLine 44 = .ok (.aload_n 0, 1) := by decide +kernel
theorem dX8_tideLine_45 : decode cX8_tideLine 45 = .ok (.getfield 212, 3) := by decide +kernel
theorem dX8_tideLine_48 : decode cX8_tideLine 48 = .ok (.invokestatic 265, 3) := by decide +kernel
theorem dX8_tideLine_51 : decode cX8_tideLine 51 = .ok (.ifCond .lt 14, 3) := by decide +kernel
theorem dX8_tideLine_54 : decode cX8_tideLine 54 = .ok (.aload_n 0, 1) := by decide +kernel
theorem dX8_tideLine_55 : decode cX8_tideLine 55 = .ok (.iload_n 1, 1) := by decide +kernel
theorem dX8_tideLine_56 : decode cX8_tideLine 56 = .ok (.putfield 172, 3) := by decide +kernel
theorem dX8_tideLine_59 : decode cX8_tideLine 59 = .ok (.aload_n 0, 1) := by decide +kernel
theorem dX8_tideLine_60 : decode cX8_tideLine 60 = .ok (.iconst 3, 1) := by decide +kernel
theorem dX8_tideLine_61 : decode cX8_tideLine 61 = .ok (.invokevirtual 205, 3) := by decide +kernel
theorem dX8_tideLine_64 : decode cX8_tideLine 64 = .ok (.ireturn, 1) := by decide +kernel
theorem dX8_tideLine_65 : decode cX8_tideLine 65 = .ok (.aload_n 0, 1) := by decide +kernel
theorem dX8_tideLine_66 : decode cX8_tideLine 66 = .ok (.getfield 51, 3) := by decide +kernel
theorem dX8_tideLine_69 : decode cX8_tideLine 69 = .ok (.iconst 4, 1) := by decide +kernel
theorem dX8_tideLine_70 : decode cX8_tideLine 70 = .ok (.aload_n 0, 1) := by decide +kernel
theorem dX8_tideLine_71 : decode cX8_tideLine 71 = .ok (.getfield 234, 3) := by decide +kernel
theorem dX8_tideLine_74 : decode cX8_tideLine 74 = .ok (.iadd, 1) := by decide +kernel
theorem dX8_tideLine_75 : decode cX8_tideLine 75 = .ok (.aload_n 0, 1) := by decide +kernel
theorem dX8_tideLine_76 : decode cX8_tideLine 76 = .ok (.getfield 212, 3) := by decide +kernel
theorem dX8_tideLine_79 : decode cX8_tideLine 79 = .ok (.iastore, 1) := by decide +kernel
theorem dX8_tideLine_80 : decode cX8_tideLine 80 = .ok (.aload_n 0, 1) := by decide +kernel
theorem dX8_tideLine_81 : decode cX8_tideLine 81 = .ok (.dup, 1) := by decide +kernel
theorem dX8_tideLine_82 : decode cX8_tideLine 82 = .ok (.getfield 234, 3) := by decide +kernel
theorem dX8_tideLine_85 : decode cX8_tideLine 85 = .ok (.iconst 1, 1) := by decide +kernel
theorem dX8_tideLine_86 : decode cX8_tideLine 86 = .ok (.iadd, 1) := by decide +kernel
theorem dX8_tideLine_87 : decode cX8_tideLine 87 = .ok (.putfield 234, 3) := by decide +kernel
theorem dX8_tideLine_90 : decode cX8_tideLine 90 = .ok (.iconst 1, 1) := by decide +kernel
theorem dX8_tideLine_91 : decode cX8_tideLine 91 = .ok (.ireturn, 1) := by decide +kernel
theorem dX8_onceLine_0 : decode cX8_onceLine 0 = .ok (.aload_n 0, 1) := by decide +kernel
theorem dX8_onceLine_1 : decode cX8_onceLine 1 = .ok (.getfield 192, 3) := by decide +kernel
theorem dX8_onceLine_4 : decode cX8_onceLine 4 = .ok (.tableswitch 179 4 6 #[28, 61, 123], 28) := by decide +kernel
theorem dX8_onceLine_32 : decode cX8_onceLine 32 = .ok (.aload_n 0, 1) := by decide +kernel
theorem dX8_onceLine_33 : decode cX8_onceLine 33 = .ok (.iconst 0, 1) := by decide +kernel
theorem dX8_onceLine_34 : decode cX8_onceLine 34 = .ok (.invokevirtual 269, 3) := by decide +kernel
theorem dX8_onceLine_37 : decode cX8_onceLine 37 = .ok (.ifCond .eq 14, 3) := by decide +kernel
theorem dX8_onceLine_40 : decode cX8_onceLine 40 = .ok (.aload_n 0, 1) := by decide +kernel
theorem dX8_onceLine_41 : decode cX8_onceLine 41 = .ok (.iconst 0, 1) := by decide +kernel
theorem dX8_onceLine_42 : decode cX8_onceLine 42 = .ok (.sipush 999, 3) := by decide +kernel
theorem dX8_onceLine_45 : decode cX8_onceLine 45 = .ok (.invokevirtual 221, 3) := by decide +kernel
theorem dX8_onceLine_48 : decode cX8_onceLine 48 = .ok (.ifCond .ne 5, 3) := by decide +kernel
theorem dX8_onceLine_51 : decode cX8_onceLine 51 = .ok (.iconst 0, 1) := by decide +kernel
theorem dX8_onceLine_52 : decode cX8_onceLine 52 = .ok (.ireturn, 1) := by decide +kernel
theorem dX8_onceLine_53 : decode cX8_onceLine 53 = .ok (.aload_n 0, 1) := by decide +kernel
theorem dX8_onceLine_54 : decode cX8_onceLine 54 = .ok (.getfield 24, 3) := by decide +kernel
theorem dX8_onceLine_57 : decode cX8_onceLine 57 = .ok (.iconst 5, 1) := by decide +kernel
theorem dX8_onceLine_58 : decode cX8_onceLine 58 = .ok (.aload_n 0, 1) := by decide +kernel
theorem dX8_onceLine_59 : decode cX8_onceLine 59 = .ok (.getfield 212, 3) := by decide +kernel
theorem dX8_onceLine_62 : decode cX8_onceLine 62 = .ok (.iastore, 1) := by decide +kernel
theorem dX8_onceLine_63 : decode cX8_onceLine 63 = .ok (.iconst 1, 1) := by decide +kernel
theorem dX8_onceLine_64 : decode cX8_onceLine 64 = .ok (.ireturn, 1) := by decide +kernel
theorem dX8_onceLine_65 : decode cX8_onceLine 65 = .ok (.aload_n 0, 1) := by decide +kernel
theorem dX8_onceLine_66 : decode cX8_onceLine 66 = .ok (.iconst 1, 1) := by decide +kernel
theorem dX8_onceLine_67 : decode cX8_onceLine 67 = .ok (.invokevirtual 269, 3) := by decide +kernel
theorem dX8_onceLine_70 : decode cX8_onceLine 70 = .ok (.ifCond .ne 5, 3) := by decide +kernel
theorem dX8_onceLine_73 : decode cX8_onceLine 73 = .ok (.iconst 0, 1) := by decide +kernel
theorem dX8_onceLine_74 : decode cX8_onceLine 74 = .ok (.ireturn, 1) := by decide +kernel
theorem dX8_onceLine_75 : decode cX8_onceLine 75 = .ok (.aload_n 0, 1) := by decide +kernel
theorem dX8_onceLine_76 : decode cX8_onceLine 76 = .ok (.getfield 181, 3) := by decide +kernel
theorem dX8_onceLine_79 : decode cX8_onceLine 79 = .ok (.iconst 1, 1) := by decide +kernel
theorem dX8_onceLine_80 : decode cX8_onceLine 80 = .ok (.if_icmp .ne 21, 3) := by decide +kernel
theorem dX8_onceLine_83 : decode cX8_onceLine 83 = .ok (.aload_n 0, 1) := by decide +kernel
theorem dX8_onceLine_84 : decode cX8_onceLine 84 = .ok (.getfield 192, 3) := by decide +kernel
theorem dX8_onceLine_87 : decode cX8_onceLine 87 = .ok (.bipush 9, 2) := by decide +kernel
theorem dX8_onceLine_89 : decode cX8_onceLine 89 = .ok (.if_icmp .lt 12, 3) := by decide +kernel
theorem dX8_onceLine_92 : decode cX8_onceLine 92 = .ok (.aload_n 0, 1) := by decide +kernel
theorem dX8_onceLine_93 : decode cX8_onceLine 93 = .ok (.getfield 192, 3) := by decide +kernel
theorem dX8_onceLine_96 : decode cX8_onceLine 96 = .ok (.bipush 11, 2) := by decide +kernel
theorem dX8_onceLine_98 : decode cX8_onceLine 98 = .ok (.if_icmp .le 9, 3) := by decide +kernel
theorem dX8_onceLine_101 : decode cX8_onceLine 101 = .ok (.aload_n 0, 1) := by decide +kernel
theorem dX8_onceLine_102 : decode cX8_onceLine 102 = .ok (.iconst 1, 1) := by decide +kernel
theorem dX8_onceLine_103 : decode cX8_onceLine 103 = .ok (.invokevirtual 205, 3) := by decide +kernel
theorem dX8_onceLine_106 : decode cX8_onceLine 106 = .ok (.ireturn, 1) := by decide +kernel
theorem dX8_onceLine_107 : decode cX8_onceLine 107 = .ok (.aload_n 0, 1) := by decide +kernel
theorem dX8_onceLine_108 : decode cX8_onceLine 108 = .ok (.getfield 24, 3) := by decide +kernel
theorem dX8_onceLine_111 : decode cX8_onceLine 111 = .ok (.bipush 6, 2) := by decide +kernel
theorem dX8_onceLine_113 : decode cX8_onceLine 113 = .ok (.aload_n 0, 1) := by decide +kernel
theorem dX8_onceLine_114 : decode cX8_onceLine 114 = .ok (.getfield 192, 3) := by decide +kernel
theorem dX8_onceLine_117 : decode cX8_onceLine 117 = .ok (.bipush 9, 2) := by decide +kernel
theorem dX8_onceLine_119 : decode cX8_onceLine 119 = .ok (.isub, 1) := by decide +kernel
theorem dX8_onceLine_120 : decode cX8_onceLine 120 = .ok (.iastore, 1) := by decide +kernel
theorem dX8_onceLine_121 : decode cX8_onceLine 121 = .ok (.aload_n 0, 1) := by decide +kernel
theorem dX8_onceLine_122 : decode cX8_onceLine 122 = .ok (.invokevirtual 215, 3) := by decide +kernel
theorem dX8_onceLine_125 : decode cX8_onceLine 125 = .ok (.iconst 1, 1) := by decide +kernel
theorem dX8_onceLine_126 : decode cX8_onceLine 126 = .ok (.ireturn, 1) := by decide +kernel
theorem dX8_onceLine_127 : decode cX8_onceLine 127 = .ok (.aload_n 0, 1) := by decide +kernel
theorem dX8_onceLine_128 : decode cX8_onceLine 128 = .ok (.iconst 2, 1) := by decide +kernel
theorem dX8_onceLine_129 : decode cX8_onceLine 129 = .ok (.invokevirtual 269, 3) := by decide +kernel
theorem dX8_onceLine_132 : decode cX8_onceLine 132 = .ok (.ifCond .eq 13, 3) := by decide +kernel
theorem dX8_onceLine_135 : decode cX8_onceLine 135 = .ok (.aload_n 0, 1) := by decide +kernel
theorem dX8_onceLine_136 : decode cX8_onceLine 136 = .ok (.iconst 0, 1) := by decide +kernel
theorem dX8_onceLine_137 : decode cX8_onceLine 137 = .ok (.bipush 100, 2) := by decide +kernel
theorem dX8_onceLine_139 : decode cX8_onceLine 139 = .ok (.invokevirtual 221, 3) := by decide +kernel
theorem dX8_onceLine_142 : decode cX8_onceLine 142 = .ok (.ifCond .ne 5, 3) := by decide +kernel
theorem dX8_onceLine_145 : decode cX8_onceLine 145 = .ok (.iconst 0, 1) := by decide +kernel
theorem dX8_onceLine_146 : decode cX8_onceLine 146 = .ok (.ireturn, 1) := by decide +kernel
theorem dX8_onceLine_147 : decode cX8_onceLine 147 = .ok (.aload_n 0, 1) := by decide +kernel
theorem dX8_onceLine_148 : decode cX8_onceLine 148 = .ok (.getfield 24, 3) := by decide +kernel
theorem dX8_onceLine_151 : decode cX8_onceLine 151 = .ok (.bipush 7, 2) := by decide +kernel
theorem dX8_onceLine_153 : decode cX8_onceLine 153 = .ok (.aload_n 0, 1) := by decide +kernel
theorem dX8_onceLine_154 : decode cX8_onceLine 154 = .ok (.getfield 212, 3) := by decide +kernel
theorem dX8_onceLine_157 : decode cX8_onceLine 157 = .ok (.iastore, 1) := by decide +kernel
theorem dX8_onceLine_158 : decode cX8_onceLine 158 = .ok (.aload_n 0, 1) := by decide +kernel
theorem dX8_onceLine_159 : decode cX8_onceLine 159 = .ok (.iconst 0, 1) := by decide +kernel
theorem dX8_onceLine_160 : decode cX8_onceLine 160 = .ok (.bipush 99, 2) := by decide +kernel
theorem dX8_onceLine_162 : decode cX8_onceLine 162 = .ok (.invokevirtual 221, 3) := by decide +kernel
theorem dX8_onceLine_165 : decode cX8_onceLine 165 = .ok (.ifCond .ne 5, 3) := by decide +kernel
theorem dX8_onceLine_168 : decode cX8_onceLine 168 = .ok (.iconst 0, 1) := by decide +kernel
theorem dX8_onceLine_169 : decode cX8_onceLine 169 = .ok (.ireturn, 1) := by decide +kernel
theorem dX8_onceLine_170 : decode cX8_onceLine 170 = .ok (.aload_n 0, 1) := by decide +kernel
theorem dX8_onceLine_171 : decode cX8_onceLine 171 = .ok (.getfield 24, 3) := by decide +kernel
theorem dX8_onceLine_174 : decode cX8_onceLine 174 = .ok (.bipush 8, 2) := by decide +kernel
theorem dX8_onceLine_176 : decode cX8_onceLine 176 = .ok (.aload_n 0, 1) := by decide +kernel
theorem dX8_onceLine_177 : decode cX8_onceLine 177 = .ok (.getfield 212, 3) := by decide +kernel
theorem dX8_onceLine_180 : decode cX8_onceLine 180 = .ok (.iastore, 1) := by decide +kernel
theorem dX8_onceLine_181 : decode cX8_onceLine 181 = .ok (.iconst 1, 1) := by decide +kernel
theorem dX8_onceLine_182 : decode cX8_onceLine 182 = .ok (.ireturn, 1) := by decide +kernel
theorem dX8_onceLine_183 : decode cX8_onceLine 183 = .ok (.aload_n 0, 1) := by decide +kernel
theorem dX8_onceLine_184 : decode cX8_onceLine 184 = .ok (.iconst 3, 1) := by decide +kernel
theorem dX8_onceLine_185 : decode cX8_onceLine 185 = .ok (.invokevirtual 269, 3) := by decide +kernel
theorem dX8_onceLine_188 : decode cX8_onceLine 188 = .ok (.ifCond .eq 13, 3) := by decide +kernel
theorem dX8_onceLine_191 : decode cX8_onceLine 191 = .ok (.aload_n 0, 1) := by decide +kernel
theorem dX8_onceLine_192 : decode cX8_onceLine 192 = .ok (.iconst 0, 1) := by decide +kernel
theorem dX8_onceLine_193 : decode cX8_onceLine 193 = .ok (.ldc 201, 2) := by decide +kernel
theorem dX8_onceLine_195 : decode cX8_onceLine 195 = .ok (.invokevirtual 221, 3) := by decide +kernel
theorem dX8_onceLine_198 : decode cX8_onceLine 198 = .ok (.ifCond .ne 5, 3) := by decide +kernel
theorem dX8_onceLine_201 : decode cX8_onceLine 201 = .ok (.iconst 0, 1) := by decide +kernel
theorem dX8_onceLine_202 : decode cX8_onceLine 202 = .ok (.ireturn, 1) := by decide +kernel
theorem dX8_onceLine_203 : decode cX8_onceLine 203 = .ok (.aload_n 0, 1) := by decide +kernel
theorem dX8_onceLine_204 : decode cX8_onceLine 204 = .ok (.getfield 24, 3) := by decide +kernel
theorem dX8_onceLine_207 : decode cX8_onceLine 207 = .ok (.bipush 9, 2) := by decide +kernel
theorem dX8_onceLine_209 : decode cX8_onceLine 209 = .ok (.aload_n 0, 1) := by decide +kernel
theorem dX8_onceLine_210 : decode cX8_onceLine 210 = .ok (.getfield 212, 3) := by decide +kernel
theorem dX8_onceLine_213 : decode cX8_onceLine 213 = .ok (.iastore, 1) := by decide +kernel
theorem dX8_onceLine_214 : decode cX8_onceLine 214 = .ok (.iconst 1, 1) := by decide +kernel
theorem dX8_onceLine_215 : decode cX8_onceLine 215 = .ok (.ireturn, 1) := by decide +kernel
theorem dX8_waitsFor_0 : decode cX8_waitsFor 0 = .ok (.aload_n 0, 1) := by decide +kernel
theorem dX8_waitsFor_1 : decode cX8_waitsFor 1 = .ok (.getfield 72, 3) := by decide +kernel
theorem dX8_waitsFor_4 : decode cX8_waitsFor 4 = .ok (.aload_n 0, 1) := by decide +kernel
theorem dX8_waitsFor_5 : decode cX8_waitsFor 5 = .ok (.getfield 294, 3) := by decide +kernel
theorem dX8_waitsFor_8 : decode cX8_waitsFor 8 = .ok (.iload_n 1, 1) := by decide +kernel
theorem dX8_waitsFor_9 : decode cX8_waitsFor 9 = .ok (.iastore, 1) := by decide +kernel
theorem dX8_waitsFor_10 : decode cX8_waitsFor 10 = .ok (.aload_n 0, 1) := by decide +kernel
theorem dX8_waitsFor_11 : decode cX8_waitsFor 11 = .ok (.dup, 1) := by decide +kernel
theorem dX8_waitsFor_12 : decode cX8_waitsFor 12 = .ok (.getfield 294, 3) := by decide +kernel
theorem dX8_waitsFor_15 : decode cX8_waitsFor 15 = .ok (.iconst 1, 1) := by decide +kernel
theorem dX8_waitsFor_16 : decode cX8_waitsFor 16 = .ok (.iadd, 1) := by decide +kernel
theorem dX8_waitsFor_17 : decode cX8_waitsFor 17 = .ok (.putfield 294, 3) := by decide +kernel
theorem dX8_waitsFor_20 : decode cX8_waitsFor 20 = .ok (.return_, 1) := by decide +kernel
theorem dX8_isCounted_0 : decode cX8_isCounted 0 = .ok (.aload_n 0, 1) := by decide +kernel
theorem dX8_isCounted_1 : decode cX8_isCounted 1 = .ok (.getfield 240, 3) := by decide +kernel
theorem dX8_isCounted_4 : decode cX8_isCounted 4 = .ok (.bipush 64, 2) := by decide +kernel
theorem dX8_isCounted_6 : decode cX8_isCounted 6 = .ok (.if_icmp .ne 9, 3) := by decide +kernel
theorem dX8_isCounted_9 : decode cX8_isCounted 9 = .ok (.aload_n 0, 1) := by decide +kernel
theorem dX8_isCounted_10 : decode cX8_isCounted 10 = .ok (.iconst 2, 1) := by decide +kernel
theorem dX8_isCounted_11 : decode cX8_isCounted 11 = .ok (.invokevirtual 205, 3) := by decide +kernel
theorem dX8_isCounted_14 : decode cX8_isCounted 14 = .ok (.ireturn, 1) := by decide +kernel
theorem dX8_isCounted_15 : decode cX8_isCounted 15 = .ok (.aload_n 0, 1) := by decide +kernel
theorem dX8_isCounted_16 : decode cX8_isCounted 16 = .ok (.dup, 1) := by decide +kernel
theorem dX8_isCounted_17 : decode cX8_isCounted 17 = .ok (.getfield 240, 3) := by decide +kernel
theorem dX8_isCounted_20 : decode cX8_isCounted 20 = .ok (.iconst 1, 1) := by decide +kernel
theorem dX8_isCounted_21 : decode cX8_isCounted 21 = .ok (.iadd, 1) := by decide +kernel
theorem dX8_isCounted_22 : decode cX8_isCounted 22 = .ok (.putfield 240, 3) := by decide +kernel
theorem dX8_isCounted_25 : decode cX8_isCounted 25 = .ok (.iconst 1, 1) := by decide +kernel
theorem dX8_isCounted_26 : decode cX8_isCounted 26 = .ok (.ireturn, 1) := by decide +kernel
theorem dX8_nameMet_0 : decode cX8_nameMet 0 = .ok (.aload_n 0, 1) := by decide +kernel
theorem dX8_nameMet_1 : decode cX8_nameMet 1 = .ok (.getfield 181, 3) := by decide +kernel
theorem dX8_nameMet_4 : decode cX8_nameMet 4 = .ok (.iconst 1, 1) := by decide +kernel
theorem dX8_nameMet_5 : decode cX8_nameMet 5 = .ok (.if_icmp .ne 22, 3) := by decide +kernel
theorem dX8_nameMet_8 : decode cX8_nameMet 8 = .ok (.aload_n 0, 1) := by decide +kernel
theorem dX8_nameMet_9 : decode cX8_nameMet 9 = .ok (.getfield 192, 3) := by decide +kernel
theorem dX8_nameMet_12 : decode cX8_nameMet 12 = .ok (.bipush 19, 2) := by decide +kernel
theorem dX8_nameMet_14 : decode cX8_nameMet 14 = .ok (.if_icmp .lt 13, 3) := by decide +kernel
theorem dX8_nameMet_17 : decode cX8_nameMet 17 = .ok (.aload_n 0, 1) := by decide +kernel
theorem dX8_nameMet_18 : decode cX8_nameMet 18 = .ok (.getfield 192, 3) := by decide +kernel
theorem dX8_nameMet_21 : decode cX8_nameMet 21 = .ok (.bipush 19, 2) := by decide +kernel
theorem dX8_nameMet_23 : decode cX8_nameMet 23 = .ok (.isub, 1) := by decide +kernel
theorem dX8_nameMet_24 : decode cX8_nameMet 24 = .ok (.goto 4, 3) := by decide +kernel
theorem dX8_nameMet_27 : decode cX8_nameMet 27 = .ok (.iconst (-1), 1) := by decide +kernel
theorem dX8_nameMet_28 : decode cX8_nameMet 28 = .ok (.ireturn, 1) := by decide +kernel
theorem dX8_grown_0 : decode cX8_grown 0 = .ok (.aload_n 0, 1) := by decide +kernel
theorem dX8_grown_1 : decode cX8_grown 1 = .ok (.getfield 63, 3) := by decide +kernel
theorem dX8_grown_4 : decode cX8_grown 4 = .ok (.bipush 64, 2) := by decide +kernel
theorem dX8_grown_6 : decode cX8_grown 6 = .ok (.aload_n 0, 1) := by decide +kernel
theorem dX8_grown_7 : decode cX8_grown 7 = .ok (.getfield 237, 3) := by decide +kernel
theorem dX8_grown_10 : decode cX8_grown 10 = .ok (.iadd, 1) := by decide +kernel
theorem dX8_grown_11 : decode cX8_grown 11 = .ok (.iload_n 1, 1) := by decide +kernel
theorem dX8_grown_12 : decode cX8_grown 12 = .ok (.iastore, 1) := by decide +kernel
theorem dX8_grown_13 : decode cX8_grown 13 = .ok (.aload_n 0, 1) := by decide +kernel
theorem dX8_grown_14 : decode cX8_grown 14 = .ok (.getfield 66, 3) := by decide +kernel
theorem dX8_grown_17 : decode cX8_grown 17 = .ok (.bipush 64, 2) := by decide +kernel
theorem dX8_grown_19 : decode cX8_grown 19 = .ok (.aload_n 0, 1) := by decide +kernel
theorem dX8_grown_20 : decode cX8_grown 20 = .ok (.getfield 237, 3) := by decide +kernel
theorem dX8_grown_23 : decode cX8_grown 23 = .ok (.iadd, 1) := by decide +kernel
theorem dX8_grown_24 : decode cX8_grown 24 = .ok (.iload_n 2, 1) := by decide +kernel
theorem dX8_grown_25 : decode cX8_grown 25 = .ok (.iastore, 1) := by decide +kernel
theorem dX8_grown_26 : decode cX8_grown 26 = .ok (.aload_n 0, 1) := by decide +kernel
theorem dX8_grown_27 : decode cX8_grown 27 = .ok (.getfield 69, 3) := by decide +kernel
theorem dX8_grown_30 : decode cX8_grown 30 = .ok (.bipush 64, 2) := by decide +kernel
theorem dX8_grown_32 : decode cX8_grown 32 = .ok (.aload_n 0, 1) := by decide +kernel
theorem dX8_grown_33 : decode cX8_grown 33 = .ok (.getfield 237, 3) := by decide +kernel
theorem dX8_grown_36 : decode cX8_grown 36 = .ok (.iadd, 1) := by decide +kernel
theorem dX8_grown_37 : decode cX8_grown 37 = .ok (.iload_n 3, 1) := by decide +kernel
theorem dX8_grown_38 : decode cX8_grown 38 = .ok (.iastore, 1) := by decide +kernel
theorem dX8_grown_39 : decode cX8_grown 39 = .ok (.aload_n 0, 1) := by decide +kernel
theorem dX8_grown_40 : decode cX8_grown 40 = .ok (.getfield 75, 3) := by decide +kernel
theorem dX8_grown_43 : decode cX8_grown 43 = .ok (.aload_n 0, 1) := by decide +kernel
theorem dX8_grown_44 : decode cX8_grown 44 = .ok (.getfield 291, 3) := by decide +kernel
theorem dX8_grown_47 : decode cX8_grown 47 = .ok (.aload_n 0, 1) := by decide +kernel
theorem dX8_grown_48 : decode cX8_grown 48 = .ok (.getfield 237, 3) := by decide +kernel
theorem dX8_grown_51 : decode cX8_grown 51 = .ok (.iastore, 1) := by decide +kernel
theorem dX8_grown_52 : decode cX8_grown 52 = .ok (.aload_n 0, 1) := by decide +kernel
theorem dX8_grown_53 : decode cX8_grown 53 = .ok (.dup, 1) := by decide +kernel
theorem dX8_grown_54 : decode cX8_grown 54 = .ok (.getfield 291, 3) := by decide +kernel
theorem dX8_grown_57 : decode cX8_grown 57 = .ok (.iconst 1, 1) := by decide +kernel
theorem dX8_grown_58 : decode cX8_grown 58 = .ok (.iadd, 1) := by decide +kernel
theorem dX8_grown_59 : decode cX8_grown 59 = .ok (.putfield 291, 3) := by decide +kernel
theorem dX8_grown_62 : decode cX8_grown 62 = .ok (.aload_n 0, 1) := by decide +kernel
theorem dX8_grown_63 : decode cX8_grown 63 = .ok (.dup, 1) := by decide +kernel
theorem dX8_grown_64 : decode cX8_grown 64 = .ok (.getfield 237, 3) := by decide +kernel
theorem dX8_grown_67 : decode cX8_grown 67 = .ok (.iconst 1, 1) := by decide +kernel
theorem dX8_grown_68 : decode cX8_grown 68 = .ok (.iadd, 1) := by decide +kernel
theorem dX8_grown_69 : decode cX8_grown 69 = .ok (.putfield 237, 3) := by decide +kernel
theorem dX8_grown_72 : decode cX8_grown 72 = .ok (.return_, 1) := by decide +kernel
theorem dX8_leafRead_0 : decode cX8_leafRead 0 = .ok (.aload_n 0, 1) := by decide +kernel
theorem dX8_leafRead_1 : decode cX8_leafRead 1 = .ok (.bipush 40, 2) := by decide +kernel
theorem dX8_leafRead_3 : decode cX8_leafRead 3 = .ok (.invokevirtual 218, 3) := by decide +kernel
theorem dX8_leafRead_6 : decode cX8_leafRead 6 = .ok (.ifCond .eq 44, 3) := by decide +kernel
theorem dX8_leafRead_9 : decode cX8_leafRead 9 = .ok (.aload_n 0, 1) := by decide +kernel
theorem dX8_leafRead_10 : decode cX8_leafRead 10 = .ok (.getfield 309, 3) := by decide +kernel
theorem dX8_leafRead_13 : decode cX8_leafRead 13 = .ok (.bipush 8, 2) := by decide +kernel
theorem dX8_leafRead_15 : decode cX8_leafRead 15 = .ok (.if_icmp .ne 9, 3) := by decide +kernel
theorem dX8_leafRead_18 : decode cX8_leafRead 18 = .ok (.aload_n 0, 1) := by decide +kernel
theorem dX8_leafRead_19 : decode cX8_leafRead 19 = .ok (.iconst 2, 1) := by decide +kernel
theorem dX8_leafRead_20 : decode cX8_leafRead 20 = .ok (.invokevirtual 205, 3) := by decide +kernel
theorem dX8_leafRead_23 : decode cX8_leafRead 23 = .ok (.ireturn, 1) := by decide +kernel
theorem dX8_leafRead_24 : decode cX8_leafRead 24 = .ok (.aload_n 0, 1) := by decide +kernel
theorem dX8_leafRead_25 : decode cX8_leafRead 25 = .ok (.dup, 1) := by decide +kernel
theorem dX8_leafRead_26 : decode cX8_leafRead 26 = .ok (.getfield 309, 3) := by decide +kernel
theorem dX8_leafRead_29 : decode cX8_leafRead 29 = .ok (.iconst 1, 1) := by decide +kernel
theorem dX8_leafRead_30 : decode cX8_leafRead 30 = .ok (.iadd, 1) := by decide +kernel
theorem dX8_leafRead_31 : decode cX8_leafRead 31 = .ok (.putfield 309, 3) := by decide +kernel
theorem dX8_leafRead_34 : decode cX8_leafRead 34 = .ok (.aload_n 0, 1) := by decide +kernel
theorem dX8_leafRead_35 : decode cX8_leafRead 35 = .ok (.iconst 0, 1) := by decide +kernel
theorem dX8_leafRead_36 : decode cX8_leafRead 36 = .ok (.invokevirtual 312, 3) := by decide +kernel
theorem dX8_leafRead_39 : decode cX8_leafRead 39 = .ok (.aload_n 0, 1) := by decide +kernel
theorem dX8_leafRead_40 : decode cX8_leafRead 40 = .ok (.iconst 1, 1) := by decide +kernel
theorem dX8_leafRead_41 : decode cX8_leafRead 41 = .ok (.putfield 316, 3) := by decide +kernel
theorem dX8_leafRead_44 : decode cX8_leafRead 44 = .ok (.aload_n 0, 1) := by decide +kernel
theorem dX8_leafRead_45 : decode cX8_leafRead 45 = .ok (.invokevirtual 215, 3) := by decide +kernel
theorem dX8_leafRead_48 : decode cX8_leafRead 48 = .ok (.iconst 1, 1) := by decide +kernel
theorem dX8_leafRead_49 : decode cX8_leafRead 49 = .ok (.ireturn, 1) := by decide +kernel
theorem dX8_leafRead_50 : decode cX8_leafRead 50 = .ok (.aload_n 0, 1) := by decide +kernel
theorem dX8_leafRead_51 : decode cX8_leafRead 51 = .ok (.bipush 18, 2) := by decide +kernel
theorem dX8_leafRead_53 : decode cX8_leafRead 53 = .ok (.invokevirtual 320, 3) := by decide +kernel
theorem dX8_leafRead_56 : decode cX8_leafRead 56 = .ok (.ifCond .eq 30, 3) := by decide +kernel
theorem dX8_leafRead_59 : decode cX8_leafRead 59 = .ok (.aload_n 0, 1) := by decide +kernel
theorem dX8_leafRead_60 : decode cX8_leafRead 60 = .ok (.getfield 316, 3) := by decide +kernel
theorem dX8_leafRead_63 : decode cX8_leafRead 63 = .ok (.ifCond .eq 23, 3) := by decide +kernel
theorem dX8_leafRead_66 : decode cX8_leafRead 66 = .ok (.aload_n 0, 1) := by decide +kernel
theorem dX8_leafRead_67 : decode cX8_leafRead 67 = .ok (.invokevirtual 323, 3) := by decide +kernel
theorem dX8_leafRead_70 : decode cX8_leafRead 70 = .ok (.ifCond .ne 5, 3) := by decide +kernel
theorem dX8_leafRead_73 : decode cX8_leafRead 73 = .ok (.iconst 0, 1) := by decide +kernel
theorem dX8_leafRead_74 : decode cX8_leafRead 74 = .ok (.ireturn, 1) := by decide +kernel
theorem dX8_leafRead_75 : decode cX8_leafRead 75 = .ok (.aload_n 0, 1) := by decide +kernel
theorem dX8_leafRead_76 : decode cX8_leafRead 76 = .ok (.iconst 2, 1) := by decide +kernel
theorem dX8_leafRead_77 : decode cX8_leafRead 77 = .ok (.invokevirtual 312, 3) := by decide +kernel
theorem dX8_leafRead_80 : decode cX8_leafRead 80 = .ok (.aload_n 0, 1) := by decide +kernel
theorem dX8_leafRead_81 : decode cX8_leafRead 81 = .ok (.invokevirtual 215, 3) := by decide +kernel
theorem dX8_leafRead_84 : decode cX8_leafRead 84 = .ok (.iconst 1, 1) := by decide +kernel
theorem dX8_leafRead_85 : decode cX8_leafRead 85 = .ok (.ireturn, 1) := by decide +kernel
theorem dX8_leafRead_86 : decode cX8_leafRead 86 = .ok (.aload_n 0, 1) := by decide +kernel
theorem dX8_leafRead_87 : decode cX8_leafRead 87 = .ok (.invokevirtual 326, 3) := by decide +kernel
theorem dX8_leafRead_90 : decode cX8_leafRead 90 = .ok (.istore_n 1, 1) := by decide +kernel
theorem dX8_leafRead_91 : decode cX8_leafRead 91 = .ok (.iload_n 1, 1) := by decide +kernel
theorem dX8_leafRead_92 : decode cX8_leafRead 92 = .ok (.ifCond .ge 17, 3) := by decide +kernel
theorem dX8_leafRead_95 : decode cX8_leafRead 95 = .ok (.aload_n 0, 1) := by decide +kernel
theorem dX8_leafRead_96 : decode cX8_leafRead 96 = .ok (.getfield 181, 3) := by decide +kernel
theorem dX8_leafRead_99 : decode cX8_leafRead 99 = .ok (.iconst 3, 1) := by decide +kernel
theorem dX8_leafRead_100 : decode cX8_leafRead 100 = .ok (.if_icmp .eq 9, 3) := by decide +kernel
theorem dX8_leafRead_103 : decode cX8_leafRead 103 = .ok (.aload_n 0, 1) := by decide +kernel
theorem dX8_leafRead_104 : decode cX8_leafRead 104 = .ok (.iconst 1, 1) := by decide +kernel
theorem dX8_leafRead_105 : decode cX8_leafRead 105 = .ok (.invokevirtual 205, 3) := by decide +kernel
theorem dX8_leafRead_108 : decode cX8_leafRead 108 = .ok (.ireturn, 1) := by decide +kernel
theorem dX8_leafRead_109 : decode cX8_leafRead 109 = .ok (.iload_n 1, 1) := by decide +kernel
theorem dX8_leafRead_110 : decode cX8_leafRead 110 = .ok (.ifCond .ge 19, 3) := by decide +kernel
theorem dX8_leafRead_113 : decode cX8_leafRead 113 = .ok (.aload_n 0, 1) := by decide +kernel
theorem dX8_leafRead_114 : decode cX8_leafRead 114 = .ok (.getfield 192, 3) := by decide +kernel
theorem dX8_leafRead_117 : decode cX8_leafRead 117 = .ok (.sipush 9999, 3) := by decide +kernel
theorem dX8_leafRead_120 : decode cX8_leafRead 120 = .ok (.if_icmp .le 9, 3) := by decide +kernel
theorem dX8_leafRead_123 : decode cX8_leafRead 123 = .ok (.aload_n 0, 1) := by decide +kernel
theorem dX8_leafRead_124 : decode cX8_leafRead 124 = .ok (.iconst 2, 1) := by decide +kernel
theorem dX8_leafRead_125 : decode cX8_leafRead 125 = .ok (.invokevirtual 205, 3) := by decide +kernel
theorem dX8_leafRead_128 : decode cX8_leafRead 128 = .ok (.ireturn, 1) := by decide +kernel
theorem dX8_leafRead_129 : decode cX8_leafRead 129 = .ok (.aload_n 0, 1) := by decide +kernel
theorem dX8_leafRead_130 : decode cX8_leafRead 130 = .ok (.invokevirtual 323, 3) := by decide +kernel
theorem dX8_leafRead_133 : decode cX8_leafRead 133 = .ok (.ifCond .ne 5, 3) := by decide +kernel
theorem dX8_leafRead_136 : decode cX8_leafRead 136 = .ok (.iconst 0, 1) := by decide +kernel
theorem dX8_leafRead_137 : decode cX8_leafRead 137 = .ok (.ireturn, 1) := by decide +kernel
theorem dX8_leafRead_138 : decode cX8_leafRead 138 = .ok (.aload_n 0, 1) := by decide +kernel
theorem dX8_leafRead_139 : decode cX8_leafRead 139 = .ok (.iload_n 1, 1) := by decide +kernel
theorem dX8_leafRead_140 : decode cX8_leafRead 140 = .ok (.ifCond .lt 7, 3) := by decide +kernel
theorem dX8_leafRead_143 : decode cX8_leafRead 143 = .ok (.iconst 1, 1) := by decide +kernel
theorem dX8_leafRead_144 : decode cX8_leafRead 144 = .ok (.goto 4, 3) := by decide +kernel
theorem dX8_leafRead_147 : decode cX8_leafRead 147 = .ok (.iconst 0, 1) := by decide +kernel
theorem dX8_leafRead_148 : decode cX8_leafRead 148 = .ok (.iload_n 1, 1) := by decide +kernel
theorem dX8_leafRead_149 : decode cX8_leafRead 149 = .ok (.ifCond .lt 7, 3) := by decide +kernel
theorem dX8_leafRead_152 : decode cX8_leafRead 152 = .ok (.iload_n 1, 1) := by decide +kernel
theorem dX8_leafRead_153 : decode cX8_leafRead 153 = .ok (.goto 7, 3) := by decide +kernel
theorem dX8_leafRead_156 : decode cX8_leafRead 156 = .ok (.aload_n 0, 1) := by decide +kernel
theorem dX8_leafRead_157 : decode cX8_leafRead 157 = .ok (.getfield 192, 3) := by decide +kernel
theorem dX8_leafRead_160 : decode cX8_leafRead 160 = .ok (.iconst 0, 1) := by decide +kernel
theorem dX8_leafRead_161 : decode cX8_leafRead 161 = .ok (.invokevirtual 305, 3) := by decide +kernel
theorem dX8_leafRead_164 : decode cX8_leafRead 164 = .ok (.aload_n 0, 1) := by decide +kernel
theorem dX8_leafRead_165 : decode cX8_leafRead 165 = .ok (.iconst 0, 1) := by decide +kernel
theorem dX8_leafRead_166 : decode cX8_leafRead 166 = .ok (.putfield 329, 3) := by decide +kernel
theorem dX8_leafRead_169 : decode cX8_leafRead 169 = .ok (.aload_n 0, 1) := by decide +kernel
theorem dX8_leafRead_170 : decode cX8_leafRead 170 = .ok (.invokevirtual 215, 3) := by decide +kernel
theorem dX8_leafRead_173 : decode cX8_leafRead 173 = .ok (.iconst 1, 1) := by decide +kernel
theorem dX8_leafRead_174 : decode cX8_leafRead 174 = .ok (.ireturn, 1) := by decide +kernel
def f_X8_tideLine (N : Nat) (h : Hp) : Option (Bool × Hp) :=
  if ¬ (gI h 8 0 20) = 4 then
    (f_X8_token N h).bind fun h1 =>
    lt_ ((gI h1 8 0 10)) fun v2 =>
    bd2 (f_X8_number N h1 0 23) fun v4 h3 =>
    if ¬ (b2i v4) = 0 then
      (f_X8_find N h3 8 0 12 4 (gI h3 8 0 20) (gI h3 8 0 11)).bind fun v5 =>
      if v5 < 0 then
        grd (inb (4 + (gI h3 8 0 20)) 8) <| lt_ (sA h3 8 0 12 (4 + (gI h3 8 0 20)).toNatClampNeg (gI h3 8 0 11)) fun h6 =>
        lt_ (sI h6 8 0 20 ((gI h6 8 0 20) + 1)) fun h7 =>
        some (true, h7)
      else
      lt_ (sI h3 8 0 10 v2) fun h8 =>
      bd2 (f_X8_wrong h8 3) fun v10 h9 =>
      some (v10, h9)
    else
    some (false, h3)
  else
  bd2 (f_X8_wrong h 2) fun v12 h11 =>
  some (v12, h11)
abbrev rmX8_tideLine : Room := { frames := 3, cells := 0, slots := 0, locals := 69 }
set_option maxRecDepth 100000 in
set_option maxHeartbeats 4000000 in
theorem w_X8_tideLine (X : Cx) (F : Fx X cX8_tideLine RX8 (some .boolean) rmX8_tideLine) (hA : xA X = Aw (xG X)) (hL : xL X = 2) (N : Nat) (h : Hp) : Wm X (fun v => some (.int (b2i v.1))) (fun v => v.2) (fun _ => True) 0 [(0, .ref (adr (xG X) 8 0 0))] [] h (f_X8_tideLine N h) := by
  have hS : ∀ i : Nat, i < 2 → i < xL X := fun i z => by rw [hL]; exact z
  unfold f_X8_tideLine
  refine r_aload_n F 0 rfl dX8_tideLine_0 rfl ?_
  refine r_getI F frX8_234 (by decide) dX8_tideLine_1 ?_
  refine r_iconst F (v := 4) dX8_tideLine_4 (by decide) ?_
  refine r_icmpne F (tgt := 14) dX8_tideLine_5 (by decide) ?_ ?_
  · skip
    refine r_aload_n F 0 rfl dX8_tideLine_14 rfl ?_
    refine k_vH (run_V F cvX8_215 (by decide) (c_X8_token (xG X) _ N h) rfl rfl ⟨⟨rfl, rfl⟩, Nat.le_of_ble_eq_true rfl, Nat.le_of_ble_eq_true rfl⟩ (Nat.le_of_ble_eq_true rfl) dX8_tideLine_15) fun h1 => ?_
    refine r_aload_n F 0 rfl dX8_tideLine_18 rfl ?_
    refine r_getI F frX8_172 (by decide) dX8_tideLine_19 ?_
    refine r_nmI fun v2 => ?_
    refine r_istore_n F [(1, .int v2), (0, .ref (adr (xG X) 8 0 0))] rfl dX8_tideLine_22 rfl (hS _ (by decide)) ?_
    refine r_aload_n F 1 rfl dX8_tideLine_23 rfl ?_
    refine r_iconst F (v := 0) dX8_tideLine_24 (by decide) ?_
    refine r_bipush F (v := 23) dX8_tideLine_25 (by decide) ?_
    refine k_zH (run_V F cvX8_221 (by decide) (c_X8_number (xG X) _ N h1 0 23) rfl rfl ⟨⟨rfl, rfl⟩, Nat.le_of_ble_eq_true rfl, Nat.le_of_ble_eq_true rfl⟩ (Nat.le_of_ble_eq_true rfl) dX8_tideLine_27) fun v4 h3 => ?_
    refine r_ifne F (tgt := 35) dX8_tideLine_30 (by decide) ?_ ?_
    · skip
      refine r_aload_n F 1 rfl dX8_tideLine_35 rfl ?_
      refine r_getA F frX8_51 (by decide) dX8_tideLine_36 ?_
      refine r_iconst F (v := 4) dX8_tideLine_39 (by decide) ?_
      refine r_aload_n F 1 rfl dX8_tideLine_40 rfl ?_
      refine r_getI F frX8_234 (by decide) dX8_tideLine_41 ?_
      refine r_aload_n F 1 rfl dX8_tideLine_44 rfl ?_
      refine r_getI F frX8_212 (by decide) dX8_tideLine_45 ?_
      refine k_iP (run_S F csX8_265 (c_X8_find (xG X) _ N h3 8 0 12 (ar_8_12 0 (by decide)) 4 (gI h3 8 0 20) (gI h3 8 0 11)) rfl rfl ⟨⟨rfl, rfl⟩, Nat.le_of_ble_eq_true rfl, Nat.le_of_ble_eq_true rfl⟩ (Nat.le_of_ble_eq_true rfl) dX8_tideLine_48) fun v5 _ => ?_
      refine r_iflt F (tgt := 65) dX8_tideLine_51 (by decide) ?_ ?_
      · skip
        refine r_aload_n F 1 rfl dX8_tideLine_65 rfl ?_
        refine r_getA F frX8_51 (by decide) dX8_tideLine_66 ?_
        refine r_iconst F (v := 4) dX8_tideLine_69 (by decide) ?_
        refine r_aload_n F 1 rfl dX8_tideLine_70 rfl ?_
        refine r_getI F frX8_234 (by decide) dX8_tideLine_71 ?_
        refine r_iadd F dX8_tideLine_74 ?_
        refine r_aload_n F 1 rfl dX8_tideLine_75 rfl ?_
        refine r_getI F frX8_212 (by decide) dX8_tideLine_76 ?_
        refine r_iastore F (ar_8_12 0 (by decide)) dX8_tideLine_79 fun h6 => ?_
        refine r_aload_n F 1 rfl dX8_tideLine_80 rfl ?_
        refine r_dup F rfl dX8_tideLine_81 ?_
        refine r_getI F frX8_234 (by decide) dX8_tideLine_82 ?_
        refine r_iconst F (v := 1) dX8_tideLine_85 (by decide) ?_
        refine r_iadd F dX8_tideLine_86 ?_
        refine r_putI F frX8_234 (by decide) rfl rfl dX8_tideLine_87 fun h7 => ?_
        refine r_iconst F (v := 1) dX8_tideLine_90 (by decide) ?_
        exact r_zret F hA true rfl rfl rfl trivial dX8_tideLine_91
      refine r_aload_n F 1 rfl dX8_tideLine_54 rfl ?_
      refine r_iload_n F 0 rfl dX8_tideLine_55 rfl ?_
      refine r_putI F frX8_172 (by decide) rfl rfl dX8_tideLine_56 fun h8 => ?_
      refine r_aload_n F 1 rfl dX8_tideLine_59 rfl ?_
      refine r_iconst F (v := 3) dX8_tideLine_60 (by decide) ?_
      refine k_zH (run_V F cvX8_205 (by decide) (c_X8_wrong (xG X) _ h8 3) rfl rfl ⟨⟨rfl, rfl⟩, Nat.le_of_ble_eq_true rfl, Nat.le_of_ble_eq_true rfl⟩ (Nat.le_of_ble_eq_true rfl) dX8_tideLine_61) fun v10 h9 => ?_
      exact r_zret F hA v10 rfl rfl rfl trivial dX8_tideLine_64
    refine r_iconst F (v := 0) dX8_tideLine_33 (by decide) ?_
    exact r_zret F hA false rfl rfl rfl trivial dX8_tideLine_34
  refine r_aload_n F 0 rfl dX8_tideLine_8 rfl ?_
  refine r_iconst F (v := 2) dX8_tideLine_9 (by decide) ?_
  refine k_zH (run_V F cvX8_205 (by decide) (c_X8_wrong (xG X) _ h 2) rfl rfl ⟨⟨rfl, rfl⟩, Nat.le_of_ble_eq_true rfl, Nat.le_of_ble_eq_true rfl⟩ (Nat.le_of_ble_eq_true rfl) dX8_tideLine_10) fun v12 h11 => ?_
  exact r_zret F hA v12 rfl rfl rfl trivial dX8_tideLine_13
theorem c_X8_tideLine (G : Gx) (l : Launch) (N : Nat) (h : Hp) : Ctr G l yX8_tideLine (.code yX8_tideLine cX8_tideLine 2 (some .boolean) :: GT) rmX8_tideLine [.ref (adr G 8 0 0)] h (f_X8_tideLine N h) (fun v => some (.int (b2i v.1))) (fun v => v.2) (fun _ => True) :=
  ctr_of (by decide) (Nat.le_of_ble_eq_true rfl) ⟨rfl, rfl⟩ fun X _ e2 hA hL F => by subst e2; exact w_X8_tideLine X F hA hL N h
def f_X8_onceLine (N : Nat) (h : Hp) : Option (Bool × Hp) :=
  if (gI h 8 0 9) = 4 then
    bd2 (f_X8_isOnce N h 0) fun v2 h1 =>
    jn (fun (h3 : Hp) =>
      some (false, h3)) fun (j51 : Hp → Option (Bool × Hp)) =>
    if (b2i v2) = 0 then
      j51 h1
    else
    bd2 (f_X8_number N h1 0 999) fun v5 h4 =>
    if ¬ (b2i v5) = 0 then
      grd (inb 5 10) <| lt_ (sA h4 8 0 3 (5 : Int32).toNatClampNeg (gI h4 8 0 11)) fun h6 =>
      some (true, h6)
    else
    j51 h4
  else
  if (gI h 8 0 9) = 5 then
    bd2 (f_X8_isOnce N h 1) fun v8 h7 =>
    if ¬ (b2i v8) = 0 then
      jn (
        bd2 (f_X8_wrong h7 1) fun v10 h9 =>
        some (v10, h9)) fun (j101 : Option (Bool × Hp)) =>
      if ¬ (gI h7 8 0 8) = 1 then
        j101
      else
      if (gI h7 8 0 9) < 9 then
        j101
      else
      if (gI h7 8 0 9) ≤ 11 then
        grd (inb 6 10) <| lt_ (sA h7 8 0 3 (6 : Int32).toNatClampNeg ((gI h7 8 0 9) - 9)) fun h11 =>
        (f_X8_token N h11).bind fun h12 =>
        some (true, h12)
      else
      j101
    else
    some (false, h7)
  else
  if (gI h 8 0 9) = 6 then
    bd2 (f_X8_isOnce N h 2) fun v14 h13 =>
    jn (fun (h15 : Hp) =>
      some (false, h15)) fun (j145 : Hp → Option (Bool × Hp)) =>
    if (b2i v14) = 0 then
      j145 h13
    else
    bd2 (f_X8_number N h13 0 100) fun v17 h16 =>
    if ¬ (b2i v17) = 0 then
      grd (inb 7 10) <| lt_ (sA h16 8 0 3 (7 : Int32).toNatClampNeg (gI h16 8 0 11)) fun h18 =>
      bd2 (f_X8_number N h18 0 99) fun v20 h19 =>
      if ¬ (b2i v20) = 0 then
        grd (inb 8 10) <| lt_ (sA h19 8 0 3 (8 : Int32).toNatClampNeg (gI h19 8 0 11)) fun h21 =>
        some (true, h21)
      else
      some (false, h19)
    else
    j145 h16
  else
  bd2 (f_X8_isOnce N h 3) fun v23 h22 =>
  jn (fun (h24 : Hp) =>
    some (false, h24)) fun (j201 : Hp → Option (Bool × Hp)) =>
  if (b2i v23) = 0 then
    j201 h22
  else
  bd2 (f_X8_number N h22 0 99999) fun v26 h25 =>
  if ¬ (b2i v26) = 0 then
    grd (inb 9 10) <| lt_ (sA h25 8 0 3 (9 : Int32).toNatClampNeg (gI h25 8 0 11)) fun h27 =>
    some (true, h27)
  else
  j201 h25
abbrev rmX8_onceLine : Room := { frames := 3, cells := 0, slots := 0, locals := 69 }
set_option maxRecDepth 100000 in
set_option maxHeartbeats 4000000 in
theorem w_X8_onceLine (X : Cx) (F : Fx X cX8_onceLine RX8 (some .boolean) rmX8_onceLine) (hA : xA X = Aw (xG X)) (hL : xL X = 1) (N : Nat) (h : Hp) : Wm X (fun v => some (.int (b2i v.1))) (fun v => v.2) (fun _ => True) 0 [(0, .ref (adr (xG X) 8 0 0))] [] h (f_X8_onceLine N h) := by
  have hS : ∀ i : Nat, i < 1 → i < xL X := fun i z => by rw [hL]; exact z
  unfold f_X8_onceLine
  refine r_aload_n F 0 rfl dX8_onceLine_0 rfl ?_
  refine r_getI F frX8_192 (by decide) dX8_onceLine_1 ?_
  refine r_tsc F (tgt := 32) 4 0 dX8_onceLine_4 rfl (by decide) (by decide) (by decide) ?_ fun n0 => ?_
  · skip
    refine r_aload_n F 0 rfl dX8_onceLine_32 rfl ?_
    refine r_iconst F (v := 0) dX8_onceLine_33 (by decide) ?_
    refine k_zH (run_V F cvX8_269 (by decide) (c_X8_isOnce (xG X) _ N h 0) rfl rfl ⟨⟨rfl, rfl⟩, Nat.le_of_ble_eq_true rfl, Nat.le_of_ble_eq_true rfl⟩ (Nat.le_of_ble_eq_true rfl) dX8_onceLine_34) fun v2 h1 => ?_
    refine Wt_jn (fun (j51 : Hp → Option (Bool × Hp)) => ∀ h3 : Hp, Wm X (fun v => some (.int (b2i v.1))) (fun v => v.2) (fun _ => True) 51 [] [] h3 (j51 h3)) ?_ fun j51 hj51 => ?_
    · intro h3
      refine r_iconst F (v := 0) dX8_onceLine_51 (by decide) ?_
      exact r_zret F hA false rfl rfl rfl trivial dX8_onceLine_52
    refine r_ifeq F (tgt := 51) dX8_onceLine_37 (by decide) ?_ ?_
    · skip
      exact Wt_pick [] rfl (hj51 h1)
    refine r_aload_n F 0 rfl dX8_onceLine_40 rfl ?_
    refine r_iconst F (v := 0) dX8_onceLine_41 (by decide) ?_
    refine r_sipush F (v := 999) dX8_onceLine_42 (by decide) ?_
    refine k_zH (run_V F cvX8_221 (by decide) (c_X8_number (xG X) _ N h1 0 999) rfl rfl ⟨⟨rfl, rfl⟩, Nat.le_of_ble_eq_true rfl, Nat.le_of_ble_eq_true rfl⟩ (Nat.le_of_ble_eq_true rfl) dX8_onceLine_45) fun v5 h4 => ?_
    refine r_ifne F (tgt := 53) dX8_onceLine_48 (by decide) ?_ ?_
    · skip
      refine r_aload_n F 0 rfl dX8_onceLine_53 rfl ?_
      refine r_getA F frX8_24 (by decide) dX8_onceLine_54 ?_
      refine r_iconst F (v := 5) dX8_onceLine_57 (by decide) ?_
      refine r_aload_n F 0 rfl dX8_onceLine_58 rfl ?_
      refine r_getI F frX8_212 (by decide) dX8_onceLine_59 ?_
      refine r_iastore F (ar_8_3 0 (by decide)) dX8_onceLine_62 fun h6 => ?_
      refine r_iconst F (v := 1) dX8_onceLine_63 (by decide) ?_
      exact r_zret F hA true rfl rfl rfl trivial dX8_onceLine_64
    exact Wt_pick [] rfl (hj51 h4)
  refine r_tsc F (tgt := 65) 5 1 dX8_onceLine_4 rfl (by decide) (by decide) (by decide) ?_ fun n1 => ?_
  · skip
    refine r_aload_n F 0 rfl dX8_onceLine_65 rfl ?_
    refine r_iconst F (v := 1) dX8_onceLine_66 (by decide) ?_
    refine k_zH (run_V F cvX8_269 (by decide) (c_X8_isOnce (xG X) _ N h 1) rfl rfl ⟨⟨rfl, rfl⟩, Nat.le_of_ble_eq_true rfl, Nat.le_of_ble_eq_true rfl⟩ (Nat.le_of_ble_eq_true rfl) dX8_onceLine_67) fun v8 h7 => ?_
    refine r_ifne F (tgt := 75) dX8_onceLine_70 (by decide) ?_ ?_
    · skip
      refine r_aload_n F 0 rfl dX8_onceLine_75 rfl ?_
      refine r_getI F frX8_181 (by decide) dX8_onceLine_76 ?_
      refine r_iconst F (v := 1) dX8_onceLine_79 (by decide) ?_
      refine Wt_jn (fun (j101 : Option (Bool × Hp)) => Wm X (fun v => some (.int (b2i v.1))) (fun v => v.2) (fun _ => True) 101 [(0, .ref (adr (xG X) 8 0 0))] [] h7 (j101)) ?_ fun j101 hj101 => ?_
      · skip
        refine r_aload_n F 0 rfl dX8_onceLine_101 rfl ?_
        refine r_iconst F (v := 1) dX8_onceLine_102 (by decide) ?_
        refine k_zH (run_V F cvX8_205 (by decide) (c_X8_wrong (xG X) _ h7 1) rfl rfl ⟨⟨rfl, rfl⟩, Nat.le_of_ble_eq_true rfl, Nat.le_of_ble_eq_true rfl⟩ (Nat.le_of_ble_eq_true rfl) dX8_onceLine_103) fun v10 h9 => ?_
        exact r_zret F hA v10 rfl rfl rfl trivial dX8_onceLine_106
      refine r_icmpne F (tgt := 101) dX8_onceLine_80 (by decide) ?_ ?_
      · skip
        exact Wt_pick [0] rfl (hj101)
      refine r_aload_n F 0 rfl dX8_onceLine_83 rfl ?_
      refine r_getI F frX8_192 (by decide) dX8_onceLine_84 ?_
      refine r_bipush F (v := 9) dX8_onceLine_87 (by decide) ?_
      refine r_icmplt F (tgt := 101) dX8_onceLine_89 (by decide) ?_ ?_
      · skip
        exact Wt_pick [0] rfl (hj101)
      refine r_aload_n F 0 rfl dX8_onceLine_92 rfl ?_
      refine r_getI F frX8_192 (by decide) dX8_onceLine_93 ?_
      refine r_bipush F (v := 11) dX8_onceLine_96 (by decide) ?_
      refine r_icmple F (tgt := 107) dX8_onceLine_98 (by decide) ?_ ?_
      · skip
        refine r_aload_n F 0 rfl dX8_onceLine_107 rfl ?_
        refine r_getA F frX8_24 (by decide) dX8_onceLine_108 ?_
        refine r_bipush F (v := 6) dX8_onceLine_111 (by decide) ?_
        refine r_aload_n F 0 rfl dX8_onceLine_113 rfl ?_
        refine r_getI F frX8_192 (by decide) dX8_onceLine_114 ?_
        refine r_bipush F (v := 9) dX8_onceLine_117 (by decide) ?_
        refine r_isub F dX8_onceLine_119 ?_
        refine r_iastore F (ar_8_3 0 (by decide)) dX8_onceLine_120 fun h11 => ?_
        refine r_aload_n F 0 rfl dX8_onceLine_121 rfl ?_
        refine k_vH (run_V F cvX8_215 (by decide) (c_X8_token (xG X) _ N h11) rfl rfl ⟨⟨rfl, rfl⟩, Nat.le_of_ble_eq_true rfl, Nat.le_of_ble_eq_true rfl⟩ (Nat.le_of_ble_eq_true rfl) dX8_onceLine_122) fun h12 => ?_
        refine r_iconst F (v := 1) dX8_onceLine_125 (by decide) ?_
        exact r_zret F hA true rfl rfl rfl trivial dX8_onceLine_126
      exact Wt_pick [0] rfl (hj101)
    refine r_iconst F (v := 0) dX8_onceLine_73 (by decide) ?_
    exact r_zret F hA false rfl rfl rfl trivial dX8_onceLine_74
  refine r_tsc F (tgt := 127) 6 2 dX8_onceLine_4 rfl (by decide) (by decide) (by decide) ?_ fun n2 => ?_
  · skip
    refine r_aload_n F 0 rfl dX8_onceLine_127 rfl ?_
    refine r_iconst F (v := 2) dX8_onceLine_128 (by decide) ?_
    refine k_zH (run_V F cvX8_269 (by decide) (c_X8_isOnce (xG X) _ N h 2) rfl rfl ⟨⟨rfl, rfl⟩, Nat.le_of_ble_eq_true rfl, Nat.le_of_ble_eq_true rfl⟩ (Nat.le_of_ble_eq_true rfl) dX8_onceLine_129) fun v14 h13 => ?_
    refine Wt_jn (fun (j145 : Hp → Option (Bool × Hp)) => ∀ h15 : Hp, Wm X (fun v => some (.int (b2i v.1))) (fun v => v.2) (fun _ => True) 145 [] [] h15 (j145 h15)) ?_ fun j145 hj145 => ?_
    · intro h15
      refine r_iconst F (v := 0) dX8_onceLine_145 (by decide) ?_
      exact r_zret F hA false rfl rfl rfl trivial dX8_onceLine_146
    refine r_ifeq F (tgt := 145) dX8_onceLine_132 (by decide) ?_ ?_
    · skip
      exact Wt_pick [] rfl (hj145 h13)
    refine r_aload_n F 0 rfl dX8_onceLine_135 rfl ?_
    refine r_iconst F (v := 0) dX8_onceLine_136 (by decide) ?_
    refine r_bipush F (v := 100) dX8_onceLine_137 (by decide) ?_
    refine k_zH (run_V F cvX8_221 (by decide) (c_X8_number (xG X) _ N h13 0 100) rfl rfl ⟨⟨rfl, rfl⟩, Nat.le_of_ble_eq_true rfl, Nat.le_of_ble_eq_true rfl⟩ (Nat.le_of_ble_eq_true rfl) dX8_onceLine_139) fun v17 h16 => ?_
    refine r_ifne F (tgt := 147) dX8_onceLine_142 (by decide) ?_ ?_
    · skip
      refine r_aload_n F 0 rfl dX8_onceLine_147 rfl ?_
      refine r_getA F frX8_24 (by decide) dX8_onceLine_148 ?_
      refine r_bipush F (v := 7) dX8_onceLine_151 (by decide) ?_
      refine r_aload_n F 0 rfl dX8_onceLine_153 rfl ?_
      refine r_getI F frX8_212 (by decide) dX8_onceLine_154 ?_
      refine r_iastore F (ar_8_3 0 (by decide)) dX8_onceLine_157 fun h18 => ?_
      refine r_aload_n F 0 rfl dX8_onceLine_158 rfl ?_
      refine r_iconst F (v := 0) dX8_onceLine_159 (by decide) ?_
      refine r_bipush F (v := 99) dX8_onceLine_160 (by decide) ?_
      refine k_zH (run_V F cvX8_221 (by decide) (c_X8_number (xG X) _ N h18 0 99) rfl rfl ⟨⟨rfl, rfl⟩, Nat.le_of_ble_eq_true rfl, Nat.le_of_ble_eq_true rfl⟩ (Nat.le_of_ble_eq_true rfl) dX8_onceLine_162) fun v20 h19 => ?_
      refine r_ifne F (tgt := 170) dX8_onceLine_165 (by decide) ?_ ?_
      · skip
        refine r_aload_n F 0 rfl dX8_onceLine_170 rfl ?_
        refine r_getA F frX8_24 (by decide) dX8_onceLine_171 ?_
        refine r_bipush F (v := 8) dX8_onceLine_174 (by decide) ?_
        refine r_aload_n F 0 rfl dX8_onceLine_176 rfl ?_
        refine r_getI F frX8_212 (by decide) dX8_onceLine_177 ?_
        refine r_iastore F (ar_8_3 0 (by decide)) dX8_onceLine_180 fun h21 => ?_
        refine r_iconst F (v := 1) dX8_onceLine_181 (by decide) ?_
        exact r_zret F hA true rfl rfl rfl trivial dX8_onceLine_182
      refine r_iconst F (v := 0) dX8_onceLine_168 (by decide) ?_
      exact r_zret F hA false rfl rfl rfl trivial dX8_onceLine_169
    exact Wt_pick [] rfl (hj145 h16)
  refine r_tsd F (tgt := 183) dX8_onceLine_4 (by have e0 := lv_neT n0 (a := 4) (by decide); have e1 := lv_neT n1 (a := 5) (by decide); have e2 := lv_neT n2 (a := 6) (by decide); omega) (by decide) ?_
  refine r_aload_n F 0 rfl dX8_onceLine_183 rfl ?_
  refine r_iconst F (v := 3) dX8_onceLine_184 (by decide) ?_
  refine k_zH (run_V F cvX8_269 (by decide) (c_X8_isOnce (xG X) _ N h 3) rfl rfl ⟨⟨rfl, rfl⟩, Nat.le_of_ble_eq_true rfl, Nat.le_of_ble_eq_true rfl⟩ (Nat.le_of_ble_eq_true rfl) dX8_onceLine_185) fun v23 h22 => ?_
  refine Wt_jn (fun (j201 : Hp → Option (Bool × Hp)) => ∀ h24 : Hp, Wm X (fun v => some (.int (b2i v.1))) (fun v => v.2) (fun _ => True) 201 [] [] h24 (j201 h24)) ?_ fun j201 hj201 => ?_
  · intro h24
    refine r_iconst F (v := 0) dX8_onceLine_201 (by decide) ?_
    exact r_zret F hA false rfl rfl rfl trivial dX8_onceLine_202
  refine r_ifeq F (tgt := 201) dX8_onceLine_188 (by decide) ?_ ?_
  · skip
    exact Wt_pick [] rfl (hj201 h22)
  refine r_aload_n F 0 rfl dX8_onceLine_191 rfl ?_
  refine r_iconst F (v := 0) dX8_onceLine_192 (by decide) ?_
  refine r_ldc F wd_1589 dX8_onceLine_193 ?_
  refine k_zH (run_V F cvX8_221 (by decide) (c_X8_number (xG X) _ N h22 0 99999) rfl rfl ⟨⟨rfl, rfl⟩, Nat.le_of_ble_eq_true rfl, Nat.le_of_ble_eq_true rfl⟩ (Nat.le_of_ble_eq_true rfl) dX8_onceLine_195) fun v26 h25 => ?_
  refine r_ifne F (tgt := 203) dX8_onceLine_198 (by decide) ?_ ?_
  · skip
    refine r_aload_n F 0 rfl dX8_onceLine_203 rfl ?_
    refine r_getA F frX8_24 (by decide) dX8_onceLine_204 ?_
    refine r_bipush F (v := 9) dX8_onceLine_207 (by decide) ?_
    refine r_aload_n F 0 rfl dX8_onceLine_209 rfl ?_
    refine r_getI F frX8_212 (by decide) dX8_onceLine_210 ?_
    refine r_iastore F (ar_8_3 0 (by decide)) dX8_onceLine_213 fun h27 => ?_
    refine r_iconst F (v := 1) dX8_onceLine_214 (by decide) ?_
    exact r_zret F hA true rfl rfl rfl trivial dX8_onceLine_215
  exact Wt_pick [] rfl (hj201 h25)
theorem c_X8_onceLine (G : Gx) (l : Launch) (N : Nat) (h : Hp) : Ctr G l yX8_onceLine (.code yX8_onceLine cX8_onceLine 1 (some .boolean) :: GT) rmX8_onceLine [.ref (adr G 8 0 0)] h (f_X8_onceLine N h) (fun v => some (.int (b2i v.1))) (fun v => v.2) (fun _ => True) :=
  ctr_of (by decide) (Nat.le_of_ble_eq_true rfl) ⟨rfl, rfl⟩ fun X _ e2 hA hL F => by subst e2; exact w_X8_onceLine X F hA hL N h
def f_X8_waitsFor (h : Hp) (p1 : Int32) : Option Hp :=
  grd (inb (gI h 8 0 41) 96) <| lt_ (sA h 8 0 19 (gI h 8 0 41).toNatClampNeg p1) fun h1 =>
  lt_ (sI h1 8 0 41 ((gI h1 8 0 41) + 1)) fun h2 =>
  some h2
abbrev rmX8_waitsFor : Room := { frames := 0, cells := 0, slots := 0, locals := 0 }
set_option maxRecDepth 100000 in
set_option maxHeartbeats 4000000 in
theorem w_X8_waitsFor (X : Cx) (F : Fx X cX8_waitsFor RX8 none rmX8_waitsFor) (hA : xA X = Aw (xG X)) (hL : xL X = 2) (h : Hp) (p1 : Int32) : Wm X (fun _ => none) (fun v => v) (fun _ => True) 0 [(0, .ref (adr (xG X) 8 0 0)), (1, .int p1)] [] h (f_X8_waitsFor h p1) := by
  have hS : ∀ i : Nat, i < 2 → i < xL X := fun i z => by rw [hL]; exact z
  unfold f_X8_waitsFor
  refine r_aload_n F 0 rfl dX8_waitsFor_0 rfl ?_
  refine r_getA F frX8_72 (by decide) dX8_waitsFor_1 ?_
  refine r_aload_n F 0 rfl dX8_waitsFor_4 rfl ?_
  refine r_getI F frX8_294 (by decide) dX8_waitsFor_5 ?_
  refine r_iload_n F 1 rfl dX8_waitsFor_8 rfl ?_
  refine r_iastore F (ar_8_19 0 (by decide)) dX8_waitsFor_9 fun h1 => ?_
  refine r_aload_n F 0 rfl dX8_waitsFor_10 rfl ?_
  refine r_dup F rfl dX8_waitsFor_11 ?_
  refine r_getI F frX8_294 (by decide) dX8_waitsFor_12 ?_
  refine r_iconst F (v := 1) dX8_waitsFor_15 (by decide) ?_
  refine r_iadd F dX8_waitsFor_16 ?_
  refine r_putI F frX8_294 (by decide) rfl rfl dX8_waitsFor_17 fun h2 => ?_
  exact r_vret F hA rfl rfl trivial dX8_waitsFor_20
theorem c_X8_waitsFor (G : Gx) (l : Launch) (h : Hp) (p1 : Int32) : Ctr G l yX8_waitsFor (.code yX8_waitsFor cX8_waitsFor 2 none :: GT) rmX8_waitsFor [.ref (adr G 8 0 0), .int p1] h (f_X8_waitsFor h p1) (fun _ => none) (fun v => v) (fun _ => True) :=
  ctr_of (by decide) (Nat.le_of_ble_eq_true rfl) ⟨rfl, rfl⟩ fun X _ e2 hA hL F => by subst e2; exact w_X8_waitsFor X F hA hL h p1
def f_X8_isCounted (h : Hp) : Option (Bool × Hp) :=
  if ¬ (gI h 8 0 44) = 64 then
    lt_ (sI h 8 0 44 ((gI h 8 0 44) + 1)) fun h1 =>
    some (true, h1)
  else
  bd2 (f_X8_wrong h 2) fun v3 h2 =>
  some (v3, h2)
abbrev rmX8_isCounted : Room := { frames := 1, cells := 0, slots := 0, locals := 21 }
set_option maxRecDepth 100000 in
set_option maxHeartbeats 4000000 in
theorem w_X8_isCounted (X : Cx) (F : Fx X cX8_isCounted RX8 (some .boolean) rmX8_isCounted) (hA : xA X = Aw (xG X)) (hL : xL X = 1) (h : Hp) : Wm X (fun v => some (.int (b2i v.1))) (fun v => v.2) (fun _ => True) 0 [(0, .ref (adr (xG X) 8 0 0))] [] h (f_X8_isCounted h) := by
  have hS : ∀ i : Nat, i < 1 → i < xL X := fun i z => by rw [hL]; exact z
  unfold f_X8_isCounted
  refine r_aload_n F 0 rfl dX8_isCounted_0 rfl ?_
  refine r_getI F frX8_240 (by decide) dX8_isCounted_1 ?_
  refine r_bipush F (v := 64) dX8_isCounted_4 (by decide) ?_
  refine r_icmpne F (tgt := 15) dX8_isCounted_6 (by decide) ?_ ?_
  · skip
    refine r_aload_n F 0 rfl dX8_isCounted_15 rfl ?_
    refine r_dup F rfl dX8_isCounted_16 ?_
    refine r_getI F frX8_240 (by decide) dX8_isCounted_17 ?_
    refine r_iconst F (v := 1) dX8_isCounted_20 (by decide) ?_
    refine r_iadd F dX8_isCounted_21 ?_
    refine r_putI F frX8_240 (by decide) rfl rfl dX8_isCounted_22 fun h1 => ?_
    refine r_iconst F (v := 1) dX8_isCounted_25 (by decide) ?_
    exact r_zret F hA true rfl rfl rfl trivial dX8_isCounted_26
  refine r_aload_n F 0 rfl dX8_isCounted_9 rfl ?_
  refine r_iconst F (v := 2) dX8_isCounted_10 (by decide) ?_
  refine k_zH (run_V F cvX8_205 (by decide) (c_X8_wrong (xG X) _ h 2) rfl rfl ⟨⟨rfl, rfl⟩, Nat.le_of_ble_eq_true rfl, Nat.le_of_ble_eq_true rfl⟩ (Nat.le_of_ble_eq_true rfl) dX8_isCounted_11) fun v3 h2 => ?_
  exact r_zret F hA v3 rfl rfl rfl trivial dX8_isCounted_14
theorem c_X8_isCounted (G : Gx) (l : Launch) (h : Hp) : Ctr G l yX8_isCounted (.code yX8_isCounted cX8_isCounted 1 (some .boolean) :: GT) rmX8_isCounted [.ref (adr G 8 0 0)] h (f_X8_isCounted h) (fun v => some (.int (b2i v.1))) (fun v => v.2) (fun _ => True) :=
  ctr_of (by decide) (Nat.le_of_ble_eq_true rfl) ⟨rfl, rfl⟩ fun X _ e2 hA hL F => by subst e2; exact w_X8_isCounted X F hA hL h
def f_X8_nameMet (h : Hp) : Option Int32 :=
  jn (fun (v1 : Int32) =>
    some v1) fun (j28 : Int32 → Option Int32) =>
  jn (
    j28 (-1)) fun (j27 : Option Int32) =>
  if ¬ (gI h 8 0 8) = 1 then
    j27
  else
  if (gI h 8 0 9) < 19 then
    j27
  else
  j28 ((gI h 8 0 9) - 19)
abbrev rmX8_nameMet : Room := { frames := 0, cells := 0, slots := 0, locals := 0 }
set_option maxRecDepth 100000 in
set_option maxHeartbeats 4000000 in
theorem w_X8_nameMet (X : Cx) (F : Fx X cX8_nameMet RX8 (some .int) rmX8_nameMet) (hA : xA X = Aw (xG X)) (hL : xL X = 1) (h : Hp) : Wm X (fun v => some (.int v)) (fun _ => h) (fun _ => True) 0 [(0, .ref (adr (xG X) 8 0 0))] [] h (f_X8_nameMet h) := by
  have hS : ∀ i : Nat, i < 1 → i < xL X := fun i z => by rw [hL]; exact z
  unfold f_X8_nameMet
  refine r_aload_n F 0 rfl dX8_nameMet_0 rfl ?_
  refine r_getI F frX8_181 (by decide) dX8_nameMet_1 ?_
  refine r_iconst F (v := 1) dX8_nameMet_4 (by decide) ?_
  refine Wt_jn (fun (j28 : Int32 → Option Int32) => ∀ v1 : Int32, Wm X (fun v => some (.int v)) (fun _ => h) (fun _ => True) 28 [] [.int v1] h (j28 v1)) ?_ fun j28 hj28 => ?_
  · intro v1
    exact r_iret F hA rfl rfl trivial dX8_nameMet_28
  refine Wt_jn (fun (j27 : Option Int32) => Wm X (fun v => some (.int v)) (fun _ => h) (fun _ => True) 27 [] [] h (j27)) ?_ fun j27 hj27 => ?_
  · skip
    refine r_iconst F (v := (-1)) dX8_nameMet_27 (by decide) ?_
    exact Wt_pick [] rfl (hj28 (-1))
  refine r_icmpne F (tgt := 27) dX8_nameMet_5 (by decide) ?_ ?_
  · skip
    exact Wt_pick [] rfl (hj27)
  refine r_aload_n F 0 rfl dX8_nameMet_8 rfl ?_
  refine r_getI F frX8_192 (by decide) dX8_nameMet_9 ?_
  refine r_bipush F (v := 19) dX8_nameMet_12 (by decide) ?_
  refine r_icmplt F (tgt := 27) dX8_nameMet_14 (by decide) ?_ ?_
  · skip
    exact Wt_pick [] rfl (hj27)
  refine r_aload_n F 0 rfl dX8_nameMet_17 rfl ?_
  refine r_getI F frX8_192 (by decide) dX8_nameMet_18 ?_
  refine r_bipush F (v := 19) dX8_nameMet_21 (by decide) ?_
  refine r_isub F dX8_nameMet_23 ?_
  refine r_goto F (tgt := 28) dX8_nameMet_24 (by decide) ?_
  exact Wt_pick [] rfl (hj28 ((gI h 8 0 9) - 19))
theorem c_X8_nameMet (G : Gx) (l : Launch) (h : Hp) : Ctr G l yX8_nameMet (.code yX8_nameMet cX8_nameMet 1 (some .int) :: GT) rmX8_nameMet [.ref (adr G 8 0 0)] h (f_X8_nameMet h) (fun v => some (.int v)) (fun _ => h) (fun _ => True) :=
  ctr_of (by decide) (Nat.le_of_ble_eq_true rfl) ⟨rfl, rfl⟩ fun X _ e2 hA hL F => by subst e2; exact w_X8_nameMet X F hA hL h
def f_X8_grown (h : Hp) (p1 : Int32) (p2 : Int32) (p3 : Int32) : Option Hp :=
  grd (inb (64 + (gI h 8 0 21)) 128) <| lt_ (sA h 8 0 16 (64 + (gI h 8 0 21)).toNatClampNeg p1) fun h1 =>
  grd (inb (64 + (gI h1 8 0 21)) 128) <| lt_ (sA h1 8 0 17 (64 + (gI h1 8 0 21)).toNatClampNeg p2) fun h2 =>
  grd (inb (64 + (gI h2 8 0 21)) 128) <| lt_ (sA h2 8 0 18 (64 + (gI h2 8 0 21)).toNatClampNeg p3) fun h3 =>
  grd (inb (gI h3 8 0 42) 96) <| lt_ (sA h3 8 0 20 (gI h3 8 0 42).toNatClampNeg (gI h3 8 0 21)) fun h4 =>
  lt_ (sI h4 8 0 42 ((gI h4 8 0 42) + 1)) fun h5 =>
  lt_ (sI h5 8 0 21 ((gI h5 8 0 21) + 1)) fun h6 =>
  some h6
abbrev rmX8_grown : Room := { frames := 0, cells := 0, slots := 0, locals := 0 }
set_option maxRecDepth 100000 in
set_option maxHeartbeats 4000000 in
theorem w_X8_grown (X : Cx) (F : Fx X cX8_grown RX8 none rmX8_grown) (hA : xA X = Aw (xG X)) (hL : xL X = 4) (h : Hp) (p1 : Int32) (p2 : Int32) (p3 : Int32) : Wm X (fun _ => none) (fun v => v) (fun _ => True) 0 [(0, .ref (adr (xG X) 8 0 0)), (1, .int p1), (2, .int p2), (3, .int p3)] [] h (f_X8_grown h p1 p2 p3) := by
  have hS : ∀ i : Nat, i < 4 → i < xL X := fun i z => by rw [hL]; exact z
  unfold f_X8_grown
  refine r_aload_n F 0 rfl dX8_grown_0 rfl ?_
  refine r_getA F frX8_63 (by decide) dX8_grown_1 ?_
  refine r_bipush F (v := 64) dX8_grown_4 (by decide) ?_
  refine r_aload_n F 0 rfl dX8_grown_6 rfl ?_
  refine r_getI F frX8_237 (by decide) dX8_grown_7 ?_
  refine r_iadd F dX8_grown_10 ?_
  refine r_iload_n F 1 rfl dX8_grown_11 rfl ?_
  refine r_iastore F (ar_8_16 0 (by decide)) dX8_grown_12 fun h1 => ?_
  refine r_aload_n F 0 rfl dX8_grown_13 rfl ?_
  refine r_getA F frX8_66 (by decide) dX8_grown_14 ?_
  refine r_bipush F (v := 64) dX8_grown_17 (by decide) ?_
  refine r_aload_n F 0 rfl dX8_grown_19 rfl ?_
  refine r_getI F frX8_237 (by decide) dX8_grown_20 ?_
  refine r_iadd F dX8_grown_23 ?_
  refine r_iload_n F 2 rfl dX8_grown_24 rfl ?_
  refine r_iastore F (ar_8_17 0 (by decide)) dX8_grown_25 fun h2 => ?_
  refine r_aload_n F 0 rfl dX8_grown_26 rfl ?_
  refine r_getA F frX8_69 (by decide) dX8_grown_27 ?_
  refine r_bipush F (v := 64) dX8_grown_30 (by decide) ?_
  refine r_aload_n F 0 rfl dX8_grown_32 rfl ?_
  refine r_getI F frX8_237 (by decide) dX8_grown_33 ?_
  refine r_iadd F dX8_grown_36 ?_
  refine r_iload_n F 3 rfl dX8_grown_37 rfl ?_
  refine r_iastore F (ar_8_18 0 (by decide)) dX8_grown_38 fun h3 => ?_
  refine r_aload_n F 0 rfl dX8_grown_39 rfl ?_
  refine r_getA F frX8_75 (by decide) dX8_grown_40 ?_
  refine r_aload_n F 0 rfl dX8_grown_43 rfl ?_
  refine r_getI F frX8_291 (by decide) dX8_grown_44 ?_
  refine r_aload_n F 0 rfl dX8_grown_47 rfl ?_
  refine r_getI F frX8_237 (by decide) dX8_grown_48 ?_
  refine r_iastore F (ar_8_20 0 (by decide)) dX8_grown_51 fun h4 => ?_
  refine r_aload_n F 0 rfl dX8_grown_52 rfl ?_
  refine r_dup F rfl dX8_grown_53 ?_
  refine r_getI F frX8_291 (by decide) dX8_grown_54 ?_
  refine r_iconst F (v := 1) dX8_grown_57 (by decide) ?_
  refine r_iadd F dX8_grown_58 ?_
  refine r_putI F frX8_291 (by decide) rfl rfl dX8_grown_59 fun h5 => ?_
  refine r_aload_n F 0 rfl dX8_grown_62 rfl ?_
  refine r_dup F rfl dX8_grown_63 ?_
  refine r_getI F frX8_237 (by decide) dX8_grown_64 ?_
  refine r_iconst F (v := 1) dX8_grown_67 (by decide) ?_
  refine r_iadd F dX8_grown_68 ?_
  refine r_putI F frX8_237 (by decide) rfl rfl dX8_grown_69 fun h6 => ?_
  exact r_vret F hA rfl rfl trivial dX8_grown_72
theorem c_X8_grown (G : Gx) (l : Launch) (h : Hp) (p1 : Int32) (p2 : Int32) (p3 : Int32) : Ctr G l yX8_grown (.code yX8_grown cX8_grown 4 none :: GT) rmX8_grown [.ref (adr G 8 0 0), .int p1, .int p2, .int p3] h (f_X8_grown h p1 p2 p3) (fun _ => none) (fun v => v) (fun _ => True) :=
  ctr_of (by decide) (Nat.le_of_ble_eq_true rfl) ⟨rfl, rfl⟩ fun X _ e2 hA hL F => by subst e2; exact w_X8_grown X F hA hL h p1 p2 p3
def f_X8_leafRead (N : Nat) (h : Hp) : Option (Bool × Hp) :=
  (f_X8_isSign h 40).bind fun v1 =>
  if (b2i v1) = 0 then
    (f_X8_isKey h 18).bind fun v2 =>
    jn (
      (f_X8_nameMet h).bind fun v3 =>
      jn (
        jn (
          bd2 (f_X8_isCounted h) fun v5 h4 =>
          if ¬ (b2i v5) = 0 then
            jn (fun (v6 : Bool) =>
              jn (fun (v7 : Int32) =>
                (f_X8_grown h4 (b2i v6) v7 0).bind fun h8 =>
                lt_ (sZ h8 8 0 45 false) fun h9 =>
                (f_X8_token N h9).bind fun h10 =>
                some (true, h10)) fun (j160 : Int32 → Option (Bool × Hp)) =>
              if v3 < 0 then
                j160 (gI h4 8 0 9)
              else
              j160 v3) fun (j148 : Bool → Option (Bool × Hp)) =>
            if v3 < 0 then
              j148 false
            else
            j148 true
          else
          some (false, h4)) fun (j129 : Option (Bool × Hp)) =>
        if 0 ≤ v3 then
          j129
        else
        if (gI h 8 0 9) ≤ 9999 then
          j129
        else
        bd2 (f_X8_wrong h 2) fun v12 h11 =>
        some (v12, h11)) fun (j109 : Option (Bool × Hp)) =>
      if 0 ≤ v3 then
        j109
      else
      if (gI h 8 0 8) = 3 then
        j109
      else
      bd2 (f_X8_wrong h 1) fun v14 h13 =>
      some (v14, h13)) fun (j86 : Option (Bool × Hp)) =>
    if (b2i v2) = 0 then
      j86
    else
    if (b2i (gZ h 8 0 46)) = 0 then
      j86
    else
    bd2 (f_X8_isCounted h) fun v16 h15 =>
    if ¬ (b2i v16) = 0 then
      (f_X8_waitsFor h15 2).bind fun h17 =>
      (f_X8_token N h17).bind fun h18 =>
      some (true, h18)
    else
    some (false, h15)
  else
  if ¬ (gI h 8 0 43) = 8 then
    lt_ (sI h 8 0 43 ((gI h 8 0 43) + 1)) fun h19 =>
    (f_X8_waitsFor h19 0).bind fun h20 =>
    lt_ (sZ h20 8 0 46 true) fun h21 =>
    (f_X8_token N h21).bind fun h22 =>
    some (true, h22)
  else
  bd2 (f_X8_wrong h 2) fun v24 h23 =>
  some (v24, h23)
abbrev rmX8_leafRead : Room := { frames := 2, cells := 0, slots := 0, locals := 47 }
set_option maxRecDepth 100000 in
set_option maxHeartbeats 4000000 in
theorem w_X8_leafRead (X : Cx) (F : Fx X cX8_leafRead RX8 (some .boolean) rmX8_leafRead) (hA : xA X = Aw (xG X)) (hL : xL X = 2) (N : Nat) (h : Hp) : Wm X (fun v => some (.int (b2i v.1))) (fun v => v.2) (fun _ => True) 0 [(0, .ref (adr (xG X) 8 0 0))] [] h (f_X8_leafRead N h) := by
  have hS : ∀ i : Nat, i < 2 → i < xL X := fun i z => by rw [hL]; exact z
  unfold f_X8_leafRead
  refine r_aload_n F 0 rfl dX8_leafRead_0 rfl ?_
  refine r_bipush F (v := 40) dX8_leafRead_1 (by decide) ?_
  refine k_zP (run_V F cvX8_218 (by decide) (c_X8_isSign (xG X) _ h 40) rfl rfl ⟨⟨rfl, rfl⟩, Nat.le_of_ble_eq_true rfl, Nat.le_of_ble_eq_true rfl⟩ (Nat.le_of_ble_eq_true rfl) dX8_leafRead_3) fun v1 _ => ?_
  refine r_ifeq F (tgt := 50) dX8_leafRead_6 (by decide) ?_ ?_
  · skip
    refine r_aload_n F 0 rfl dX8_leafRead_50 rfl ?_
    refine r_bipush F (v := 18) dX8_leafRead_51 (by decide) ?_
    refine k_zP (run_V F cvX8_320 (by decide) (c_X8_isKey (xG X) _ h 18) rfl rfl ⟨⟨rfl, rfl⟩, Nat.le_of_ble_eq_true rfl, Nat.le_of_ble_eq_true rfl⟩ (Nat.le_of_ble_eq_true rfl) dX8_leafRead_53) fun v2 _ => ?_
    refine Wt_jn (fun (j86 : Option (Bool × Hp)) => Wm X (fun v => some (.int (b2i v.1))) (fun v => v.2) (fun _ => True) 86 [(0, .ref (adr (xG X) 8 0 0))] [] h (j86)) ?_ fun j86 hj86 => ?_
    · skip
      refine r_aload_n F 0 rfl dX8_leafRead_86 rfl ?_
      refine k_iP (run_V F cvX8_326 (by decide) (c_X8_nameMet (xG X) _ h) rfl rfl ⟨⟨rfl, rfl⟩, Nat.le_of_ble_eq_true rfl, Nat.le_of_ble_eq_true rfl⟩ (Nat.le_of_ble_eq_true rfl) dX8_leafRead_87) fun v3 _ => ?_
      refine r_istore_n F [(1, .int v3), (0, .ref (adr (xG X) 8 0 0))] rfl dX8_leafRead_90 rfl (hS _ (by decide)) ?_
      refine r_iload_n F 0 rfl dX8_leafRead_91 rfl ?_
      refine Wt_jn (fun (j109 : Option (Bool × Hp)) => Wm X (fun v => some (.int (b2i v.1))) (fun v => v.2) (fun _ => True) 109 [(0, .ref (adr (xG X) 8 0 0)), (1, .int v3)] [] h (j109)) ?_ fun j109 hj109 => ?_
      · skip
        refine r_iload_n F 1 rfl dX8_leafRead_109 rfl ?_
        refine Wt_jn (fun (j129 : Option (Bool × Hp)) => Wm X (fun v => some (.int (b2i v.1))) (fun v => v.2) (fun _ => True) 129 [(0, .ref (adr (xG X) 8 0 0)), (1, .int v3)] [] h (j129)) ?_ fun j129 hj129 => ?_
        · skip
          refine r_aload_n F 0 rfl dX8_leafRead_129 rfl ?_
          refine k_zH (run_V F cvX8_323 (by decide) (c_X8_isCounted (xG X) _ h) rfl rfl ⟨⟨rfl, rfl⟩, Nat.le_of_ble_eq_true rfl, Nat.le_of_ble_eq_true rfl⟩ (Nat.le_of_ble_eq_true rfl) dX8_leafRead_130) fun v5 h4 => ?_
          refine r_ifne F (tgt := 138) dX8_leafRead_133 (by decide) ?_ ?_
          · skip
            refine r_aload_n F 0 rfl dX8_leafRead_138 rfl ?_
            refine r_iload_n F 1 rfl dX8_leafRead_139 rfl ?_
            refine Wt_jn (fun (j148 : Bool → Option (Bool × Hp)) => ∀ v6 : Bool, Wm X (fun v => some (.int (b2i v.1))) (fun v => v.2) (fun _ => True) 148 [(0, .ref (adr (xG X) 8 0 0)), (1, .int v3)] [.int (b2i v6), .ref (adr (xG X) 8 0 0)] h4 (j148 v6)) ?_ fun j148 hj148 => ?_
            · intro v6
              refine r_iload_n F 1 rfl dX8_leafRead_148 rfl ?_
              refine Wt_jn (fun (j160 : Int32 → Option (Bool × Hp)) => ∀ v7 : Int32, Wm X (fun v => some (.int (b2i v.1))) (fun v => v.2) (fun _ => True) 160 [(0, .ref (adr (xG X) 8 0 0))] [.int v7, .int (b2i v6), .ref (adr (xG X) 8 0 0)] h4 (j160 v7)) ?_ fun j160 hj160 => ?_
              · intro v7
                refine r_iconst F (v := 0) dX8_leafRead_160 (by decide) ?_
                refine k_vH (run_V F cvX8_305 (by decide) (c_X8_grown (xG X) _ h4 (b2i v6) v7 0) rfl rfl ⟨⟨rfl, rfl⟩, Nat.le_of_ble_eq_true rfl, Nat.le_of_ble_eq_true rfl⟩ (Nat.le_of_ble_eq_true rfl) dX8_leafRead_161) fun h8 => ?_
                refine r_aload_n F 0 rfl dX8_leafRead_164 rfl ?_
                refine r_iconst F (v := 0) dX8_leafRead_165 (by decide) ?_
                refine r_putZ F false rfl frX8_329 (by decide) rfl rfl dX8_leafRead_166 fun h9 => ?_
                refine r_aload_n F 0 rfl dX8_leafRead_169 rfl ?_
                refine k_vH (run_V F cvX8_215 (by decide) (c_X8_token (xG X) _ N h9) rfl rfl ⟨⟨rfl, rfl⟩, Nat.le_of_ble_eq_true rfl, Nat.le_of_ble_eq_true rfl⟩ (Nat.le_of_ble_eq_true rfl) dX8_leafRead_170) fun h10 => ?_
                refine r_iconst F (v := 1) dX8_leafRead_173 (by decide) ?_
                exact r_zret F hA true rfl rfl rfl trivial dX8_leafRead_174
              refine r_iflt F (tgt := 156) dX8_leafRead_149 (by decide) ?_ ?_
              · skip
                refine r_aload_n F 0 rfl dX8_leafRead_156 rfl ?_
                refine r_getI F frX8_192 (by decide) dX8_leafRead_157 ?_
                exact Wt_pick [0] rfl (hj160 (gI h4 8 0 9))
              refine r_iload_n F 1 rfl dX8_leafRead_152 rfl ?_
              refine r_goto F (tgt := 160) dX8_leafRead_153 (by decide) ?_
              exact Wt_pick [0] rfl (hj160 v3)
            refine r_iflt F (tgt := 147) dX8_leafRead_140 (by decide) ?_ ?_
            · skip
              refine r_iconst F (v := 0) dX8_leafRead_147 (by decide) ?_
              exact Wt_pick [0, 1] rfl (hj148 false)
            refine r_iconst F (v := 1) dX8_leafRead_143 (by decide) ?_
            refine r_goto F (tgt := 148) dX8_leafRead_144 (by decide) ?_
            exact Wt_pick [0, 1] rfl (hj148 true)
          refine r_iconst F (v := 0) dX8_leafRead_136 (by decide) ?_
          exact r_zret F hA false rfl rfl rfl trivial dX8_leafRead_137
        refine r_ifge F (tgt := 129) dX8_leafRead_110 (by decide) ?_ ?_
        · skip
          exact Wt_pick [0, 1] rfl (hj129)
        refine r_aload_n F 0 rfl dX8_leafRead_113 rfl ?_
        refine r_getI F frX8_192 (by decide) dX8_leafRead_114 ?_
        refine r_sipush F (v := 9999) dX8_leafRead_117 (by decide) ?_
        refine r_icmple F (tgt := 129) dX8_leafRead_120 (by decide) ?_ ?_
        · skip
          exact Wt_pick [0, 1] rfl (hj129)
        refine r_aload_n F 0 rfl dX8_leafRead_123 rfl ?_
        refine r_iconst F (v := 2) dX8_leafRead_124 (by decide) ?_
        refine k_zH (run_V F cvX8_205 (by decide) (c_X8_wrong (xG X) _ h 2) rfl rfl ⟨⟨rfl, rfl⟩, Nat.le_of_ble_eq_true rfl, Nat.le_of_ble_eq_true rfl⟩ (Nat.le_of_ble_eq_true rfl) dX8_leafRead_125) fun v12 h11 => ?_
        exact r_zret F hA v12 rfl rfl rfl trivial dX8_leafRead_128
      refine r_ifge F (tgt := 109) dX8_leafRead_92 (by decide) ?_ ?_
      · skip
        exact Wt_pick [1, 0] rfl (hj109)
      refine r_aload_n F 1 rfl dX8_leafRead_95 rfl ?_
      refine r_getI F frX8_181 (by decide) dX8_leafRead_96 ?_
      refine r_iconst F (v := 3) dX8_leafRead_99 (by decide) ?_
      refine r_icmpeq F (tgt := 109) dX8_leafRead_100 (by decide) ?_ ?_
      · skip
        exact Wt_pick [1, 0] rfl (hj109)
      refine r_aload_n F 1 rfl dX8_leafRead_103 rfl ?_
      refine r_iconst F (v := 1) dX8_leafRead_104 (by decide) ?_
      refine k_zH (run_V F cvX8_205 (by decide) (c_X8_wrong (xG X) _ h 1) rfl rfl ⟨⟨rfl, rfl⟩, Nat.le_of_ble_eq_true rfl, Nat.le_of_ble_eq_true rfl⟩ (Nat.le_of_ble_eq_true rfl) dX8_leafRead_105) fun v14 h13 => ?_
      exact r_zret F hA v14 rfl rfl rfl trivial dX8_leafRead_108
    refine r_ifeq F (tgt := 86) dX8_leafRead_56 (by decide) ?_ ?_
    · skip
      exact Wt_pick [0] rfl (hj86)
    refine r_aload_n F 0 rfl dX8_leafRead_59 rfl ?_
    refine r_getZ F frX8_316 (by decide) dX8_leafRead_60 ?_
    refine r_ifeq F (tgt := 86) dX8_leafRead_63 (by decide) ?_ ?_
    · skip
      exact Wt_pick [0] rfl (hj86)
    refine r_aload_n F 0 rfl dX8_leafRead_66 rfl ?_
    refine k_zH (run_V F cvX8_323 (by decide) (c_X8_isCounted (xG X) _ h) rfl rfl ⟨⟨rfl, rfl⟩, Nat.le_of_ble_eq_true rfl, Nat.le_of_ble_eq_true rfl⟩ (Nat.le_of_ble_eq_true rfl) dX8_leafRead_67) fun v16 h15 => ?_
    refine r_ifne F (tgt := 75) dX8_leafRead_70 (by decide) ?_ ?_
    · skip
      refine r_aload_n F 0 rfl dX8_leafRead_75 rfl ?_
      refine r_iconst F (v := 2) dX8_leafRead_76 (by decide) ?_
      refine k_vH (run_V F cvX8_312 (by decide) (c_X8_waitsFor (xG X) _ h15 2) rfl rfl ⟨⟨rfl, rfl⟩, Nat.le_of_ble_eq_true rfl, Nat.le_of_ble_eq_true rfl⟩ (Nat.le_of_ble_eq_true rfl) dX8_leafRead_77) fun h17 => ?_
      refine r_aload_n F 0 rfl dX8_leafRead_80 rfl ?_
      refine k_vH (run_V F cvX8_215 (by decide) (c_X8_token (xG X) _ N h17) rfl rfl ⟨⟨rfl, rfl⟩, Nat.le_of_ble_eq_true rfl, Nat.le_of_ble_eq_true rfl⟩ (Nat.le_of_ble_eq_true rfl) dX8_leafRead_81) fun h18 => ?_
      refine r_iconst F (v := 1) dX8_leafRead_84 (by decide) ?_
      exact r_zret F hA true rfl rfl rfl trivial dX8_leafRead_85
    refine r_iconst F (v := 0) dX8_leafRead_73 (by decide) ?_
    exact r_zret F hA false rfl rfl rfl trivial dX8_leafRead_74
  refine r_aload_n F 0 rfl dX8_leafRead_9 rfl ?_
  refine r_getI F frX8_309 (by decide) dX8_leafRead_10 ?_
  refine r_bipush F (v := 8) dX8_leafRead_13 (by decide) ?_
  refine r_icmpne F (tgt := 24) dX8_leafRead_15 (by decide) ?_ ?_
  · skip
    refine r_aload_n F 0 rfl dX8_leafRead_24 rfl ?_
    refine r_dup F rfl dX8_leafRead_25 ?_
    refine r_getI F frX8_309 (by decide) dX8_leafRead_26 ?_
    refine r_iconst F (v := 1) dX8_leafRead_29 (by decide) ?_
    refine r_iadd F dX8_leafRead_30 ?_
    refine r_putI F frX8_309 (by decide) rfl rfl dX8_leafRead_31 fun h19 => ?_
    refine r_aload_n F 0 rfl dX8_leafRead_34 rfl ?_
    refine r_iconst F (v := 0) dX8_leafRead_35 (by decide) ?_
    refine k_vH (run_V F cvX8_312 (by decide) (c_X8_waitsFor (xG X) _ h19 0) rfl rfl ⟨⟨rfl, rfl⟩, Nat.le_of_ble_eq_true rfl, Nat.le_of_ble_eq_true rfl⟩ (Nat.le_of_ble_eq_true rfl) dX8_leafRead_36) fun h20 => ?_
    refine r_aload_n F 0 rfl dX8_leafRead_39 rfl ?_
    refine r_iconst F (v := 1) dX8_leafRead_40 (by decide) ?_
    refine r_putZ F true rfl frX8_316 (by decide) rfl rfl dX8_leafRead_41 fun h21 => ?_
    refine r_aload_n F 0 rfl dX8_leafRead_44 rfl ?_
    refine k_vH (run_V F cvX8_215 (by decide) (c_X8_token (xG X) _ N h21) rfl rfl ⟨⟨rfl, rfl⟩, Nat.le_of_ble_eq_true rfl, Nat.le_of_ble_eq_true rfl⟩ (Nat.le_of_ble_eq_true rfl) dX8_leafRead_45) fun h22 => ?_
    refine r_iconst F (v := 1) dX8_leafRead_48 (by decide) ?_
    exact r_zret F hA true rfl rfl rfl trivial dX8_leafRead_49
  refine r_aload_n F 0 rfl dX8_leafRead_18 rfl ?_
  refine r_iconst F (v := 2) dX8_leafRead_19 (by decide) ?_
  refine k_zH (run_V F cvX8_205 (by decide) (c_X8_wrong (xG X) _ h 2) rfl rfl ⟨⟨rfl, rfl⟩, Nat.le_of_ble_eq_true rfl, Nat.le_of_ble_eq_true rfl⟩ (Nat.le_of_ble_eq_true rfl) dX8_leafRead_20) fun v24 h23 => ?_
  exact r_zret F hA v24 rfl rfl rfl trivial dX8_leafRead_23
theorem c_X8_leafRead (G : Gx) (l : Launch) (N : Nat) (h : Hp) : Ctr G l yX8_leafRead (.code yX8_leafRead cX8_leafRead 2 (some .boolean) :: GT) rmX8_leafRead [.ref (adr G 8 0 0)] h (f_X8_leafRead N h) (fun v => some (.int (b2i v.1))) (fun v => v.2) (fun _ => True) :=
  ctr_of (by decide) (Nat.le_of_ble_eq_true rfl) ⟨rfl, rfl⟩ fun X _ e2 hA hL F => by subst e2; exact w_X8_leafRead X F hA hL N h
