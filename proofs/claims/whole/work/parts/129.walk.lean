theorem dX8_known_0 : decode cX8_known 0 = .ok (.aload_n 0, 1) := by decide +kernel
theorem dX8_known_1 : decode cX8_known 1 = .ok (.iconst 0, 1) := by decide +kernel
theorem dX8_known_2 : decode cX8_known 2 = .ok (.putfield 163, 3) := by decide +kernel
theorem dX8_known_5 : decode cX8_known 5 = .ok (.iload_n 1, 1) := by decide +kernel
theorem dX8_known_6 : decode cX8_known 6 = .ok (.iconst (-1), 1) := by decide +kernel
theorem dX8_known_7 : decode cX8_known 7 = .ok (.aload_n 0, 1) := by decide +kernel
theorem dX8_known_8 : decode cX8_known 8 = .ok (.getfield 373, 3) := by decide +kernel
theorem dX8_known_11 : decode cX8_known 11 = .ok (.invokestatic 208, 3) := by decide +kernel
theorem dX8_known_14 : decode cX8_known 14 = .ok (.ifCond .ne 5, 3) := by decide +kernel
theorem dX8_known_17 : decode cX8_known 17 = .ok (.iconst 0, 1) := by decide +kernel
theorem dX8_known_18 : decode cX8_known 18 = .ok (.ireturn, 1) := by decide +kernel
theorem dX8_known_19 : decode cX8_known 19 = .ok (.aload_n 0, 1) := by decide +kernel
theorem dX8_known_20 : decode cX8_known 20 = .ok (.iload_n 1, 1) := by decide +kernel
theorem dX8_known_21 : decode cX8_known 21 = .ok (.putfield 130, 3) := by decide +kernel
theorem dX8_known_24 : decode cX8_known 24 = .ok (.iconst 1, 1) := by decide +kernel
theorem dX8_known_25 : decode cX8_known 25 = .ok (.ireturn, 1) := by decide +kernel
theorem dX8_knownBy_0 : decode cX8_knownBy 0 = .ok (.aload_n 0, 1) := by decide +kernel
theorem dX8_knownBy_1 : decode cX8_knownBy 1 = .ok (.getfield 130, 3) := by decide +kernel
theorem dX8_knownBy_4 : decode cX8_knownBy 4 = .ok (.ifCond .ge 10, 3) := by decide +kernel
theorem dX8_knownBy_7 : decode cX8_knownBy 7 = .ok (.aload_n 0, 1) := by decide +kernel
theorem dX8_knownBy_8 : decode cX8_knownBy 8 = .ok (.getfield 373, 3) := by decide +kernel
theorem dX8_knownBy_11 : decode cX8_knownBy 11 = .ok (.goto 7, 3) := by decide +kernel
theorem dX8_knownBy_14 : decode cX8_knownBy 14 = .ok (.aload_n 0, 1) := by decide +kernel
theorem dX8_knownBy_15 : decode cX8_knownBy 15 = .ok (.getfield 130, 3) := by decide +kernel
theorem dX8_knownBy_18 : decode cX8_knownBy 18 = .ok (.ireturn, 1) := by decide +kernel
theorem dX8_isSo_0 : decode cX8_isSo 0 = .ok (.iconst 0, 1) := by decide +kernel
theorem dX8_isSo_1 : decode cX8_isSo 1 = .ok (.istore_n 2, 1) := by decide +kernel
theorem dX8_isSo_2 : decode cX8_isSo 2 = .ok (.iload_n 2, 1) := by decide +kernel
theorem dX8_isSo_3 : decode cX8_isSo 3 = .ok (.aload_n 0, 1) := by decide +kernel
theorem dX8_isSo_4 : decode cX8_isSo 4 = .ok (.invokevirtual 541, 3) := by decide +kernel
theorem dX8_isSo_7 : decode cX8_isSo 7 = .ok (.if_icmp .ge 81, 3) := by decide +kernel
theorem dX8_isSo_10 : decode cX8_isSo 10 = .ok (.aload_n 0, 1) := by decide +kernel
theorem dX8_isSo_11 : decode cX8_isSo 11 = .ok (.getfield 136, 3) := by decide +kernel
theorem dX8_isSo_14 : decode cX8_isSo 14 = .ok (.iload_n 2, 1) := by decide +kernel
theorem dX8_isSo_15 : decode cX8_isSo 15 = .ok (.baload, 1) := by decide +kernel
theorem dX8_isSo_16 : decode cX8_isSo 16 = .ok (.ifCond .eq 66, 3) := by decide +kernel
theorem dX8_isSo_19 : decode cX8_isSo 19 = .ok (.aload_n 0, 1) := by decide +kernel
theorem dX8_isSo_20 : decode cX8_isSo 20 = .ok (.getfield 133, 3) := by decide +kernel
theorem dX8_isSo_23 : decode cX8_isSo 23 = .ok (.iconst 3, 1) := by decide +kernel
theorem dX8_isSo_24 : decode cX8_isSo 24 = .ok (.iload_n 2, 1) := by decide +kernel
theorem dX8_isSo_25 : decode cX8_isSo 25 = .ok (.imul, 1) := by decide +kernel
theorem dX8_isSo_26 : decode cX8_isSo 26 = .ok (.iaload, 1) := by decide +kernel
theorem dX8_isSo_27 : decode cX8_isSo 27 = .ok (.iload_n 1, 1) := by decide +kernel
theorem dX8_isSo_28 : decode cX8_isSo 28 = .ok (.if_icmp .eq 6, 3) := by decide +kernel
theorem dX8_isSo_31 : decode cX8_isSo 31 = .ok (.goto 51, 3) := by decide +kernel
theorem dX8_isSo_34 : decode cX8_isSo 34 = .ok (.aload_n 0, 1) := by decide +kernel
theorem dX8_isSo_35 : decode cX8_isSo 35 = .ok (.getfield 109, 3) := by decide +kernel
theorem dX8_isSo_38 : decode cX8_isSo 38 = .ok (.iconst 1, 1) := by decide +kernel
theorem dX8_isSo_39 : decode cX8_isSo 39 = .ok (.iaload, 1) := by decide +kernel
theorem dX8_isSo_40 : decode cX8_isSo 40 = .ok (.aload_n 0, 1) := by decide +kernel
theorem dX8_isSo_41 : decode cX8_isSo 41 = .ok (.getfield 133, 3) := by decide +kernel
theorem dX8_isSo_44 : decode cX8_isSo 44 = .ok (.iconst 3, 1) := by decide +kernel
theorem dX8_isSo_45 : decode cX8_isSo 45 = .ok (.iload_n 2, 1) := by decide +kernel
theorem dX8_isSo_46 : decode cX8_isSo 46 = .ok (.imul, 1) := by decide +kernel
theorem dX8_isSo_47 : decode cX8_isSo 47 = .ok (.iconst 1, 1) := by decide +kernel
theorem dX8_isSo_48 : decode cX8_isSo 48 = .ok (.iadd, 1) := by decide +kernel
theorem dX8_isSo_49 : decode cX8_isSo 49 = .ok (.iaload, 1) := by decide +kernel
theorem dX8_isSo_50 : decode cX8_isSo 50 = .ok (.if_icmp .lt 7, 3) := by decide +kernel
theorem dX8_isSo_53 : decode cX8_isSo 53 = .ok (.iconst 1, 1) := by decide +kernel
theorem dX8_isSo_54 : decode cX8_isSo 54 = .ok (.goto 4, 3) := by decide +kernel
theorem dX8_isSo_57 : decode cX8_isSo 57 = .ok (.iconst 0, 1) := by decide +kernel
theorem dX8_isSo_58 : decode cX8_isSo 58 = .ok (.aload_n 0, 1) := by decide +kernel
theorem dX8_isSo_59 : decode cX8_isSo 59 = .ok (.getfield 133, 3) := by decide +kernel
theorem dX8_isSo_62 : decode cX8_isSo 62 = .ok (.iconst 3, 1) := by decide +kernel
theorem dX8_isSo_63 : decode cX8_isSo 63 = .ok (.iload_n 2, 1) := by decide +kernel
theorem dX8_isSo_64 : decode cX8_isSo 64 = .ok (.imul, 1) := by decide +kernel
theorem dX8_isSo_65 : decode cX8_isSo 65 = .ok (.iconst 2, 1) := by decide +kernel
theorem dX8_isSo_66 : decode cX8_isSo 66 = .ok (.iadd, 1) := by decide +kernel
theorem dX8_isSo_67 : decode cX8_isSo 67 = .ok (.iaload, 1) := by decide +kernel
theorem dX8_isSo_68 : decode cX8_isSo 68 = .ok (.iconst 1, 1) := by decide +kernel
theorem dX8_isSo_69 : decode cX8_isSo 69 = .ok (.if_icmp .ne 7, 3) := by decide +kernel
theorem dX8_isSo_72 : decode cX8_isSo 72 = .ok (.iconst 1, 1) := by decide +kernel
theorem dX8_isSo_73 : decode cX8_isSo 73 = .ok (.goto 4, 3) := by decide +kernel
theorem dX8_isSo_76 : decode cX8_isSo 76 = .ok (.iconst 0, 1) := by decide +kernel
theorem dX8_isSo_77 : decode cX8_isSo 77 = .ok (.if_icmp .eq 5, 3) := by decide +kernel
theorem dX8_isSo_80 : decode cX8_isSo 80 = .ok (.iconst 0, 1) := by decide +kernel
theorem dX8_isSo_81 : decode cX8_isSo 81 = .ok (.ireturn, 1) := by decide +kernel
theorem dX8_isSo_82 : decode cX8_isSo 82 = .ok (.iinc 2 1, 3) := by decide +kernel
theorem dX8_isSo_85 : decode cX8_isSo 85 = .ok (.goto (-83), 3) := by decide +kernel
theorem dX8_isSo_88 : decode cX8_isSo 88 = .ok (.iconst 1, 1) := by decide +kernel
theorem dX8_isSo_89 : decode cX8_isSo 89 = .ok (.ireturn, 1) := by decide +kernel
theorem dX8_came_0 : decode cX8_came 0 = .ok (.aload_n 0, 1) := by decide +kernel
theorem dX8_came_1 : decode cX8_came 1 = .ok (.iconst 0, 1) := by decide +kernel
theorem dX8_came_2 : decode cX8_came 2 = .ok (.putfield 163, 3) := by decide +kernel
theorem dX8_came_5 : decode cX8_came 5 = .ok (.aload_n 0, 1) := by decide +kernel
theorem dX8_came_6 : decode cX8_came 6 = .ok (.iload_n 1, 1) := by decide +kernel
theorem dX8_came_7 : decode cX8_came 7 = .ok (.invokevirtual 462, 3) := by decide +kernel
theorem dX8_came_10 : decode cX8_came 10 = .ok (.ifCond .ne 5, 3) := by decide +kernel
theorem dX8_came_13 : decode cX8_came 13 = .ok (.iconst (-1), 1) := by decide +kernel
theorem dX8_came_14 : decode cX8_came 14 = .ok (.ireturn, 1) := by decide +kernel
theorem dX8_came_15 : decode cX8_came 15 = .ok (.iconst 0, 1) := by decide +kernel
theorem dX8_came_16 : decode cX8_came 16 = .ok (.istore_n 2, 1) := by decide +kernel
theorem dX8_came_17 : decode cX8_came 17 = .ok (.iconst 0, 1) := by decide +kernel
theorem dX8_came_18 : decode cX8_came 18 = .ok (.istore_n 3, 1) := by decide +kernel
theorem dX8_came_19 : decode cX8_came 19 = .ok (.iload_n 3, 1) := by decide +kernel
theorem dX8_came_20 : decode cX8_came 20 = .ok (.aload_n 0, 1) := by decide +kernel
theorem dX8_came_21 : decode cX8_came 21 = .ok (.invokevirtual 541, 3) := by decide +kernel
theorem dX8_came_24 : decode cX8_came 24 = .ok (.if_icmp .ge 16, 3) := by decide +kernel
theorem dX8_came_27 : decode cX8_came 27 = .ok (.aload_n 0, 1) := by decide +kernel
theorem dX8_came_28 : decode cX8_came 28 = .ok (.getfield 136, 3) := by decide +kernel
theorem dX8_came_31 : decode cX8_came 31 = .ok (.iload_n 3, 1) := by decide +kernel
theorem dX8_came_32 : decode cX8_came 32 = .ok (.iconst 1, 1) := by decide +kernel
theorem dX8_came_33 : decode cX8_came 33 = .ok (.bastore, 1) := by decide +kernel
theorem dX8_came_34 : decode cX8_came 34 = .ok (.iinc 3 1, 3) := by decide +kernel
theorem dX8_came_37 : decode cX8_came 37 = .ok (.goto (-18), 3) := by decide +kernel
theorem dX8_came_40 : decode cX8_came 40 = .ok (.aload_n 0, 1) := by decide +kernel
theorem dX8_came_41 : decode cX8_came 41 = .ok (.invokevirtual 541, 3) := by decide +kernel
theorem dX8_came_44 : decode cX8_came 44 = .ok (.iconst 1, 1) := by decide +kernel
theorem dX8_came_45 : decode cX8_came 45 = .ok (.isub, 1) := by decide +kernel
theorem dX8_came_46 : decode cX8_came 46 = .ok (.istore_n 3, 1) := by decide +kernel
theorem dX8_came_47 : decode cX8_came 47 = .ok (.iload_n 3, 1) := by decide +kernel
theorem dX8_came_48 : decode cX8_came 48 = .ok (.ifCond .lt 45, 3) := by decide +kernel
theorem dX8_came_51 : decode cX8_came 51 = .ok (.aload_n 0, 1) := by decide +kernel
theorem dX8_came_52 : decode cX8_came 52 = .ok (.getfield 136, 3) := by decide +kernel
theorem dX8_came_55 : decode cX8_came 55 = .ok (.iload_n 3, 1) := by decide +kernel
theorem dX8_came_56 : decode cX8_came 56 = .ok (.baload, 1) := by decide +kernel
theorem dX8_came_57 : decode cX8_came 57 = .ok (.ifCond .eq 30, 3) := by decide +kernel
theorem dX8_came_60 : decode cX8_came 60 = .ok (.aload_n 0, 1) := by decide +kernel
theorem dX8_came_61 : decode cX8_came 61 = .ok (.getfield 133, 3) := by decide +kernel
theorem dX8_came_64 : decode cX8_came 64 = .ok (.iconst 3, 1) := by decide +kernel
theorem dX8_came_65 : decode cX8_came 65 = .ok (.iload_n 3, 1) := by decide +kernel
theorem dX8_came_66 : decode cX8_came 66 = .ok (.imul, 1) := by decide +kernel
theorem dX8_came_67 : decode cX8_came 67 = .ok (.iaload, 1) := by decide +kernel
theorem dX8_came_68 : decode cX8_came 68 = .ok (.ifCond .ge 19, 3) := by decide +kernel
theorem dX8_came_71 : decode cX8_came 71 = .ok (.aload_n 0, 1) := by decide +kernel
theorem dX8_came_72 : decode cX8_came 72 = .ok (.getfield 136, 3) := by decide +kernel
theorem dX8_came_75 : decode cX8_came 75 = .ok (.aload_n 0, 1) := by decide +kernel
theorem dX8_came_76 : decode cX8_came 76 = .ok (.getfield 133, 3) := by decide +kernel
theorem dX8_came_79 : decode cX8_came 79 = .ok (.iconst 3, 1) := by decide +kernel
theorem dX8_came_80 : decode cX8_came 80 = .ok (.iload_n 3, 1) := by decide +kernel
theorem dX8_came_81 : decode cX8_came 81 = .ok (.imul, 1) := by decide +kernel
theorem dX8_came_82 : decode cX8_came 82 = .ok (.iconst 1, 1) := by decide +kernel
theorem dX8_came_83 : decode cX8_came 83 = .ok (.iadd, 1) := by decide +kernel
theorem dX8_came_84 : decode cX8_came 84 = .ok (.iaload, 1) := by decide +kernel
theorem dX8_came_85 : decode cX8_came 85 = .ok (.iconst 0, 1) := by decide +kernel
theorem dX8_came_86 : decode cX8_came 86 = .ok (.bastore, 1) := by decide +kernel
theorem dX8_came_87 : decode cX8_came 87 = .ok (.iinc 3 (-1), 3) := by decide +kernel
theorem dX8_came_90 : decode cX8_came 90 = .ok (.goto (-43), 3) := by decide +kernel
theorem dX8_came_93 : decode cX8_came 93 = .ok (.iconst 0, 1) := by decide +kernel
theorem dX8_came_94 : decode cX8_came 94 = .ok (.istore_n 3, 1) := by decide +kernel
theorem dX8_came_95 : decode cX8_came 95 = .ok (.iload_n 3, 1) := by decide +kernel
theorem dX8_came_96 : decode cX8_came 96 = .ok (.aload_n 0, 1) := by decide +kernel
theorem dX8_came_97 : decode cX8_came 97 = .ok (.invokevirtual 541, 3) := by decide +kernel
theorem dX8_came_100 : decode cX8_came 100 = .ok (.if_icmp .ge 43, 3) := by decide +kernel
theorem dX8_came_103 : decode cX8_came 103 = .ok (.aload_n 0, 1) := by decide +kernel
theorem dX8_came_104 : decode cX8_came 104 = .ok (.getfield 136, 3) := by decide +kernel
theorem dX8_came_107 : decode cX8_came 107 = .ok (.iload_n 3, 1) := by decide +kernel
theorem dX8_came_108 : decode cX8_came 108 = .ok (.baload, 1) := by decide +kernel
theorem dX8_came_109 : decode cX8_came 109 = .ok (.ifCond .eq 26, 3) := by decide +kernel
theorem dX8_came_112 : decode cX8_came 112 = .ok (.aload_n 0, 1) := by decide +kernel
theorem dX8_came_113 : decode cX8_came 113 = .ok (.getfield 133, 3) := by decide +kernel
theorem dX8_came_116 : decode cX8_came 116 = .ok (.iconst 3, 1) := by decide +kernel
theorem dX8_came_117 : decode cX8_came 117 = .ok (.iload_n 3, 1) := by decide +kernel
theorem dX8_came_118 : decode cX8_came 118 = .ok (.imul, 1) := by decide +kernel
theorem dX8_came_119 : decode cX8_came 119 = .ok (.iaload, 1) := by decide +kernel
theorem dX8_came_120 : decode cX8_came 120 = .ok (.iload_n 2, 1) := by decide +kernel
theorem dX8_came_121 : decode cX8_came 121 = .ok (.if_icmp .le 14, 3) := by decide +kernel
theorem dX8_came_124 : decode cX8_came 124 = .ok (.aload_n 0, 1) := by decide +kernel
theorem dX8_came_125 : decode cX8_came 125 = .ok (.getfield 133, 3) := by decide +kernel
theorem dX8_came_128 : decode cX8_came 128 = .ok (.iconst 3, 1) := by decide +kernel
theorem dX8_came_129 : decode cX8_came 129 = .ok (.iload_n 3, 1) := by decide +kernel
theorem dX8_came_130 : decode cX8_came 130 = .ok (.imul, 1) := by decide +kernel
theorem dX8_came_131 : decode cX8_came 131 = .ok (.iaload, 1) := by decide +kernel
theorem dX8_came_132 : decode cX8_came 132 = .ok (.goto 4, 3) := by decide +kernel
theorem dX8_came_135 : decode cX8_came 135 = .ok (.iload_n 2, 1) := by decide +kernel
theorem dX8_came_136 : decode cX8_came 136 = .ok (.istore_n 2, 1) := by decide +kernel
theorem dX8_came_137 : decode cX8_came 137 = .ok (.iinc 3 1, 3) := by decide +kernel
theorem dX8_came_140 : decode cX8_came 140 = .ok (.goto (-45), 3) := by decide +kernel
theorem dX8_came_143 : decode cX8_came 143 = .ok (.iconst 0, 1) := by decide +kernel
theorem dX8_came_144 : decode cX8_came 144 = .ok (.istore_n 3, 1) := by decide +kernel
theorem dX8_came_145 : decode cX8_came 145 = .ok (.aload_n 0, 1) := by decide +kernel
theorem dX8_came_146 : decode cX8_came 146 = .ok (.invokevirtual 370, 3) := by decide +kernel
theorem dX8_came_149 : decode cX8_came 149 = .ok (.iconst 0, 1) := by decide +kernel
theorem dX8_came_150 : decode cX8_came 150 = .ok (.istore 4, 2) := by decide +kernel
theorem dX8_came_152 : decode cX8_came 152 = .ok (.iload 4, 2) := by decide +kernel
theorem dX8_came_154 : decode cX8_came 154 = .ok (.bipush 24, 2) := by decide +kernel
theorem dX8_came_156 : decode cX8_came 156 = .ok (.if_icmp .ge 82, 3) := by decide +kernel
theorem dX8_came_159 : decode cX8_came 159 = .ok (.aload_n 0, 1) := by decide +kernel
theorem dX8_came_160 : decode cX8_came 160 = .ok (.iconst 1, 1) := by decide +kernel
theorem dX8_came_161 : decode cX8_came 161 = .ok (.invokevirtual 360, 3) := by decide +kernel
theorem dX8_came_164 : decode cX8_came 164 = .ok (.aload_n 0, 1) := by decide +kernel
theorem dX8_came_165 : decode cX8_came 165 = .ok (.getfield 94, 3) := by decide +kernel
theorem dX8_came_168 : decode cX8_came 168 = .ok (.iconst 4, 1) := by decide +kernel
theorem dX8_came_169 : decode cX8_came 169 = .ok (.iload_n 1, 1) := by decide +kernel
theorem dX8_came_170 : decode cX8_came 170 = .ok (.iadd, 1) := by decide +kernel
theorem dX8_came_171 : decode cX8_came 171 = .ok (.iload 4, 2) := by decide +kernel
theorem dX8_came_173 : decode cX8_came 173 = .ok (.iastore, 1) := by decide +kernel
theorem dX8_came_174 : decode cX8_came 174 = .ok (.iconst 1, 1) := by decide +kernel
theorem dX8_came_175 : decode cX8_came 175 = .ok (.istore 5, 2) := by decide +kernel
theorem dX8_came_177 : decode cX8_came 177 = .ok (.iconst 1, 1) := by decide +kernel
theorem dX8_came_178 : decode cX8_came 178 = .ok (.istore 6, 2) := by decide +kernel
theorem dX8_came_180 : decode cX8_came 180 = .ok (.iload 6, 2) := by decide +kernel
theorem dX8_came_182 : decode cX8_came 182 = .ok (.iload_n 2, 1) := by decide +kernel
theorem dX8_came_183 : decode cX8_came 183 = .ok (.if_icmp .gt 33, 3) := by decide +kernel
theorem dX8_came_186 : decode cX8_came 186 = .ok (.iload 5, 2) := by decide +kernel
theorem dX8_came_188 : decode cX8_came 188 = .ok (.ifCond .eq 28, 3) := by decide +kernel
theorem dX8_came_191 : decode cX8_came 191 = .ok (.aload_n 0, 1) := by decide +kernel
theorem dX8_came_192 : decode cX8_came 192 = .ok (.iconst 1, 1) := by decide +kernel
theorem dX8_came_193 : decode cX8_came 193 = .ok (.aload_n 0, 1) := by decide +kernel
theorem dX8_came_194 : decode cX8_came 194 = .ok (.getfield 24, 3) := by decide +kernel
theorem dX8_came_197 : decode cX8_came 197 = .ok (.iconst 1, 1) := by decide +kernel
theorem dX8_came_198 : decode cX8_came 198 = .ok (.iaload, 1) := by decide +kernel
theorem dX8_came_199 : decode cX8_came 199 = .ok (.invokevirtual 482, 3) := by decide +kernel
theorem dX8_came_202 : decode cX8_came 202 = .ok (.aload_n 0, 1) := by decide +kernel
theorem dX8_came_203 : decode cX8_came 203 = .ok (.iload 6, 2) := by decide +kernel
theorem dX8_came_205 : decode cX8_came 205 = .ok (.invokevirtual 544, 3) := by decide +kernel
theorem dX8_came_208 : decode cX8_came 208 = .ok (.istore 5, 2) := by decide +kernel
theorem dX8_came_210 : decode cX8_came 210 = .ok (.iinc 6 1, 3) := by decide +kernel
theorem dX8_came_213 : decode cX8_came 213 = .ok (.goto (-33), 3) := by decide +kernel
theorem dX8_came_216 : decode cX8_came 216 = .ok (.iload_n 3, 1) := by decide +kernel
theorem dX8_came_217 : decode cX8_came 217 = .ok (.iload 5, 2) := by decide +kernel
theorem dX8_came_219 : decode cX8_came 219 = .ok (.ifCond .eq 10, 3) := by decide +kernel
theorem dX8_came_222 : decode cX8_came 222 = .ok (.iconst 1, 1) := by decide +kernel
theorem dX8_came_223 : decode cX8_came 223 = .ok (.iload 4, 2) := by decide +kernel
theorem dX8_came_225 : decode cX8_came 225 = .ok (.ishl, 1) := by decide +kernel
theorem dX8_came_226 : decode cX8_came 226 = .ok (.goto 4, 3) := by decide +kernel
theorem dX8_came_229 : decode cX8_came 229 = .ok (.iconst 0, 1) := by decide +kernel
theorem dX8_came_230 : decode cX8_came 230 = .ok (.ior, 1) := by decide +kernel
theorem dX8_came_231 : decode cX8_came 231 = .ok (.istore_n 3, 1) := by decide +kernel
theorem dX8_came_232 : decode cX8_came 232 = .ok (.iinc 4 1, 3) := by decide +kernel
theorem dX8_came_235 : decode cX8_came 235 = .ok (.goto (-83), 3) := by decide +kernel
theorem dX8_came_238 : decode cX8_came 238 = .ok (.iload_n 3, 1) := by decide +kernel
theorem dX8_came_239 : decode cX8_came 239 = .ok (.ireturn, 1) := by decide +kernel
theorem dX8_chance_0 : decode cX8_chance 0 = .ok (.aload_n 0, 1) := by decide +kernel
theorem dX8_chance_1 : decode cX8_chance 1 = .ok (.iconst 0, 1) := by decide +kernel
theorem dX8_chance_2 : decode cX8_chance 2 = .ok (.putfield 163, 3) := by decide +kernel
theorem dX8_chance_5 : decode cX8_chance 5 = .ok (.iload_n 1, 1) := by decide +kernel
theorem dX8_chance_6 : decode cX8_chance 6 = .ok (.ifCond .lt 33, 3) := by decide +kernel
theorem dX8_chance_9 : decode cX8_chance 9 = .ok (.iload_n 2, 1) := by decide +kernel
theorem dX8_chance_10 : decode cX8_chance 10 = .ok (.iconst 1, 1) := by decide +kernel
theorem dX8_chance_11 : decode cX8_chance 11 = .ok (.bipush 99, 2) := by decide +kernel
theorem dX8_chance_13 : decode cX8_chance 13 = .ok (.invokestatic 208, 3) := by decide +kernel
theorem dX8_chance_16 : decode cX8_chance 16 = .ok (.ifCond .eq 23, 3) := by decide +kernel
theorem dX8_chance_19 : decode cX8_chance 19 = .ok (.aload_n 0, 1) := by decide +kernel
theorem dX8_chance_20 : decode cX8_chance 20 = .ok (.iload_n 3, 1) := by decide +kernel
theorem dX8_chance_21 : decode cX8_chance 21 = .ok (.invokevirtual 462, 3) := by decide +kernel
theorem dX8_chance_24 : decode cX8_chance 24 = .ok (.ifCond .eq 15, 3) := by decide +kernel
theorem dX8_chance_27 : decode cX8_chance 27 = .ok (.iload 4, 2) := by decide +kernel
theorem dX8_chance_29 : decode cX8_chance 29 = .ok (.iconst 0, 1) := by decide +kernel
theorem dX8_chance_30 : decode cX8_chance 30 = .ok (.ldc_w 525, 3) := by decide +kernel
theorem dX8_chance_33 : decode cX8_chance 33 = .ok (.invokestatic 208, 3) := by decide +kernel
theorem dX8_chance_36 : decode cX8_chance 36 = .ok (.ifCond .ne 5, 3) := by decide +kernel
theorem dX8_chance_39 : decode cX8_chance 39 = .ok (.iconst (-1), 1) := by decide +kernel
theorem dX8_chance_40 : decode cX8_chance 40 = .ok (.ireturn, 1) := by decide +kernel
theorem dX8_chance_41 : decode cX8_chance 41 = .ok (.aload_n 0, 1) := by decide +kernel
theorem dX8_chance_42 : decode cX8_chance 42 = .ok (.getfield 366, 3) := by decide +kernel
theorem dX8_chance_45 : decode cX8_chance 45 = .ok (.lstore 5, 2) := by decide +kernel
theorem dX8_chance_47 : decode cX8_chance 47 = .ok (.aload_n 0, 1) := by decide +kernel
theorem dX8_chance_48 : decode cX8_chance 48 = .ok (.iload_n 1, 1) := by decide +kernel
theorem dX8_chance_49 : decode cX8_chance 49 = .ok (.i2l, 1) := by decide +kernel
theorem dX8_chance_50 : decode cX8_chance 50 = .ok (.putfield 366, 3) := by decide +kernel
theorem dX8_chance_53 : decode cX8_chance 53 = .ok (.iconst 0, 1) := by decide +kernel
theorem dX8_chance_54 : decode cX8_chance 54 = .ok (.istore 7, 2) := by decide +kernel
theorem dX8_chance_56 : decode cX8_chance 56 = .ok (.iconst 0, 1) := by decide +kernel
theorem dX8_chance_57 : decode cX8_chance 57 = .ok (.istore 8, 2) := by decide +kernel
theorem dX8_chance_59 : decode cX8_chance 59 = .ok (.iload 8, 2) := by decide +kernel
theorem dX8_chance_61 : decode cX8_chance 61 = .ok (.bipush 10, 2) := by decide +kernel
theorem dX8_chance_63 : decode cX8_chance 63 = .ok (.if_icmp .ge 65, 3) := by decide +kernel
theorem dX8_chance_66 : decode cX8_chance 66 = .ok (.aload_n 0, 1) := by decide +kernel
theorem dX8_chance_67 : decode cX8_chance 67 = .ok (.invokevirtual 485, 3) := by decide +kernel
theorem dX8_chance_70 : decode cX8_chance 70 = .ok (.iconst 0, 1) := by decide +kernel
theorem dX8_chance_71 : decode cX8_chance 71 = .ok (.istore 9, 2) := by decide +kernel
theorem dX8_chance_73 : decode cX8_chance 73 = .ok (.iload 9, 2) := by decide +kernel
theorem dX8_chance_75 : decode cX8_chance 75 = .ok (.iload_n 2, 1) := by decide +kernel
theorem dX8_chance_76 : decode cX8_chance 76 = .ok (.if_icmp .ge 23, 3) := by decide +kernel
theorem dX8_chance_79 : decode cX8_chance 79 = .ok (.aload_n 0, 1) := by decide +kernel
theorem dX8_chance_80 : decode cX8_chance 80 = .ok (.iconst 1, 1) := by decide +kernel
theorem dX8_chance_81 : decode cX8_chance 81 = .ok (.invokevirtual 479, 3) := by decide +kernel
theorem dX8_chance_84 : decode cX8_chance 84 = .ok (.aload_n 0, 1) := by decide +kernel
theorem dX8_chance_85 : decode cX8_chance 85 = .ok (.iconst 1, 1) := by decide +kernel
theorem dX8_chance_86 : decode cX8_chance 86 = .ok (.aload_n 0, 1) := by decide +kernel
theorem dX8_chance_87 : decode cX8_chance 87 = .ok (.getfield 363, 3) := by decide +kernel
theorem dX8_chance_90 : decode cX8_chance 90 = .ok (.invokevirtual 482, 3) := by decide +kernel
theorem dX8_chance_93 : decode cX8_chance 93 = .ok (.iinc 9 1, 3) := by decide +kernel
theorem dX8_chance_96 : decode cX8_chance 96 = .ok (.goto (-23), 3) := by decide +kernel
theorem dX8_chance_99 : decode cX8_chance 99 = .ok (.iload 7, 2) := by decide +kernel
theorem dX8_chance_101 : decode cX8_chance 101 = .ok (.aload_n 0, 1) := by decide +kernel
theorem dX8_chance_102 : decode cX8_chance 102 = .ok (.getfield 100, 3) := by decide +kernel
theorem dX8_chance_105 : decode cX8_chance 105 = .ok (.iconst 4, 1) := by decide +kernel
theorem dX8_chance_106 : decode cX8_chance 106 = .ok (.iload_n 3, 1) := by decide +kernel
theorem dX8_chance_107 : decode cX8_chance 107 = .ok (.iadd, 1) := by decide +kernel
theorem dX8_chance_108 : decode cX8_chance 108 = .ok (.iaload, 1) := by decide +kernel
theorem dX8_chance_109 : decode cX8_chance 109 = .ok (.iload 4, 2) := by decide +kernel
theorem dX8_chance_111 : decode cX8_chance 111 = .ok (.if_icmp .lt 7, 3) := by decide +kernel
theorem dX8_chance_114 : decode cX8_chance 114 = .ok (.iconst 1, 1) := by decide +kernel
theorem dX8_chance_115 : decode cX8_chance 115 = .ok (.goto 4, 3) := by decide +kernel
theorem dX8_chance_118 : decode cX8_chance 118 = .ok (.iconst 0, 1) := by decide +kernel
theorem dX8_chance_119 : decode cX8_chance 119 = .ok (.iadd, 1) := by decide +kernel
theorem dX8_chance_120 : decode cX8_chance 120 = .ok (.istore 7, 2) := by decide +kernel
theorem dX8_chance_122 : decode cX8_chance 122 = .ok (.iinc 8 1, 3) := by decide +kernel
theorem dX8_chance_125 : decode cX8_chance 125 = .ok (.goto (-66), 3) := by decide +kernel
theorem dX8_chance_128 : decode cX8_chance 128 = .ok (.aload_n 0, 1) := by decide +kernel
theorem dX8_chance_129 : decode cX8_chance 129 = .ok (.lload 5, 2) := by decide +kernel
theorem dX8_chance_131 : decode cX8_chance 131 = .ok (.putfield 366, 3) := by decide +kernel
theorem dX8_chance_134 : decode cX8_chance 134 = .ok (.iload 7, 2) := by decide +kernel
theorem dX8_chance_136 : decode cX8_chance 136 = .ok (.ireturn, 1) := by decide +kernel
theorem dX8_tried_0 : decode cX8_tried 0 = .ok (.aload_n 0, 1) := by decide +kernel
theorem dX8_tried_1 : decode cX8_tried 1 = .ok (.iconst 0, 1) := by decide +kernel
theorem dX8_tried_2 : decode cX8_tried 2 = .ok (.putfield 163, 3) := by decide +kernel
theorem dX8_tried_5 : decode cX8_tried 5 = .ok (.iload_n 1, 1) := by decide +kernel
theorem dX8_tried_6 : decode cX8_tried 6 = .ok (.iconst 0, 1) := by decide +kernel
theorem dX8_tried_7 : decode cX8_tried 7 = .ok (.iconst 4, 1) := by decide +kernel
theorem dX8_tried_8 : decode cX8_tried 8 = .ok (.invokestatic 208, 3) := by decide +kernel
theorem dX8_tried_11 : decode cX8_tried 11 = .ok (.ifCond .eq 33, 3) := by decide +kernel
theorem dX8_tried_14 : decode cX8_tried 14 = .ok (.iload_n 3, 1) := by decide +kernel
theorem dX8_tried_15 : decode cX8_tried 15 = .ok (.iconst 0, 1) := by decide +kernel
theorem dX8_tried_16 : decode cX8_tried 16 = .ok (.bipush 99, 2) := by decide +kernel
theorem dX8_tried_18 : decode cX8_tried 18 = .ok (.invokestatic 208, 3) := by decide +kernel
theorem dX8_tried_21 : decode cX8_tried 21 = .ok (.ifCond .eq 23, 3) := by decide +kernel
theorem dX8_tried_24 : decode cX8_tried 24 = .ok (.iload_n 1, 1) := by decide +kernel
theorem dX8_tried_25 : decode cX8_tried 25 = .ok (.iconst 1, 1) := by decide +kernel
theorem dX8_tried_26 : decode cX8_tried 26 = .ok (.if_icmp .ne 14, 3) := by decide +kernel
theorem dX8_tried_29 : decode cX8_tried 29 = .ok (.aload_n 0, 1) := by decide +kernel
theorem dX8_tried_30 : decode cX8_tried 30 = .ok (.iload_n 2, 1) := by decide +kernel
theorem dX8_tried_31 : decode cX8_tried 31 = .ok (.invokevirtual 462, 3) := by decide +kernel
theorem dX8_tried_34 : decode cX8_tried 34 = .ok (.ifCond .ne 12, 3) := by decide +kernel
theorem dX8_tried_37 : decode cX8_tried 37 = .ok (.goto 7, 3) := by decide +kernel
theorem dX8_tried_40 : decode cX8_tried 40 = .ok (.iload_n 2, 1) := by decide +kernel
theorem dX8_tried_41 : decode cX8_tried 41 = .ok (.ifCond .eq 5, 3) := by decide +kernel
theorem dX8_tried_44 : decode cX8_tried 44 = .ok (.iconst (-1), 1) := by decide +kernel
theorem dX8_tried_45 : decode cX8_tried 45 = .ok (.ireturn, 1) := by decide +kernel
theorem dX8_tried_46 : decode cX8_tried 46 = .ok (.aload_n 0, 1) := by decide +kernel
theorem dX8_tried_47 : decode cX8_tried 47 = .ok (.invokevirtual 485, 3) := by decide +kernel
theorem dX8_tried_50 : decode cX8_tried 50 = .ok (.aload_n 0, 1) := by decide +kernel
theorem dX8_tried_51 : decode cX8_tried 51 = .ok (.iload_n 1, 1) := by decide +kernel
theorem dX8_tried_52 : decode cX8_tried 52 = .ok (.ifCond .ne 7, 3) := by decide +kernel
theorem dX8_tried_55 : decode cX8_tried 55 = .ok (.iconst 1, 1) := by decide +kernel
theorem dX8_tried_56 : decode cX8_tried 56 = .ok (.goto 4, 3) := by decide +kernel
theorem dX8_tried_59 : decode cX8_tried 59 = .ok (.iconst 0, 1) := by decide +kernel
theorem dX8_tried_60 : decode cX8_tried 60 = .ok (.putfield 382, 3) := by decide +kernel
theorem dX8_tried_63 : decode cX8_tried 63 = .ok (.aload_n 0, 1) := by decide +kernel
theorem dX8_tried_64 : decode cX8_tried 64 = .ok (.iload_n 1, 1) := by decide +kernel
theorem dX8_tried_65 : decode cX8_tried 65 = .ok (.iconst 1, 1) := by decide +kernel
theorem dX8_tried_66 : decode cX8_tried 66 = .ok (.if_icmp .ne 7, 3) := by decide +kernel
theorem dX8_tried_69 : decode cX8_tried 69 = .ok (.iload_n 2, 1) := by decide +kernel
theorem dX8_tried_70 : decode cX8_tried 70 = .ok (.goto 4, 3) := by decide +kernel
theorem dX8_tried_73 : decode cX8_tried 73 = .ok (.iconst (-1), 1) := by decide +kernel
theorem dX8_tried_74 : decode cX8_tried 74 = .ok (.putfield 118, 3) := by decide +kernel
theorem dX8_tried_77 : decode cX8_tried 77 = .ok (.aload_n 0, 1) := by decide +kernel
theorem dX8_tried_78 : decode cX8_tried 78 = .ok (.iload_n 1, 1) := by decide +kernel
theorem dX8_tried_79 : decode cX8_tried 79 = .ok (.iconst 3, 1) := by decide +kernel
theorem dX8_tried_80 : decode cX8_tried 80 = .ok (.if_icmp .ne 7, 3) := by decide +kernel
theorem dX8_tried_83 : decode cX8_tried 83 = .ok (.iconst 1, 1) := by decide +kernel
theorem dX8_tried_84 : decode cX8_tried 84 = .ok (.goto 4, 3) := by decide +kernel
theorem dX8_tried_87 : decode cX8_tried 87 = .ok (.iconst 0, 1) := by decide +kernel
theorem dX8_tried_88 : decode cX8_tried 88 = .ok (.putfield 385, 3) := by decide +kernel
theorem dX8_tried_91 : decode cX8_tried 91 = .ok (.iconst 0, 1) := by decide +kernel
theorem dX8_tried_92 : decode cX8_tried 92 = .ok (.istore 4, 2) := by decide +kernel
theorem dX8_tried_94 : decode cX8_tried 94 = .ok (.iload 4, 2) := by decide +kernel
theorem dX8_tried_96 : decode cX8_tried 96 = .ok (.iconst 4, 1) := by decide +kernel
theorem dX8_tried_97 : decode cX8_tried 97 = .ok (.if_icmp .ge 27, 3) := by decide +kernel
theorem dX8_tried_100 : decode cX8_tried 100 = .ok (.iload_n 1, 1) := by decide +kernel
theorem dX8_tried_101 : decode cX8_tried 101 = .ok (.iconst 2, 1) := by decide +kernel
theorem dX8_tried_102 : decode cX8_tried 102 = .ok (.if_icmp .ne 22, 3) := by decide +kernel
theorem dX8_tried_105 : decode cX8_tried 105 = .ok (.aload_n 0, 1) := by decide +kernel
theorem dX8_tried_106 : decode cX8_tried 106 = .ok (.getfield 91, 3) := by decide +kernel
theorem dX8_tried_109 : decode cX8_tried 109 = .ok (.iconst 4, 1) := by decide +kernel
theorem dX8_tried_110 : decode cX8_tried 110 = .ok (.iload 4, 2) := by decide +kernel
theorem dX8_tried_112 : decode cX8_tried 112 = .ok (.iadd, 1) := by decide +kernel
theorem dX8_tried_113 : decode cX8_tried 113 = .ok (.dup2, 1) := by decide +kernel
theorem dX8_tried_114 : decode cX8_tried 114 = .ok (.iaload, 1) := by decide +kernel
theorem dX8_tried_115 : decode cX8_tried 115 = .ok (.iconst 1, 1) := by decide +kernel
theorem dX8_tried_116 : decode cX8_tried 116 = .ok (.iadd, 1) := by decide +kernel
theorem dX8_tried_117 : decode cX8_tried 117 = .ok (.iastore, 1) := by decide +kernel
theorem dX8_tried_118 : decode cX8_tried 118 = .ok (.iinc 4 1, 3) := by decide +kernel
theorem dX8_tried_121 : decode cX8_tried 121 = .ok (.goto (-27), 3) := by decide +kernel
theorem dX8_tried_124 : decode cX8_tried 124 = .ok (.iload_n 1, 1) := by decide +kernel
theorem dX8_tried_125 : decode cX8_tried 125 = .ok (.iconst 4, 1) := by decide +kernel
theorem dX8_tried_126 : decode cX8_tried 126 = .ok (.if_icmp .ne 10, 3) := by decide +kernel
theorem dX8_tried_129 : decode cX8_tried 129 = .ok (.aload_n 0, 1) := by decide +kernel
theorem dX8_tried_130 : decode cX8_tried 130 = .ok (.getfield 109, 3) := by decide +kernel
theorem dX8_tried_133 : decode cX8_tried 133 = .ok (.iconst 1, 1) := by decide +kernel
theorem dX8_tried_134 : decode cX8_tried 134 = .ok (.iconst 0, 1) := by decide +kernel
theorem dX8_tried_135 : decode cX8_tried 135 = .ok (.iastore, 1) := by decide +kernel
theorem dX8_tried_136 : decode cX8_tried 136 = .ok (.aload_n 0, 1) := by decide +kernel
theorem dX8_tried_137 : decode cX8_tried 137 = .ok (.iload_n 3, 1) := by decide +kernel
theorem dX8_tried_138 : decode cX8_tried 138 = .ok (.aload_n 0, 1) := by decide +kernel
theorem dX8_tried_139 : decode cX8_tried 139 = .ok (.getfield 363, 3) := by decide +kernel
theorem dX8_tried_142 : decode cX8_tried 142 = .ok (.invokevirtual 488, 3) := by decide +kernel
theorem dX8_tried_145 : decode cX8_tried 145 = .ok (.aload_n 0, 1) := by decide +kernel
theorem dX8_tried_146 : decode cX8_tried 146 = .ok (.invokevirtual 370, 3) := by decide +kernel
theorem dX8_tried_149 : decode cX8_tried 149 = .ok (.aload_n 0, 1) := by decide +kernel
theorem dX8_tried_150 : decode cX8_tried 150 = .ok (.iconst 1, 1) := by decide +kernel
theorem dX8_tried_151 : decode cX8_tried 151 = .ok (.invokevirtual 497, 3) := by decide +kernel
theorem dX8_tried_154 : decode cX8_tried 154 = .ok (.aload_n 0, 1) := by decide +kernel
theorem dX8_tried_155 : decode cX8_tried 155 = .ok (.iconst 0, 1) := by decide +kernel
theorem dX8_tried_156 : decode cX8_tried 156 = .ok (.invokevirtual 497, 3) := by decide +kernel
theorem dX8_tried_159 : decode cX8_tried 159 = .ok (.isub, 1) := by decide +kernel
theorem dX8_tried_160 : decode cX8_tried 160 = .ok (.ireturn, 1) := by decide +kernel
def f_X8_known (h : Hp) (p1 : Int32) : Option (Bool × Hp) :=
  lt_ (sI h 8 0 2 0) fun h1 =>
  (f_X8_isIn p1 (-1) (gI h1 8 0 72)).bind fun v2 =>
  if ¬ (b2i v2) = 0 then
    lt_ (sI h1 8 0 73 p1) fun h3 =>
    some (true, h3)
  else
  some (false, h1)
abbrev rmX8_known : Room := { frames := 1, cells := 0, slots := 0, locals := 22 }
set_option maxRecDepth 100000 in
set_option maxHeartbeats 4000000 in
theorem w_X8_known (X : Cx) (F : Fx X cX8_known RX8 (some .boolean) rmX8_known) (hA : xA X = Aw (xG X)) (hL : xL X = 2) (h : Hp) (p1 : Int32) : Wm X (fun v => some (.int (b2i v.1))) (fun v => v.2) (fun _ => True) 0 [(0, .ref (adr (xG X) 8 0 0)), (1, .int p1)] [] h (f_X8_known h p1) := by
  have hS : ∀ i : Nat, i < 2 → i < xL X := fun i z => by rw [hL]; exact z
  unfold f_X8_known
  refine r_aload_n F 0 rfl dX8_known_0 rfl ?_
  refine r_iconst F (v := 0) dX8_known_1 (by decide) ?_
  refine r_putI F frX8_163 (by decide) rfl rfl dX8_known_2 fun h1 => ?_
  refine r_iload_n F 1 rfl dX8_known_5 rfl ?_
  refine r_iconst F (v := (-1)) dX8_known_6 (by decide) ?_
  refine r_aload_n F 0 rfl dX8_known_7 rfl ?_
  refine r_getI F frX8_373 (by decide) dX8_known_8 ?_
  refine k_zP (run_S F csX8_208 (c_X8_isIn (xG X) _ h1 p1 (-1) (gI h1 8 0 72)) rfl rfl ⟨⟨rfl, rfl⟩, Nat.le_of_ble_eq_true rfl, Nat.le_of_ble_eq_true rfl⟩ (Nat.le_of_ble_eq_true rfl) dX8_known_11) fun v2 _ => ?_
  refine r_ifne F (tgt := 19) dX8_known_14 (by decide) ?_ ?_
  · skip
    refine r_aload_n F 0 rfl dX8_known_19 rfl ?_
    refine r_iload_n F 1 rfl dX8_known_20 rfl ?_
    refine r_putI F frX8_130 (by decide) rfl rfl dX8_known_21 fun h3 => ?_
    refine r_iconst F (v := 1) dX8_known_24 (by decide) ?_
    exact r_zret F hA true rfl rfl rfl trivial dX8_known_25
  refine r_iconst F (v := 0) dX8_known_17 (by decide) ?_
  exact r_zret F hA false rfl rfl rfl trivial dX8_known_18
theorem c_X8_known (G : Gx) (l : Launch) (h : Hp) (p1 : Int32) : Ctr G l yX8_known (.code yX8_known cX8_known 2 (some .boolean) :: GT) rmX8_known [.ref (adr G 8 0 0), .int p1] h (f_X8_known h p1) (fun v => some (.int (b2i v.1))) (fun v => v.2) (fun _ => True) :=
  ctr_of (by decide) (Nat.le_of_ble_eq_true rfl) ⟨rfl, rfl⟩ fun X _ e2 hA hL F => by subst e2; exact w_X8_known X F hA hL h p1
def f_X8_knownBy (h : Hp) : Option Int32 :=
  jn (fun (v1 : Int32) =>
    some v1) fun (j18 : Int32 → Option Int32) =>
  if 0 ≤ (gI h 8 0 73) then
    j18 (gI h 8 0 73)
  else
  j18 (gI h 8 0 72)
abbrev rmX8_knownBy : Room := { frames := 0, cells := 0, slots := 0, locals := 0 }
set_option maxRecDepth 100000 in
set_option maxHeartbeats 4000000 in
theorem w_X8_knownBy (X : Cx) (F : Fx X cX8_knownBy RX8 (some .int) rmX8_knownBy) (hA : xA X = Aw (xG X)) (hL : xL X = 1) (h : Hp) : Wm X (fun v => some (.int v)) (fun _ => h) (fun _ => True) 0 [(0, .ref (adr (xG X) 8 0 0))] [] h (f_X8_knownBy h) := by
  have hS : ∀ i : Nat, i < 1 → i < xL X := fun i z => by rw [hL]; exact z
  unfold f_X8_knownBy
  refine r_aload_n F 0 rfl dX8_knownBy_0 rfl ?_
  refine r_getI F frX8_130 (by decide) dX8_knownBy_1 ?_
  refine Wt_jn (fun (j18 : Int32 → Option Int32) => ∀ v1 : Int32, Wm X (fun v => some (.int v)) (fun _ => h) (fun _ => True) 18 [] [.int v1] h (j18 v1)) ?_ fun j18 hj18 => ?_
  · intro v1
    exact r_iret F hA rfl rfl trivial dX8_knownBy_18
  refine r_ifge F (tgt := 14) dX8_knownBy_4 (by decide) ?_ ?_
  · skip
    refine r_aload_n F 0 rfl dX8_knownBy_14 rfl ?_
    refine r_getI F frX8_130 (by decide) dX8_knownBy_15 ?_
    exact Wt_pick [] rfl (hj18 (gI h 8 0 73))
  refine r_aload_n F 0 rfl dX8_knownBy_7 rfl ?_
  refine r_getI F frX8_373 (by decide) dX8_knownBy_8 ?_
  refine r_goto F (tgt := 18) dX8_knownBy_11 (by decide) ?_
  exact Wt_pick [] rfl (hj18 (gI h 8 0 72))
theorem c_X8_knownBy (G : Gx) (l : Launch) (h : Hp) : Ctr G l yX8_knownBy (.code yX8_knownBy cX8_knownBy 1 (some .int) :: GT) rmX8_knownBy [.ref (adr G 8 0 0)] h (f_X8_knownBy h) (fun v => some (.int v)) (fun _ => h) (fun _ => True) :=
  ctr_of (by decide) (Nat.le_of_ble_eq_true rfl) ⟨rfl, rfl⟩ fun X _ e2 hA hL F => by subst e2; exact w_X8_knownBy X F hA hL h
def f_X8_isSo_2 (h : Hp) (p1 : Int32) (r2 : Int32 → Option Bool) (v1 : Int32) : Option Bool :=
  (f_X8_knownBy h).bind fun v2 =>
  if v2 ≤ v1 then
    some true
  else
  grd (inb v1 24) <|
  jn (
    lt_ (v1 + 1) fun v3 =>
    r2 v3) fun (j82 : Option Bool) =>
  if (b2i (gY h 8 0 38 v1.toNatClampNeg)) = 0 then
    j82
  else
  grd (inb (3 * v1) 72) <|
  if (gA h 8 0 37 (3 * v1).toNatClampNeg) = p1 then
    grd (inb 1 2) <|
    grd (inb ((3 * v1) + 1) 72) <|
    jn (fun (v4 : Bool) =>
      grd (inb ((3 * v1) + 2) 72) <|
      jn (fun (v5 : Bool) =>
        if (b2i v4) = (b2i v5) then
          j82
        else
        some false) fun (j77 : Bool → Option Bool) =>
      if ¬ (gA h 8 0 37 ((3 * v1) + 2).toNatClampNeg) = 1 then
        j77 false
      else
      j77 true) fun (j58 : Bool → Option Bool) =>
    if (gA h 8 0 31 (1 : Int32).toNatClampNeg) < (gA h 8 0 37 ((3 * v1) + 1).toNatClampNeg) then
      j58 false
    else
    j58 true
  else
  j82
def f_X8_isSo (N : Nat) (h : Hp) (p1 : Int32) : Option Bool :=
  iter (fun _ => none) (f_X8_isSo_2 h p1) N 0
abbrev rmX8_isSo : Room := { frames := 1, cells := 0, slots := 0, locals := 20 }
set_option maxRecDepth 100000 in
set_option maxHeartbeats 4000000 in
theorem w_X8_isSo (X : Cx) (F : Fx X cX8_isSo RX8 (some .boolean) rmX8_isSo) (hA : xA X = Aw (xG X)) (hL : xL X = 3) (N : Nat) (h : Hp) (p1 : Int32) : Wm X (fun v => some (.int (b2i v))) (fun _ => h) (fun _ => True) 0 [(0, .ref (adr (xG X) 8 0 0)), (1, .int p1)] [] h (f_X8_isSo N h p1) := by
  have hS : ∀ i : Nat, i < 3 → i < xL X := fun i z => by rw [hL]; exact z
  unfold f_X8_isSo
  refine r_iconst F (v := 0) dX8_isSo_0 (by decide) ?_
  refine r_istore_n F [(2, .int 0), (0, .ref (adr (xG X) 8 0 0)), (1, .int p1)] rfl dX8_isSo_1 rfl (hS _ (by decide)) ?_
  have hl2 : ∀ n : Nat, ∀ v1 : Int32, Wm X (fun v => some (.int (b2i v))) (fun _ => h) (fun _ => True) 2 [(0, .ref (adr (xG X) 8 0 0)), (1, .int p1), (2, .int v1)] [] h (iter (fun _ => none) (f_X8_isSo_2 h p1) n v1) := by
    intro n
    induction n with
    | zero => intro v1; exact Wt_none
    | succ n ih =>
      revert ih
      show (∀ v1 : Int32, Wm X (fun v => some (.int (b2i v))) (fun _ => h) (fun _ => True) 2 [(0, .ref (adr (xG X) 8 0 0)), (1, .int p1), (2, .int v1)] [] h (iter (fun _ => none) (f_X8_isSo_2 h p1) n v1)) → _
      intro ih2 v1
      show Wm X (fun v => some (.int (b2i v))) (fun _ => h) (fun _ => True) 2 [(0, .ref (adr (xG X) 8 0 0)), (1, .int p1), (2, .int v1)] [] h (f_X8_isSo_2 h p1 (iter (fun _ => none) (f_X8_isSo_2 h p1) n) v1)
      revert ih2
      generalize iter (fun _ => none) (f_X8_isSo_2 h p1) n = r2
      intro ih2
      unfold f_X8_isSo_2
      refine r_iload_n F 2 rfl dX8_isSo_2 rfl ?_
      refine r_aload_n F 0 rfl dX8_isSo_3 rfl ?_
      refine k_iP (run_V F cvX8_541 (by decide) (c_X8_knownBy (xG X) _ h) rfl rfl ⟨⟨rfl, rfl⟩, Nat.le_of_ble_eq_true rfl, Nat.le_of_ble_eq_true rfl⟩ (Nat.le_of_ble_eq_true rfl) dX8_isSo_4) fun v2 _ => ?_
      refine r_icmpge F (tgt := 88) dX8_isSo_7 (by decide) ?_ ?_
      · skip
        refine r_iconst F (v := 1) dX8_isSo_88 (by decide) ?_
        exact r_zret F hA true rfl rfl rfl trivial dX8_isSo_89
      refine r_aload_n F 0 rfl dX8_isSo_10 rfl ?_
      refine r_getA F frX8_136 (by decide) dX8_isSo_11 ?_
      refine r_iload_n F 2 rfl dX8_isSo_14 rfl ?_
      refine r_baload F (ar_8_38 0 (by decide)) dX8_isSo_15 ?_
      refine Wt_jn (fun (j82 : Option Bool) => Wm X (fun v => some (.int (b2i v))) (fun _ => h) (fun _ => True) 82 [(0, .ref (adr (xG X) 8 0 0)), (1, .int p1), (2, .int v1)] [] h (j82)) ?_ fun j82 hj82 => ?_
      · skip
        refine r_iinc F (v := 1) 2 rfl (by decide) (fun v3 => [(2, .int v3), (0, .ref (adr (xG X) 8 0 0)), (1, .int p1)]) (fun _ => rfl) dX8_isSo_82 (hS _ (by decide)) fun v3 => ?_
        refine r_goto F (tgt := 2) dX8_isSo_85 (by decide) ?_
        exact Wt_pick [1, 2, 0] rfl (ih2 v3)
      refine r_ifeq F (tgt := 82) dX8_isSo_16 (by decide) ?_ ?_
      · skip
        exact Wt_pick [0, 1, 2] rfl (hj82)
      refine r_aload_n F 0 rfl dX8_isSo_19 rfl ?_
      refine r_getA F frX8_133 (by decide) dX8_isSo_20 ?_
      refine r_iconst F (v := 3) dX8_isSo_23 (by decide) ?_
      refine r_iload_n F 2 rfl dX8_isSo_24 rfl ?_
      refine r_imul F dX8_isSo_25 ?_
      refine r_iaload F (ar_8_37 0 (by decide)) dX8_isSo_26 ?_
      refine r_iload_n F 1 rfl dX8_isSo_27 rfl ?_
      refine r_icmpeq F (tgt := 34) dX8_isSo_28 (by decide) ?_ ?_
      · skip
        refine r_aload_n F 0 rfl dX8_isSo_34 rfl ?_
        refine r_getA F frX8_109 (by decide) dX8_isSo_35 ?_
        refine r_iconst F (v := 1) dX8_isSo_38 (by decide) ?_
        refine r_iaload F (ar_8_31 0 (by decide)) dX8_isSo_39 ?_
        refine r_aload_n F 0 rfl dX8_isSo_40 rfl ?_
        refine r_getA F frX8_133 (by decide) dX8_isSo_41 ?_
        refine r_iconst F (v := 3) dX8_isSo_44 (by decide) ?_
        refine r_iload_n F 2 rfl dX8_isSo_45 rfl ?_
        refine r_imul F dX8_isSo_46 ?_
        refine r_iconst F (v := 1) dX8_isSo_47 (by decide) ?_
        refine r_iadd F dX8_isSo_48 ?_
        refine r_iaload F (ar_8_37 0 (by decide)) dX8_isSo_49 ?_
        refine Wt_jn (fun (j58 : Bool → Option Bool) => ∀ v4 : Bool, Wm X (fun v => some (.int (b2i v))) (fun _ => h) (fun _ => True) 58 [(0, .ref (adr (xG X) 8 0 0)), (1, .int p1), (2, .int v1)] [.int (b2i v4)] h (j58 v4)) ?_ fun j58 hj58 => ?_
        · intro v4
          refine r_aload_n F 0 rfl dX8_isSo_58 rfl ?_
          refine r_getA F frX8_133 (by decide) dX8_isSo_59 ?_
          refine r_iconst F (v := 3) dX8_isSo_62 (by decide) ?_
          refine r_iload_n F 2 rfl dX8_isSo_63 rfl ?_
          refine r_imul F dX8_isSo_64 ?_
          refine r_iconst F (v := 2) dX8_isSo_65 (by decide) ?_
          refine r_iadd F dX8_isSo_66 ?_
          refine r_iaload F (ar_8_37 0 (by decide)) dX8_isSo_67 ?_
          refine r_iconst F (v := 1) dX8_isSo_68 (by decide) ?_
          refine Wt_jn (fun (j77 : Bool → Option Bool) => ∀ v5 : Bool, Wm X (fun v => some (.int (b2i v))) (fun _ => h) (fun _ => True) 77 [(0, .ref (adr (xG X) 8 0 0)), (1, .int p1), (2, .int v1)] [.int (b2i v5), .int (b2i v4)] h (j77 v5)) ?_ fun j77 hj77 => ?_
          · intro v5
            refine r_icmpeq F (tgt := 82) dX8_isSo_77 (by decide) ?_ ?_
            · skip
              exact Wt_pick [0, 1, 2] rfl (hj82)
            refine r_iconst F (v := 0) dX8_isSo_80 (by decide) ?_
            exact r_zret F hA false rfl rfl rfl trivial dX8_isSo_81
          refine r_icmpne F (tgt := 76) dX8_isSo_69 (by decide) ?_ ?_
          · skip
            refine r_iconst F (v := 0) dX8_isSo_76 (by decide) ?_
            exact Wt_pick [0, 1, 2] rfl (hj77 false)
          refine r_iconst F (v := 1) dX8_isSo_72 (by decide) ?_
          refine r_goto F (tgt := 77) dX8_isSo_73 (by decide) ?_
          exact Wt_pick [0, 1, 2] rfl (hj77 true)
        refine r_icmplt F (tgt := 57) dX8_isSo_50 (by decide) ?_ ?_
        · skip
          refine r_iconst F (v := 0) dX8_isSo_57 (by decide) ?_
          exact Wt_pick [0, 1, 2] rfl (hj58 false)
        refine r_iconst F (v := 1) dX8_isSo_53 (by decide) ?_
        refine r_goto F (tgt := 58) dX8_isSo_54 (by decide) ?_
        exact Wt_pick [0, 1, 2] rfl (hj58 true)
      refine r_goto F (tgt := 82) dX8_isSo_31 (by decide) ?_
      exact Wt_pick [0, 1, 2] rfl (hj82)
  exact Wt_pick [1, 2, 0] rfl (hl2 N 0)
theorem c_X8_isSo (G : Gx) (l : Launch) (N : Nat) (h : Hp) (p1 : Int32) : Ctr G l yX8_isSo (.code yX8_isSo cX8_isSo 3 (some .boolean) :: GT) rmX8_isSo [.ref (adr G 8 0 0), .int p1] h (f_X8_isSo N h p1) (fun v => some (.int (b2i v))) (fun _ => h) (fun _ => True) :=
  ctr_of (by decide) (Nat.le_of_ble_eq_true rfl) ⟨rfl, rfl⟩ fun X _ e2 hA hL F => by subst e2; exact w_X8_isSo X F hA hL N h p1
def f_X8_came_180 (N : Nat) (v10 : Int32) (r152 : Int32 → Int32 → Hp → Option (Int32 × Hp)) (v14 : Int32) (v15 : Int32) (r180 : Bool → Int32 → Hp → Option (Int32 × Hp)) (v19 : Bool) (v20 : Int32) (h21 : Hp) : Option (Int32 × Hp) :=
  jn (
    jn (fun (v22 : Int32) =>
      lt_ ((v14 ||| v22)) fun v23 =>
      lt_ (v15 + 1) fun v24 =>
      r152 v23 v24 h21) fun (j230 : Int32 → Option (Int32 × Hp)) =>
    if (b2i v19) = 0 then
      j230 0
    else
    j230 ((1 : Int32) <<< (v15 &&& 31))) fun (j216 : Option (Int32 × Hp)) =>
  if v10 < v20 then
    j216
  else
  if (b2i v19) = 0 then
    j216
  else
  grd (inb 1 10) <|
  (f_X8_goOn N h21 1 (gA h21 8 0 3 (1 : Int32).toNatClampNeg)).bind fun h25 =>
  (f_X8_isSo N h25 v20).bind fun v26 =>
  lt_ (v20 + 1) fun v27 =>
  r180 v26 v27 h25
def f_X8_came_152 (N : Nat) (p1 : Int32) (v10 : Int32) (r152 : Int32 → Int32 → Hp → Option (Int32 × Hp)) (v14 : Int32) (v15 : Int32) (h16 : Hp) : Option (Int32 × Hp) :=
  if 24 ≤ v15 then
    some (v14, h16)
  else
  (f_X8_atFirst N h16 1).bind fun h17 =>
  grd (inb (4 + p1) 8) <| lt_ (sA h17 8 0 26 (4 + p1).toNatClampNeg v15) fun h18 =>
  iter (fun _ _ _ => none) (f_X8_came_180 N v10 r152 v14 v15) N true 1 h18
def f_X8_came_95 (N : Nat) (p1 : Int32) (h9 : Hp) (r95 : Int32 → Int32 → Option (Int32 × Hp)) (v10 : Int32) (v11 : Int32) : Option (Int32 × Hp) :=
  (f_X8_knownBy h9).bind fun v12 =>
  if v12 ≤ v11 then
    (f_X8_plainTried h9).bind fun h13 =>
    iter (fun _ _ _ => none) (f_X8_came_152 N p1 v10) N 0 0 h13
  else
  grd (inb v11 24) <|
  jn (fun (v28 : Int32) =>
    lt_ (v11 + 1) fun v29 =>
    r95 v28 v29) fun (j136 : Int32 → Option (Int32 × Hp)) =>
  jn (
    j136 v10) fun (j135 : Option (Int32 × Hp)) =>
  if (b2i (gY h9 8 0 38 v11.toNatClampNeg)) = 0 then
    j135
  else
  grd (inb (3 * v11) 72) <|
  if (gA h9 8 0 37 (3 * v11).toNatClampNeg) ≤ v10 then
    j135
  else
  grd (inb (3 * v11) 72) <|
  j136 (gA h9 8 0 37 (3 * v11).toNatClampNeg)
def f_X8_came_47 (N : Nat) (p1 : Int32) (r47 : Int32 → Hp → Option (Int32 × Hp)) (v8 : Int32) (h9 : Hp) : Option (Int32 × Hp) :=
  if v8 < 0 then
    iter (fun _ _ => none) (f_X8_came_95 N p1 h9) N 0 0
  else
  grd (inb v8 24) <|
  jn (fun (h30 : Hp) =>
    lt_ (v8 + (-1)) fun v31 =>
    r47 v31 h30) fun (j87 : Hp → Option (Int32 × Hp)) =>
  if (b2i (gY h9 8 0 38 v8.toNatClampNeg)) = 0 then
    j87 h9
  else
  grd (inb (3 * v8) 72) <|
  if 0 ≤ (gA h9 8 0 37 (3 * v8).toNatClampNeg) then
    j87 h9
  else
  grd (inb ((3 * v8) + 1) 72) <|
  grd (inb (gA h9 8 0 37 ((3 * v8) + 1).toNatClampNeg) 24) <| lt_ (sY h9 8 0 38 (gA h9 8 0 37 ((3 * v8) + 1).toNatClampNeg).toNatClampNeg false) fun h32 =>
  j87 h32
def f_X8_came_19 (N : Nat) (p1 : Int32) (r19 : Int32 → Hp → Option (Int32 × Hp)) (v3 : Int32) (h4 : Hp) : Option (Int32 × Hp) :=
  (f_X8_knownBy h4).bind fun v5 =>
  if v5 ≤ v3 then
    (f_X8_knownBy h4).bind fun v6 =>
    lt_ ((v6 - 1)) fun v7 =>
    iter (fun _ _ => none) (f_X8_came_47 N p1) N v7 h4
  else
  grd (inb v3 24) <| lt_ (sY h4 8 0 38 v3.toNatClampNeg true) fun h33 =>
  lt_ (v3 + 1) fun v34 =>
  r19 v34 h33
def f_X8_came (N : Nat) (h : Hp) (p1 : Int32) : Option (Int32 × Hp) :=
  lt_ (sI h 8 0 2 0) fun h1 =>
  (f_X8_isCroft h1 p1).bind fun v2 =>
  if ¬ (b2i v2) = 0 then
    iter (fun _ _ => none) (f_X8_came_19 N p1) N 0 h1
  else
  some ((-1), h1)
abbrev rmX8_came : Room := { frames := 9, cells := 0, slots := 0, locals := 219 }
set_option maxRecDepth 100000 in
set_option maxHeartbeats 4000000 in
theorem w_X8_came (X : Cx) (F : Fx X cX8_came RX8 (some .int) rmX8_came) (hA : xA X = Aw (xG X)) (hL : xL X = 7) (N : Nat) (h : Hp) (p1 : Int32) : Wm X (fun v => some (.int v.1)) (fun v => v.2) (fun _ => True) 0 [(0, .ref (adr (xG X) 8 0 0)), (1, .int p1)] [] h (f_X8_came N h p1) := by
  have hS : ∀ i : Nat, i < 7 → i < xL X := fun i z => by rw [hL]; exact z
  unfold f_X8_came
  refine r_aload_n F 0 rfl dX8_came_0 rfl ?_
  refine r_iconst F (v := 0) dX8_came_1 (by decide) ?_
  refine r_putI F frX8_163 (by decide) rfl rfl dX8_came_2 fun h1 => ?_
  refine r_aload_n F 0 rfl dX8_came_5 rfl ?_
  refine r_iload_n F 1 rfl dX8_came_6 rfl ?_
  refine k_zP (run_V F cvX8_462 (by decide) (c_X8_isCroft (xG X) _ h1 p1) rfl rfl ⟨⟨rfl, rfl⟩, Nat.le_of_ble_eq_true rfl, Nat.le_of_ble_eq_true rfl⟩ (Nat.le_of_ble_eq_true rfl) dX8_came_7) fun v2 _ => ?_
  refine r_ifne F (tgt := 15) dX8_came_10 (by decide) ?_ ?_
  · skip
    refine r_iconst F (v := 0) dX8_came_15 (by decide) ?_
    refine r_istore_n F [(2, .int 0), (0, .ref (adr (xG X) 8 0 0)), (1, .int p1)] rfl dX8_came_16 rfl (hS _ (by decide)) ?_
    refine r_iconst F (v := 0) dX8_came_17 (by decide) ?_
    refine r_istore_n F [(3, .int 0), (2, .int 0), (0, .ref (adr (xG X) 8 0 0)), (1, .int p1)] rfl dX8_came_18 rfl (hS _ (by decide)) ?_
    have hl19 : ∀ n : Nat, ∀ v3 : Int32, ∀ h4 : Hp, Wm X (fun v => some (.int v.1)) (fun v => v.2) (fun _ => True) 19 [(0, .ref (adr (xG X) 8 0 0)), (1, .int p1), (2, .int 0), (3, .int v3)] [] h4 (iter (fun _ _ => none) (f_X8_came_19 N p1) n v3 h4) := by
      intro n
      induction n with
      | zero => intro v3 h4; exact Wt_none
      | succ n ih =>
        revert ih
        show (∀ v3 : Int32, ∀ h4 : Hp, Wm X (fun v => some (.int v.1)) (fun v => v.2) (fun _ => True) 19 [(0, .ref (adr (xG X) 8 0 0)), (1, .int p1), (2, .int 0), (3, .int v3)] [] h4 (iter (fun _ _ => none) (f_X8_came_19 N p1) n v3 h4)) → _
        intro ih19 v3 h4
        show Wm X (fun v => some (.int v.1)) (fun v => v.2) (fun _ => True) 19 [(0, .ref (adr (xG X) 8 0 0)), (1, .int p1), (2, .int 0), (3, .int v3)] [] h4 (f_X8_came_19 N p1 (iter (fun _ _ => none) (f_X8_came_19 N p1) n) v3 h4)
        revert ih19
        generalize iter (fun _ _ => none) (f_X8_came_19 N p1) n = r19
        intro ih19
        unfold f_X8_came_19
        refine r_iload_n F 3 rfl dX8_came_19 rfl ?_
        refine r_aload_n F 0 rfl dX8_came_20 rfl ?_
        refine k_iP (run_V F cvX8_541 (by decide) (c_X8_knownBy (xG X) _ h4) rfl rfl ⟨⟨rfl, rfl⟩, Nat.le_of_ble_eq_true rfl, Nat.le_of_ble_eq_true rfl⟩ (Nat.le_of_ble_eq_true rfl) dX8_came_21) fun v5 _ => ?_
        refine r_icmpge F (tgt := 40) dX8_came_24 (by decide) ?_ ?_
        · skip
          refine r_aload_n F 0 rfl dX8_came_40 rfl ?_
          refine k_iP (run_V F cvX8_541 (by decide) (c_X8_knownBy (xG X) _ h4) rfl rfl ⟨⟨rfl, rfl⟩, Nat.le_of_ble_eq_true rfl, Nat.le_of_ble_eq_true rfl⟩ (Nat.le_of_ble_eq_true rfl) dX8_came_41) fun v6 _ => ?_
          refine r_iconst F (v := 1) dX8_came_44 (by decide) ?_
          refine r_isub F dX8_came_45 ?_
          refine r_nmI fun v7 => ?_
          refine r_istore_n F [(3, .int v7), (0, .ref (adr (xG X) 8 0 0)), (1, .int p1), (2, .int 0)] rfl dX8_came_46 rfl (hS _ (by decide)) ?_
          have hl47 : ∀ n : Nat, ∀ v8 : Int32, ∀ h9 : Hp, Wm X (fun v => some (.int v.1)) (fun v => v.2) (fun _ => True) 47 [(0, .ref (adr (xG X) 8 0 0)), (1, .int p1), (2, .int 0), (3, .int v8)] [] h9 (iter (fun _ _ => none) (f_X8_came_47 N p1) n v8 h9) := by
            intro n
            induction n with
            | zero => intro v8 h9; exact Wt_none
            | succ n ih =>
              revert ih
              show (∀ v8 : Int32, ∀ h9 : Hp, Wm X (fun v => some (.int v.1)) (fun v => v.2) (fun _ => True) 47 [(0, .ref (adr (xG X) 8 0 0)), (1, .int p1), (2, .int 0), (3, .int v8)] [] h9 (iter (fun _ _ => none) (f_X8_came_47 N p1) n v8 h9)) → _
              intro ih47 v8 h9
              show Wm X (fun v => some (.int v.1)) (fun v => v.2) (fun _ => True) 47 [(0, .ref (adr (xG X) 8 0 0)), (1, .int p1), (2, .int 0), (3, .int v8)] [] h9 (f_X8_came_47 N p1 (iter (fun _ _ => none) (f_X8_came_47 N p1) n) v8 h9)
              revert ih47
              generalize iter (fun _ _ => none) (f_X8_came_47 N p1) n = r47
              intro ih47
              unfold f_X8_came_47
              refine r_iload_n F 3 rfl dX8_came_47 rfl ?_
              refine r_iflt F (tgt := 93) dX8_came_48 (by decide) ?_ ?_
              · skip
                refine r_iconst F (v := 0) dX8_came_93 (by decide) ?_
                refine r_istore_n F [(3, .int 0), (0, .ref (adr (xG X) 8 0 0)), (1, .int p1), (2, .int 0)] rfl dX8_came_94 rfl (hS _ (by decide)) ?_
                have hl95 : ∀ n : Nat, ∀ v10 : Int32, ∀ v11 : Int32, Wm X (fun v => some (.int v.1)) (fun v => v.2) (fun _ => True) 95 [(0, .ref (adr (xG X) 8 0 0)), (1, .int p1), (2, .int v10), (3, .int v11)] [] h9 (iter (fun _ _ => none) (f_X8_came_95 N p1 h9) n v10 v11) := by
                  intro n
                  induction n with
                  | zero => intro v10 v11; exact Wt_none
                  | succ n ih =>
                    revert ih
                    show (∀ v10 : Int32, ∀ v11 : Int32, Wm X (fun v => some (.int v.1)) (fun v => v.2) (fun _ => True) 95 [(0, .ref (adr (xG X) 8 0 0)), (1, .int p1), (2, .int v10), (3, .int v11)] [] h9 (iter (fun _ _ => none) (f_X8_came_95 N p1 h9) n v10 v11)) → _
                    intro ih95 v10 v11
                    show Wm X (fun v => some (.int v.1)) (fun v => v.2) (fun _ => True) 95 [(0, .ref (adr (xG X) 8 0 0)), (1, .int p1), (2, .int v10), (3, .int v11)] [] h9 (f_X8_came_95 N p1 h9 (iter (fun _ _ => none) (f_X8_came_95 N p1 h9) n) v10 v11)
                    revert ih95
                    generalize iter (fun _ _ => none) (f_X8_came_95 N p1 h9) n = r95
                    intro ih95
                    unfold f_X8_came_95
                    refine r_iload_n F 3 rfl dX8_came_95 rfl ?_
                    refine r_aload_n F 0 rfl dX8_came_96 rfl ?_
                    refine k_iP (run_V F cvX8_541 (by decide) (c_X8_knownBy (xG X) _ h9) rfl rfl ⟨⟨rfl, rfl⟩, Nat.le_of_ble_eq_true rfl, Nat.le_of_ble_eq_true rfl⟩ (Nat.le_of_ble_eq_true rfl) dX8_came_97) fun v12 _ => ?_
                    refine r_icmpge F (tgt := 143) dX8_came_100 (by decide) ?_ ?_
                    · skip
                      refine r_iconst F (v := 0) dX8_came_143 (by decide) ?_
                      refine r_istore_n F [(3, .int 0), (0, .ref (adr (xG X) 8 0 0)), (1, .int p1), (2, .int v10)] rfl dX8_came_144 rfl (hS _ (by decide)) ?_
                      refine r_aload_n F 1 rfl dX8_came_145 rfl ?_
                      refine k_vH (run_V F cvX8_370 (by decide) (c_X8_plainTried (xG X) _ h9) rfl rfl ⟨⟨rfl, rfl⟩, Nat.le_of_ble_eq_true rfl, Nat.le_of_ble_eq_true rfl⟩ (Nat.le_of_ble_eq_true rfl) dX8_came_146) fun h13 => ?_
                      refine r_iconst F (v := 0) dX8_came_149 (by decide) ?_
                      refine r_istore F [(4, .int 0), (3, .int 0), (0, .ref (adr (xG X) 8 0 0)), (1, .int p1), (2, .int v10)] rfl dX8_came_150 (hS _ (by decide)) ?_
                      have hl152 : ∀ n : Nat, ∀ v14 : Int32, ∀ v15 : Int32, ∀ h16 : Hp, Wm X (fun v => some (.int v.1)) (fun v => v.2) (fun _ => True) 152 [(0, .ref (adr (xG X) 8 0 0)), (1, .int p1), (2, .int v10), (3, .int v14), (4, .int v15)] [] h16 (iter (fun _ _ _ => none) (f_X8_came_152 N p1 v10) n v14 v15 h16) := by
                        intro n
                        induction n with
                        | zero => intro v14 v15 h16; exact Wt_none
                        | succ n ih =>
                          revert ih
                          show (∀ v14 : Int32, ∀ v15 : Int32, ∀ h16 : Hp, Wm X (fun v => some (.int v.1)) (fun v => v.2) (fun _ => True) 152 [(0, .ref (adr (xG X) 8 0 0)), (1, .int p1), (2, .int v10), (3, .int v14), (4, .int v15)] [] h16 (iter (fun _ _ _ => none) (f_X8_came_152 N p1 v10) n v14 v15 h16)) → _
                          intro ih152 v14 v15 h16
                          show Wm X (fun v => some (.int v.1)) (fun v => v.2) (fun _ => True) 152 [(0, .ref (adr (xG X) 8 0 0)), (1, .int p1), (2, .int v10), (3, .int v14), (4, .int v15)] [] h16 (f_X8_came_152 N p1 v10 (iter (fun _ _ _ => none) (f_X8_came_152 N p1 v10) n) v14 v15 h16)
                          revert ih152
                          generalize iter (fun _ _ _ => none) (f_X8_came_152 N p1 v10) n = r152
                          intro ih152
                          unfold f_X8_came_152
                          refine r_iload F 4 rfl dX8_came_152 ?_
                          refine r_bipush F (v := 24) dX8_came_154 (by decide) ?_
                          refine r_icmpge F (tgt := 238) dX8_came_156 (by decide) ?_ ?_
                          · skip
                            refine r_iload_n F 3 rfl dX8_came_238 rfl ?_
                            exact r_iret F hA rfl rfl trivial dX8_came_239
                          refine r_aload_n F 0 rfl dX8_came_159 rfl ?_
                          refine r_iconst F (v := 1) dX8_came_160 (by decide) ?_
                          refine k_vH (run_V F cvX8_360 (by decide) (c_X8_atFirst (xG X) _ N h16 1) rfl rfl ⟨⟨rfl, rfl⟩, Nat.le_of_ble_eq_true rfl, Nat.le_of_ble_eq_true rfl⟩ (Nat.le_of_ble_eq_true rfl) dX8_came_161) fun h17 => ?_
                          refine r_aload_n F 0 rfl dX8_came_164 rfl ?_
                          refine r_getA F frX8_94 (by decide) dX8_came_165 ?_
                          refine r_iconst F (v := 4) dX8_came_168 (by decide) ?_
                          refine r_iload_n F 1 rfl dX8_came_169 rfl ?_
                          refine r_iadd F dX8_came_170 ?_
                          refine r_iload F 4 rfl dX8_came_171 ?_
                          refine r_iastore F (ar_8_26 0 (by decide)) dX8_came_173 fun h18 => ?_
                          refine r_iconst F (v := 1) dX8_came_174 (by decide) ?_
                          refine r_istore F [(5, .int 1), (0, .ref (adr (xG X) 8 0 0)), (1, .int p1), (2, .int v10), (3, .int v14), (4, .int v15)] rfl dX8_came_175 (hS _ (by decide)) ?_
                          refine r_iconst F (v := 1) dX8_came_177 (by decide) ?_
                          refine r_istore F [(6, .int 1), (5, .int 1), (0, .ref (adr (xG X) 8 0 0)), (1, .int p1), (2, .int v10), (3, .int v14), (4, .int v15)] rfl dX8_came_178 (hS _ (by decide)) ?_
                          have hl180 : ∀ n : Nat, ∀ v19 : Bool, ∀ v20 : Int32, ∀ h21 : Hp, Wm X (fun v => some (.int v.1)) (fun v => v.2) (fun _ => True) 180 [(0, .ref (adr (xG X) 8 0 0)), (1, .int p1), (2, .int v10), (3, .int v14), (4, .int v15), (5, .int (b2i v19)), (6, .int v20)] [] h21 (iter (fun _ _ _ => none) (f_X8_came_180 N v10 r152 v14 v15) n v19 v20 h21) := by
                            intro n
                            induction n with
                            | zero => intro v19 v20 h21; exact Wt_none
                            | succ n ih =>
                              revert ih
                              show (∀ v19 : Bool, ∀ v20 : Int32, ∀ h21 : Hp, Wm X (fun v => some (.int v.1)) (fun v => v.2) (fun _ => True) 180 [(0, .ref (adr (xG X) 8 0 0)), (1, .int p1), (2, .int v10), (3, .int v14), (4, .int v15), (5, .int (b2i v19)), (6, .int v20)] [] h21 (iter (fun _ _ _ => none) (f_X8_came_180 N v10 r152 v14 v15) n v19 v20 h21)) → _
                              intro ih180 v19 v20 h21
                              show Wm X (fun v => some (.int v.1)) (fun v => v.2) (fun _ => True) 180 [(0, .ref (adr (xG X) 8 0 0)), (1, .int p1), (2, .int v10), (3, .int v14), (4, .int v15), (5, .int (b2i v19)), (6, .int v20)] [] h21 (f_X8_came_180 N v10 r152 v14 v15 (iter (fun _ _ _ => none) (f_X8_came_180 N v10 r152 v14 v15) n) v19 v20 h21)
                              revert ih180
                              generalize iter (fun _ _ _ => none) (f_X8_came_180 N v10 r152 v14 v15) n = r180
                              intro ih180
                              unfold f_X8_came_180
                              refine r_iload F 6 rfl dX8_came_180 ?_
                              refine r_iload_n F 2 rfl dX8_came_182 rfl ?_
                              refine Wt_jn (fun (j216 : Option (Int32 × Hp)) => Wm X (fun v => some (.int v.1)) (fun v => v.2) (fun _ => True) 216 [(0, .ref (adr (xG X) 8 0 0)), (1, .int p1), (2, .int v10), (3, .int v14), (4, .int v15), (5, .int (b2i v19))] [] h21 (j216)) ?_ fun j216 hj216 => ?_
                              · skip
                                refine r_iload_n F 3 rfl dX8_came_216 rfl ?_
                                refine r_iload F 5 rfl dX8_came_217 ?_
                                refine Wt_jn (fun (j230 : Int32 → Option (Int32 × Hp)) => ∀ v22 : Int32, Wm X (fun v => some (.int v.1)) (fun v => v.2) (fun _ => True) 230 [(0, .ref (adr (xG X) 8 0 0)), (1, .int p1), (2, .int v10), (4, .int v15)] [.int v22, .int v14] h21 (j230 v22)) ?_ fun j230 hj230 => ?_
                                · intro v22
                                  refine r_ior F dX8_came_230 ?_
                                  refine r_nmI fun v23 => ?_
                                  refine r_istore_n F [(3, .int v23), (0, .ref (adr (xG X) 8 0 0)), (1, .int p1), (2, .int v10), (4, .int v15)] rfl dX8_came_231 rfl (hS _ (by decide)) ?_
                                  refine r_iinc F (v := 1) 4 rfl (by decide) (fun v24 => [(4, .int v24), (3, .int v23), (0, .ref (adr (xG X) 8 0 0)), (1, .int p1), (2, .int v10)]) (fun _ => rfl) dX8_came_232 (hS _ (by decide)) fun v24 => ?_
                                  refine r_goto F (tgt := 152) dX8_came_235 (by decide) ?_
                                  exact Wt_pick [2, 3, 4, 1, 0] rfl (ih152 v23 v24 h21)
                                refine r_ifeq F (tgt := 229) dX8_came_219 (by decide) ?_ ?_
                                · skip
                                  refine r_iconst F (v := 0) dX8_came_229 (by decide) ?_
                                  exact Wt_pick [0, 1, 2, 4] rfl (hj230 0)
                                refine r_iconst F (v := 1) dX8_came_222 (by decide) ?_
                                refine r_iload F 4 rfl dX8_came_223 ?_
                                refine r_ishl F dX8_came_225 ?_
                                refine r_goto F (tgt := 230) dX8_came_226 (by decide) ?_
                                exact Wt_pick [0, 1, 2, 4] rfl (hj230 ((1 : Int32) <<< (v15 &&& 31)))
                              refine r_icmpgt F (tgt := 216) dX8_came_183 (by decide) ?_ ?_
                              · skip
                                exact Wt_pick [0, 1, 2, 3, 4, 5] rfl (hj216)
                              refine r_iload F 5 rfl dX8_came_186 ?_
                              refine r_ifeq F (tgt := 216) dX8_came_188 (by decide) ?_ ?_
                              · skip
                                exact Wt_pick [0, 1, 2, 3, 4, 5] rfl (hj216)
                              refine r_aload_n F 0 rfl dX8_came_191 rfl ?_
                              refine r_iconst F (v := 1) dX8_came_192 (by decide) ?_
                              refine r_aload_n F 0 rfl dX8_came_193 rfl ?_
                              refine r_getA F frX8_24 (by decide) dX8_came_194 ?_
                              refine r_iconst F (v := 1) dX8_came_197 (by decide) ?_
                              refine r_iaload F (ar_8_3 0 (by decide)) dX8_came_198 ?_
                              refine k_vH (run_V F cvX8_482 (by decide) (c_X8_goOn (xG X) _ N h21 1 (gA h21 8 0 3 (1 : Int32).toNatClampNeg)) rfl rfl ⟨⟨rfl, rfl⟩, Nat.le_of_ble_eq_true rfl, Nat.le_of_ble_eq_true rfl⟩ (Nat.le_of_ble_eq_true rfl) dX8_came_199) fun h25 => ?_
                              refine r_aload_n F 0 rfl dX8_came_202 rfl ?_
                              refine r_iload F 6 rfl dX8_came_203 ?_
                              refine k_zP (run_V F cvX8_544 (by decide) (c_X8_isSo (xG X) _ N h25 v20) rfl rfl ⟨⟨rfl, rfl⟩, Nat.le_of_ble_eq_true rfl, Nat.le_of_ble_eq_true rfl⟩ (Nat.le_of_ble_eq_true rfl) dX8_came_205) fun v26 _ => ?_
                              refine r_istore F [(5, .int (b2i v26)), (0, .ref (adr (xG X) 8 0 0)), (1, .int p1), (2, .int v10), (3, .int v14), (4, .int v15), (6, .int v20)] rfl dX8_came_208 (hS _ (by decide)) ?_
                              refine r_iinc F (v := 1) 6 rfl (by decide) (fun v27 => [(6, .int v27), (5, .int (b2i v26)), (0, .ref (adr (xG X) 8 0 0)), (1, .int p1), (2, .int v10), (3, .int v14), (4, .int v15)]) (fun _ => rfl) dX8_came_210 (hS _ (by decide)) fun v27 => ?_
                              refine r_goto F (tgt := 180) dX8_came_213 (by decide) ?_
                              exact Wt_pick [2, 3, 4, 5, 6, 1, 0] rfl (ih180 v26 v27 h25)
                          exact Wt_pick [2, 3, 4, 5, 6, 1, 0] rfl (hl180 N true 1 h18)
                      exact Wt_pick [2, 3, 4, 1, 0] rfl (hl152 N 0 0 h13)
                    refine r_aload_n F 0 rfl dX8_came_103 rfl ?_
                    refine r_getA F frX8_136 (by decide) dX8_came_104 ?_
                    refine r_iload_n F 3 rfl dX8_came_107 rfl ?_
                    refine r_baload F (ar_8_38 0 (by decide)) dX8_came_108 ?_
                    refine Wt_jn (fun (j136 : Int32 → Option (Int32 × Hp)) => ∀ v28 : Int32, Wm X (fun v => some (.int v.1)) (fun v => v.2) (fun _ => True) 136 [(0, .ref (adr (xG X) 8 0 0)), (1, .int p1), (3, .int v11)] [.int v28] h9 (j136 v28)) ?_ fun j136 hj136 => ?_
                    · intro v28
                      refine r_istore_n F [(2, .int v28), (0, .ref (adr (xG X) 8 0 0)), (1, .int p1), (3, .int v11)] rfl dX8_came_136 rfl (hS _ (by decide)) ?_
                      refine r_iinc F (v := 1) 3 rfl (by decide) (fun v29 => [(3, .int v29), (2, .int v28), (0, .ref (adr (xG X) 8 0 0)), (1, .int p1)]) (fun _ => rfl) dX8_came_137 (hS _ (by decide)) fun v29 => ?_
                      refine r_goto F (tgt := 95) dX8_came_140 (by decide) ?_
                      exact Wt_pick [2, 3, 1, 0] rfl (ih95 v28 v29)
                    refine Wt_jn (fun (j135 : Option (Int32 × Hp)) => Wm X (fun v => some (.int v.1)) (fun v => v.2) (fun _ => True) 135 [(0, .ref (adr (xG X) 8 0 0)), (1, .int p1), (2, .int v10), (3, .int v11)] [] h9 (j135)) ?_ fun j135 hj135 => ?_
                    · skip
                      refine r_iload_n F 2 rfl dX8_came_135 rfl ?_
                      exact Wt_pick [0, 1, 3] rfl (hj136 v10)
                    refine r_ifeq F (tgt := 135) dX8_came_109 (by decide) ?_ ?_
                    · skip
                      exact Wt_pick [0, 1, 2, 3] rfl (hj135)
                    refine r_aload_n F 0 rfl dX8_came_112 rfl ?_
                    refine r_getA F frX8_133 (by decide) dX8_came_113 ?_
                    refine r_iconst F (v := 3) dX8_came_116 (by decide) ?_
                    refine r_iload_n F 3 rfl dX8_came_117 rfl ?_
                    refine r_imul F dX8_came_118 ?_
                    refine r_iaload F (ar_8_37 0 (by decide)) dX8_came_119 ?_
                    refine r_iload_n F 2 rfl dX8_came_120 rfl ?_
                    refine r_icmple F (tgt := 135) dX8_came_121 (by decide) ?_ ?_
                    · skip
                      exact Wt_pick [0, 1, 2, 3] rfl (hj135)
                    refine r_aload_n F 0 rfl dX8_came_124 rfl ?_
                    refine r_getA F frX8_133 (by decide) dX8_came_125 ?_
                    refine r_iconst F (v := 3) dX8_came_128 (by decide) ?_
                    refine r_iload_n F 3 rfl dX8_came_129 rfl ?_
                    refine r_imul F dX8_came_130 ?_
                    refine r_iaload F (ar_8_37 0 (by decide)) dX8_came_131 ?_
                    refine r_goto F (tgt := 136) dX8_came_132 (by decide) ?_
                    exact Wt_pick [0, 1, 3] rfl (hj136 (gA h9 8 0 37 (3 * v11).toNatClampNeg))
                exact Wt_pick [1, 2, 3, 0] rfl (hl95 N 0 0)
              refine r_aload_n F 0 rfl dX8_came_51 rfl ?_
              refine r_getA F frX8_136 (by decide) dX8_came_52 ?_
              refine r_iload_n F 3 rfl dX8_came_55 rfl ?_
              refine r_baload F (ar_8_38 0 (by decide)) dX8_came_56 ?_
              refine Wt_jn (fun (j87 : Hp → Option (Int32 × Hp)) => ∀ h30 : Hp, Wm X (fun v => some (.int v.1)) (fun v => v.2) (fun _ => True) 87 [(0, .ref (adr (xG X) 8 0 0)), (1, .int p1), (2, .int 0), (3, .int v8)] [] h30 (j87 h30)) ?_ fun j87 hj87 => ?_
              · intro h30
                refine r_iinc F (v := (-1)) 3 rfl (by decide) (fun v31 => [(3, .int v31), (0, .ref (adr (xG X) 8 0 0)), (1, .int p1), (2, .int 0)]) (fun _ => rfl) dX8_came_87 (hS _ (by decide)) fun v31 => ?_
                refine r_goto F (tgt := 47) dX8_came_90 (by decide) ?_
                exact Wt_pick [1, 2, 3, 0] rfl (ih47 v31 h30)
              refine r_ifeq F (tgt := 87) dX8_came_57 (by decide) ?_ ?_
              · skip
                exact Wt_pick [0, 1, 2, 3] rfl (hj87 h9)
              refine r_aload_n F 0 rfl dX8_came_60 rfl ?_
              refine r_getA F frX8_133 (by decide) dX8_came_61 ?_
              refine r_iconst F (v := 3) dX8_came_64 (by decide) ?_
              refine r_iload_n F 3 rfl dX8_came_65 rfl ?_
              refine r_imul F dX8_came_66 ?_
              refine r_iaload F (ar_8_37 0 (by decide)) dX8_came_67 ?_
              refine r_ifge F (tgt := 87) dX8_came_68 (by decide) ?_ ?_
              · skip
                exact Wt_pick [0, 1, 2, 3] rfl (hj87 h9)
              refine r_aload_n F 0 rfl dX8_came_71 rfl ?_
              refine r_getA F frX8_136 (by decide) dX8_came_72 ?_
              refine r_aload_n F 0 rfl dX8_came_75 rfl ?_
              refine r_getA F frX8_133 (by decide) dX8_came_76 ?_
              refine r_iconst F (v := 3) dX8_came_79 (by decide) ?_
              refine r_iload_n F 3 rfl dX8_came_80 rfl ?_
              refine r_imul F dX8_came_81 ?_
              refine r_iconst F (v := 1) dX8_came_82 (by decide) ?_
              refine r_iadd F dX8_came_83 ?_
              refine r_iaload F (ar_8_37 0 (by decide)) dX8_came_84 ?_
              refine r_iconst F (v := 0) dX8_came_85 (by decide) ?_
              refine r_bastore F false rfl (ar_8_38 0 (by decide)) dX8_came_86 fun h32 => ?_
              exact Wt_pick [0, 1, 2, 3] rfl (hj87 h32)
          exact Wt_pick [1, 2, 3, 0] rfl (hl47 N v7 h4)
        refine r_aload_n F 0 rfl dX8_came_27 rfl ?_
        refine r_getA F frX8_136 (by decide) dX8_came_28 ?_
        refine r_iload_n F 3 rfl dX8_came_31 rfl ?_
        refine r_iconst F (v := 1) dX8_came_32 (by decide) ?_
        refine r_bastore F true rfl (ar_8_38 0 (by decide)) dX8_came_33 fun h33 => ?_
        refine r_iinc F (v := 1) 3 rfl (by decide) (fun v34 => [(3, .int v34), (0, .ref (adr (xG X) 8 0 0)), (1, .int p1), (2, .int 0)]) (fun _ => rfl) dX8_came_34 (hS _ (by decide)) fun v34 => ?_
        refine r_goto F (tgt := 19) dX8_came_37 (by decide) ?_
        exact Wt_pick [1, 2, 3, 0] rfl (ih19 v34 h33)
    exact Wt_pick [2, 3, 1, 0] rfl (hl19 N 0 h1)
  refine r_iconst F (v := (-1)) dX8_came_13 (by decide) ?_
  exact r_iret F hA rfl rfl trivial dX8_came_14
theorem c_X8_came (G : Gx) (l : Launch) (N : Nat) (h : Hp) (p1 : Int32) : Ctr G l yX8_came (.code yX8_came cX8_came 7 (some .int) :: GT) rmX8_came [.ref (adr G 8 0 0), .int p1] h (f_X8_came N h p1) (fun v => some (.int v.1)) (fun v => v.2) (fun _ => True) :=
  ctr_of (by decide) (Nat.le_of_ble_eq_true rfl) ⟨rfl, rfl⟩ fun X _ e2 hA hL F => by subst e2; exact w_X8_came X F hA hL N h p1
def f_X8_chance_73 (N : Nat) (p2 : Int32) (p3 : Int32) (p4 : Int32) (r59 : Int32 → Int32 → Hp → Option (Int32 × Hp)) (v7 : Int32) (v8 : Int32) (r73 : Int32 → Hp → Option (Int32 × Hp)) (v12 : Int32) (h13 : Hp) : Option (Int32 × Hp) :=
  if p2 ≤ v12 then
    grd (inb (4 + p3) 8) <|
    jn (fun (v14 : Bool) =>
      lt_ ((v7 + (b2i v14))) fun v15 =>
      lt_ (v8 + 1) fun v16 =>
      r59 v15 v16 h13) fun (j119 : Bool → Option (Int32 × Hp)) =>
    if (gA h13 8 0 28 (4 + p3).toNatClampNeg) < p4 then
      j119 false
    else
    j119 true
  else
  (f_X8_gale N h13 1).bind fun h17 =>
  (f_X8_goOn N h17 1 (gI h17 8 0 61)).bind fun h18 =>
  lt_ (v12 + 1) fun v19 =>
  r73 v19 h18
def f_X8_chance_59 (N : Nat) (p2 : Int32) (p3 : Int32) (p4 : Int32) (v5 : Int64) (r59 : Int32 → Int32 → Hp → Option (Int32 × Hp)) (v7 : Int32) (v8 : Int32) (h9 : Hp) : Option (Int32 × Hp) :=
  if 10 ≤ v8 then
    lt_ (sL h9 8 0 62 v5) fun h10 =>
    some (v7, h10)
  else
  (f_X8_layTried N h9).bind fun h11 =>
  iter (fun _ _ => none) (f_X8_chance_73 N p2 p3 p4 r59 v7 v8) N 0 h11
def f_X8_chance (N : Nat) (h : Hp) (p1 : Int32) (p2 : Int32) (p3 : Int32) (p4 : Int32) : Option (Int32 × Hp) :=
  lt_ (sI h 8 0 2 0) fun h1 =>
  jn (
    some ((-1), h1)) fun (j39 : Option (Int32 × Hp)) =>
  if p1 < 0 then
    j39
  else
  (f_X8_isIn p2 1 99).bind fun v2 =>
  if (b2i v2) = 0 then
    j39
  else
  (f_X8_isCroft h1 p3).bind fun v3 =>
  if (b2i v3) = 0 then
    j39
  else
  (f_X8_isIn p4 0 999999).bind fun v4 =>
  if ¬ (b2i v4) = 0 then
    lt_ ((gL h1 8 0 62)) fun v5 =>
    lt_ (sL h1 8 0 62 (p1).toInt64) fun h6 =>
    iter (fun _ _ _ => none) (f_X8_chance_59 N p2 p3 p4 v5) N 0 0 h6
  else
  j39
abbrev rmX8_chance : Room := { frames := 9, cells := 0, slots := 0, locals := 219 }
set_option maxRecDepth 100000 in
set_option maxHeartbeats 4000000 in
theorem w_X8_chance (X : Cx) (F : Fx X cX8_chance RX8 (some .int) rmX8_chance) (hA : xA X = Aw (xG X)) (hL : xL X = 10) (N : Nat) (h : Hp) (p1 : Int32) (p2 : Int32) (p3 : Int32) (p4 : Int32) : Wm X (fun v => some (.int v.1)) (fun v => v.2) (fun _ => True) 0 [(0, .ref (adr (xG X) 8 0 0)), (1, .int p1), (2, .int p2), (3, .int p3), (4, .int p4)] [] h (f_X8_chance N h p1 p2 p3 p4) := by
  have hS : ∀ i : Nat, i < 10 → i < xL X := fun i z => by rw [hL]; exact z
  unfold f_X8_chance
  refine r_aload_n F 0 rfl dX8_chance_0 rfl ?_
  refine r_iconst F (v := 0) dX8_chance_1 (by decide) ?_
  refine r_putI F frX8_163 (by decide) rfl rfl dX8_chance_2 fun h1 => ?_
  refine r_iload_n F 1 rfl dX8_chance_5 rfl ?_
  refine Wt_jn (fun (j39 : Option (Int32 × Hp)) => Wm X (fun v => some (.int v.1)) (fun v => v.2) (fun _ => True) 39 [] [] h1 (j39)) ?_ fun j39 hj39 => ?_
  · skip
    refine r_iconst F (v := (-1)) dX8_chance_39 (by decide) ?_
    exact r_iret F hA rfl rfl trivial dX8_chance_40
  refine r_iflt F (tgt := 39) dX8_chance_6 (by decide) ?_ ?_
  · skip
    exact Wt_pick [] rfl (hj39)
  refine r_iload_n F 2 rfl dX8_chance_9 rfl ?_
  refine r_iconst F (v := 1) dX8_chance_10 (by decide) ?_
  refine r_bipush F (v := 99) dX8_chance_11 (by decide) ?_
  refine k_zP (run_S F csX8_208 (c_X8_isIn (xG X) _ h1 p2 1 99) rfl rfl ⟨⟨rfl, rfl⟩, Nat.le_of_ble_eq_true rfl, Nat.le_of_ble_eq_true rfl⟩ (Nat.le_of_ble_eq_true rfl) dX8_chance_13) fun v2 _ => ?_
  refine r_ifeq F (tgt := 39) dX8_chance_16 (by decide) ?_ ?_
  · skip
    exact Wt_pick [] rfl (hj39)
  refine r_aload_n F 0 rfl dX8_chance_19 rfl ?_
  refine r_iload_n F 3 rfl dX8_chance_20 rfl ?_
  refine k_zP (run_V F cvX8_462 (by decide) (c_X8_isCroft (xG X) _ h1 p3) rfl rfl ⟨⟨rfl, rfl⟩, Nat.le_of_ble_eq_true rfl, Nat.le_of_ble_eq_true rfl⟩ (Nat.le_of_ble_eq_true rfl) dX8_chance_21) fun v3 _ => ?_
  refine r_ifeq F (tgt := 39) dX8_chance_24 (by decide) ?_ ?_
  · skip
    exact Wt_pick [] rfl (hj39)
  refine r_iload F 4 rfl dX8_chance_27 ?_
  refine r_iconst F (v := 0) dX8_chance_29 (by decide) ?_
  refine r_ldcw F wd_1951 dX8_chance_30 ?_
  refine k_zP (run_S F csX8_208 (c_X8_isIn (xG X) _ h1 p4 0 999999) rfl rfl ⟨⟨rfl, rfl⟩, Nat.le_of_ble_eq_true rfl, Nat.le_of_ble_eq_true rfl⟩ (Nat.le_of_ble_eq_true rfl) dX8_chance_33) fun v4 _ => ?_
  refine r_ifne F (tgt := 41) dX8_chance_36 (by decide) ?_ ?_
  · skip
    refine r_aload_n F 0 rfl dX8_chance_41 rfl ?_
    refine r_getL F frX8_366 (by decide) dX8_chance_42 ?_
    refine r_nmJ fun v5 => ?_
    refine r_lstore F [(5, .long v5), (0, .ref (adr (xG X) 8 0 0)), (1, .int p1), (2, .int p2), (3, .int p3), (4, .int p4)] rfl dX8_chance_45 (hS _ (by decide)) ?_
    refine r_aload_n F 1 rfl dX8_chance_47 rfl ?_
    refine r_iload_n F 2 rfl dX8_chance_48 rfl ?_
    refine r_i2l F dX8_chance_49 ?_
    refine r_putL F frX8_366 (by decide) rfl rfl dX8_chance_50 fun h6 => ?_
    refine r_iconst F (v := 0) dX8_chance_53 (by decide) ?_
    refine r_istore F [(7, .int 0), (5, .long v5), (0, .ref (adr (xG X) 8 0 0)), (1, .int p1), (2, .int p2), (3, .int p3), (4, .int p4)] rfl dX8_chance_54 (hS _ (by decide)) ?_
    refine r_iconst F (v := 0) dX8_chance_56 (by decide) ?_
    refine r_istore F [(8, .int 0), (7, .int 0), (5, .long v5), (0, .ref (adr (xG X) 8 0 0)), (1, .int p1), (2, .int p2), (3, .int p3), (4, .int p4)] rfl dX8_chance_57 (hS _ (by decide)) ?_
    have hl59 : ∀ n : Nat, ∀ v7 : Int32, ∀ v8 : Int32, ∀ h9 : Hp, Wm X (fun v => some (.int v.1)) (fun v => v.2) (fun _ => True) 59 [(0, .ref (adr (xG X) 8 0 0)), (2, .int p2), (3, .int p3), (4, .int p4), (5, .long v5), (7, .int v7), (8, .int v8)] [] h9 (iter (fun _ _ _ => none) (f_X8_chance_59 N p2 p3 p4 v5) n v7 v8 h9) := by
      intro n
      induction n with
      | zero => intro v7 v8 h9; exact Wt_none
      | succ n ih =>
        revert ih
        show (∀ v7 : Int32, ∀ v8 : Int32, ∀ h9 : Hp, Wm X (fun v => some (.int v.1)) (fun v => v.2) (fun _ => True) 59 [(0, .ref (adr (xG X) 8 0 0)), (2, .int p2), (3, .int p3), (4, .int p4), (5, .long v5), (7, .int v7), (8, .int v8)] [] h9 (iter (fun _ _ _ => none) (f_X8_chance_59 N p2 p3 p4 v5) n v7 v8 h9)) → _
        intro ih59 v7 v8 h9
        show Wm X (fun v => some (.int v.1)) (fun v => v.2) (fun _ => True) 59 [(0, .ref (adr (xG X) 8 0 0)), (2, .int p2), (3, .int p3), (4, .int p4), (5, .long v5), (7, .int v7), (8, .int v8)] [] h9 (f_X8_chance_59 N p2 p3 p4 v5 (iter (fun _ _ _ => none) (f_X8_chance_59 N p2 p3 p4 v5) n) v7 v8 h9)
        revert ih59
        generalize iter (fun _ _ _ => none) (f_X8_chance_59 N p2 p3 p4 v5) n = r59
        intro ih59
        unfold f_X8_chance_59
        refine r_iload F 6 rfl dX8_chance_59 ?_
        refine r_bipush F (v := 10) dX8_chance_61 (by decide) ?_
        refine r_icmpge F (tgt := 128) dX8_chance_63 (by decide) ?_ ?_
        · skip
          refine r_aload_n F 0 rfl dX8_chance_128 rfl ?_
          refine r_lload F 4 rfl dX8_chance_129 ?_
          refine r_putL F frX8_366 (by decide) rfl rfl dX8_chance_131 fun h10 => ?_
          refine r_iload F 5 rfl dX8_chance_134 ?_
          exact r_iret F hA rfl rfl trivial dX8_chance_136
        refine r_aload_n F 0 rfl dX8_chance_66 rfl ?_
        refine k_vH (run_V F cvX8_485 (by decide) (c_X8_layTried (xG X) _ N h9) rfl rfl ⟨⟨rfl, rfl⟩, Nat.le_of_ble_eq_true rfl, Nat.le_of_ble_eq_true rfl⟩ (Nat.le_of_ble_eq_true rfl) dX8_chance_67) fun h11 => ?_
        refine r_iconst F (v := 0) dX8_chance_70 (by decide) ?_
        refine r_istore F [(9, .int 0), (0, .ref (adr (xG X) 8 0 0)), (2, .int p2), (3, .int p3), (4, .int p4), (5, .long v5), (7, .int v7), (8, .int v8)] rfl dX8_chance_71 (hS _ (by decide)) ?_
        have hl73 : ∀ n : Nat, ∀ v12 : Int32, ∀ h13 : Hp, Wm X (fun v => some (.int v.1)) (fun v => v.2) (fun _ => True) 73 [(0, .ref (adr (xG X) 8 0 0)), (2, .int p2), (3, .int p3), (4, .int p4), (5, .long v5), (7, .int v7), (8, .int v8), (9, .int v12)] [] h13 (iter (fun _ _ => none) (f_X8_chance_73 N p2 p3 p4 r59 v7 v8) n v12 h13) := by
          intro n
          induction n with
          | zero => intro v12 h13; exact Wt_none
          | succ n ih =>
            revert ih
            show (∀ v12 : Int32, ∀ h13 : Hp, Wm X (fun v => some (.int v.1)) (fun v => v.2) (fun _ => True) 73 [(0, .ref (adr (xG X) 8 0 0)), (2, .int p2), (3, .int p3), (4, .int p4), (5, .long v5), (7, .int v7), (8, .int v8), (9, .int v12)] [] h13 (iter (fun _ _ => none) (f_X8_chance_73 N p2 p3 p4 r59 v7 v8) n v12 h13)) → _
            intro ih73 v12 h13
            show Wm X (fun v => some (.int v.1)) (fun v => v.2) (fun _ => True) 73 [(0, .ref (adr (xG X) 8 0 0)), (2, .int p2), (3, .int p3), (4, .int p4), (5, .long v5), (7, .int v7), (8, .int v8), (9, .int v12)] [] h13 (f_X8_chance_73 N p2 p3 p4 r59 v7 v8 (iter (fun _ _ => none) (f_X8_chance_73 N p2 p3 p4 r59 v7 v8) n) v12 h13)
            revert ih73
            generalize iter (fun _ _ => none) (f_X8_chance_73 N p2 p3 p4 r59 v7 v8) n = r73
            intro ih73
            unfold f_X8_chance_73
            refine r_iload F 7 rfl dX8_chance_73 ?_
            refine r_iload_n F 1 rfl dX8_chance_75 rfl ?_
            refine r_icmpge F (tgt := 99) dX8_chance_76 (by decide) ?_ ?_
            · skip
              refine r_iload F 5 rfl dX8_chance_99 ?_
              refine r_aload_n F 0 rfl dX8_chance_101 rfl ?_
              refine r_getA F frX8_100 (by decide) dX8_chance_102 ?_
              refine r_iconst F (v := 4) dX8_chance_105 (by decide) ?_
              refine r_iload_n F 2 rfl dX8_chance_106 rfl ?_
              refine r_iadd F dX8_chance_107 ?_
              refine r_iaload F (ar_8_28 0 (by decide)) dX8_chance_108 ?_
              refine r_iload F 3 rfl dX8_chance_109 ?_
              refine Wt_jn (fun (j119 : Bool → Option (Int32 × Hp)) => ∀ v14 : Bool, Wm X (fun v => some (.int v.1)) (fun v => v.2) (fun _ => True) 119 [(0, .ref (adr (xG X) 8 0 0)), (2, .int p2), (3, .int p3), (4, .int p4), (5, .long v5), (8, .int v8)] [.int (b2i v14), .int v7] h13 (j119 v14)) ?_ fun j119 hj119 => ?_
              · intro v14
                refine r_iadd F dX8_chance_119 ?_
                refine r_nmI fun v15 => ?_
                refine r_istore F [(7, .int v15), (0, .ref (adr (xG X) 8 0 0)), (2, .int p2), (3, .int p3), (4, .int p4), (5, .long v5), (8, .int v8)] rfl dX8_chance_120 (hS _ (by decide)) ?_
                refine r_iinc F (v := 1) 6 rfl (by decide) (fun v16 => [(8, .int v16), (7, .int v15), (0, .ref (adr (xG X) 8 0 0)), (2, .int p2), (3, .int p3), (4, .int p4), (5, .long v5)]) (fun _ => rfl) dX8_chance_122 (hS _ (by decide)) fun v16 => ?_
                refine r_goto F (tgt := 59) dX8_chance_125 (by decide) ?_
                exact Wt_pick [2, 3, 4, 5, 6, 1, 0] rfl (ih59 v15 v16 h13)
              refine r_icmplt F (tgt := 118) dX8_chance_111 (by decide) ?_ ?_
              · skip
                refine r_iconst F (v := 0) dX8_chance_118 (by decide) ?_
                exact Wt_pick [0, 1, 2, 3, 4, 6] rfl (hj119 false)
              refine r_iconst F (v := 1) dX8_chance_114 (by decide) ?_
              refine r_goto F (tgt := 119) dX8_chance_115 (by decide) ?_
              exact Wt_pick [0, 1, 2, 3, 4, 6] rfl (hj119 true)
            refine r_aload_n F 0 rfl dX8_chance_79 rfl ?_
            refine r_iconst F (v := 1) dX8_chance_80 (by decide) ?_
            refine k_vH (run_V F cvX8_479 (by decide) (c_X8_gale (xG X) _ N h13 1) rfl rfl ⟨⟨rfl, rfl⟩, Nat.le_of_ble_eq_true rfl, Nat.le_of_ble_eq_true rfl⟩ (Nat.le_of_ble_eq_true rfl) dX8_chance_81) fun h17 => ?_
            refine r_aload_n F 0 rfl dX8_chance_84 rfl ?_
            refine r_iconst F (v := 1) dX8_chance_85 (by decide) ?_
            refine r_aload_n F 0 rfl dX8_chance_86 rfl ?_
            refine r_getI F frX8_363 (by decide) dX8_chance_87 ?_
            refine k_vH (run_V F cvX8_482 (by decide) (c_X8_goOn (xG X) _ N h17 1 (gI h17 8 0 61)) rfl rfl ⟨⟨rfl, rfl⟩, Nat.le_of_ble_eq_true rfl, Nat.le_of_ble_eq_true rfl⟩ (Nat.le_of_ble_eq_true rfl) dX8_chance_90) fun h18 => ?_
            refine r_iinc F (v := 1) 7 rfl (by decide) (fun v19 => [(9, .int v19), (0, .ref (adr (xG X) 8 0 0)), (2, .int p2), (3, .int p3), (4, .int p4), (5, .long v5), (7, .int v7), (8, .int v8)]) (fun _ => rfl) dX8_chance_93 (hS _ (by decide)) fun v19 => ?_
            refine r_goto F (tgt := 73) dX8_chance_96 (by decide) ?_
            exact Wt_pick [1, 2, 3, 4, 5, 6, 7, 0] rfl (ih73 v19 h18)
        exact Wt_pick [1, 2, 3, 4, 5, 6, 7, 0] rfl (hl73 N 0 h11)
    exact Wt_pick [3, 5, 6, 7, 2, 1, 0] rfl (hl59 N 0 0 h6)
  exact Wt_pick [] rfl (hj39)
theorem c_X8_chance (G : Gx) (l : Launch) (N : Nat) (h : Hp) (p1 : Int32) (p2 : Int32) (p3 : Int32) (p4 : Int32) : Ctr G l yX8_chance (.code yX8_chance cX8_chance 10 (some .int) :: GT) rmX8_chance [.ref (adr G 8 0 0), .int p1, .int p2, .int p3, .int p4] h (f_X8_chance N h p1 p2 p3 p4) (fun v => some (.int v.1)) (fun v => v.2) (fun _ => True) :=
  ctr_of (by decide) (Nat.le_of_ble_eq_true rfl) ⟨rfl, rfl⟩ fun X _ e2 hA hL F => by subst e2; exact w_X8_chance X F hA hL N h p1 p2 p3 p4
def f_X8_tried_94 (N : Nat) (p1 : Int32) (p3 : Int32) (r94 : Int32 → Hp → Option (Int32 × Hp)) (v11 : Int32) (h12 : Hp) : Option (Int32 × Hp) :=
  jn (
    jn (fun (h13 : Hp) =>
      (f_X8_goTried N h13 p3 (gI h13 8 0 61)).bind fun h14 =>
      (f_X8_plainTried h14).bind fun h15 =>
      (f_X8_gains N h15 1).bind fun v16 =>
      (f_X8_gains N h15 0).bind fun v17 =>
      some ((v16 - v17), h15)) fun (j136 : Hp → Option (Int32 × Hp)) =>
    if ¬ p1 = 4 then
      j136 h12
    else
    grd (inb 1 2) <| lt_ (sA h12 8 0 31 (1 : Int32).toNatClampNeg 0) fun h18 =>
    j136 h18) fun (j124 : Option (Int32 × Hp)) =>
  if 4 ≤ v11 then
    j124
  else
  if ¬ p1 = 2 then
    j124
  else
  grd (inb (4 + v11) 8) <|
  grd (inb (4 + v11) 8) <| lt_ (sA h12 8 0 25 (4 + v11).toNatClampNeg ((gA h12 8 0 25 (4 + v11).toNatClampNeg) + 1)) fun h19 =>
  lt_ (v11 + 1) fun v20 =>
  r94 v20 h19
def f_X8_tried (N : Nat) (h : Hp) (p1 : Int32) (p2 : Int32) (p3 : Int32) : Option (Int32 × Hp) :=
  lt_ (sI h 8 0 2 0) fun h1 =>
  (f_X8_isIn p1 0 4).bind fun v2 =>
  jn (
    some ((-1), h1)) fun (j44 : Option (Int32 × Hp)) =>
  if (b2i v2) = 0 then
    j44
  else
  (f_X8_isIn p3 0 99).bind fun v3 =>
  if (b2i v3) = 0 then
    j44
  else
  jn (
    (f_X8_layTried N h1).bind fun h4 =>
    jn (fun (v5 : Bool) =>
      lt_ (sZ h4 8 0 63 v5) fun h6 =>
      jn (fun (v7 : Int32) =>
        lt_ (sI h6 8 0 66 v7) fun h8 =>
        jn (fun (v9 : Bool) =>
          lt_ (sZ h8 8 0 64 v9) fun h10 =>
          iter (fun _ _ => none) (f_X8_tried_94 N p1 p3) N 0 h10) fun (j88 : Bool → Option (Int32 × Hp)) =>
        if ¬ p1 = 3 then
          j88 false
        else
        j88 true) fun (j74 : Int32 → Option (Int32 × Hp)) =>
      if ¬ p1 = 1 then
        j74 (-1)
      else
      j74 p2) fun (j60 : Bool → Option (Int32 × Hp)) =>
    if ¬ p1 = 0 then
      j60 false
    else
    j60 true) fun (j46 : Option (Int32 × Hp)) =>
  if ¬ p1 = 1 then
    if p2 = 0 then
      j46
    else
    j44
  else
  (f_X8_isCroft h1 p2).bind fun v21 =>
  if ¬ (b2i v21) = 0 then
    j46
  else
  j44
abbrev rmX8_tried : Room := { frames := 10, cells := 0, slots := 0, locals := 242 }
set_option maxRecDepth 100000 in
set_option maxHeartbeats 4000000 in
theorem w_X8_tried (X : Cx) (F : Fx X cX8_tried RX8 (some .int) rmX8_tried) (hA : xA X = Aw (xG X)) (hL : xL X = 5) (N : Nat) (h : Hp) (p1 : Int32) (p2 : Int32) (p3 : Int32) : Wm X (fun v => some (.int v.1)) (fun v => v.2) (fun _ => True) 0 [(0, .ref (adr (xG X) 8 0 0)), (1, .int p1), (2, .int p2), (3, .int p3)] [] h (f_X8_tried N h p1 p2 p3) := by
  have hS : ∀ i : Nat, i < 5 → i < xL X := fun i z => by rw [hL]; exact z
  unfold f_X8_tried
  refine r_aload_n F 0 rfl dX8_tried_0 rfl ?_
  refine r_iconst F (v := 0) dX8_tried_1 (by decide) ?_
  refine r_putI F frX8_163 (by decide) rfl rfl dX8_tried_2 fun h1 => ?_
  refine r_iload_n F 1 rfl dX8_tried_5 rfl ?_
  refine r_iconst F (v := 0) dX8_tried_6 (by decide) ?_
  refine r_iconst F (v := 4) dX8_tried_7 (by decide) ?_
  refine k_zP (run_S F csX8_208 (c_X8_isIn (xG X) _ h1 p1 0 4) rfl rfl ⟨⟨rfl, rfl⟩, Nat.le_of_ble_eq_true rfl, Nat.le_of_ble_eq_true rfl⟩ (Nat.le_of_ble_eq_true rfl) dX8_tried_8) fun v2 _ => ?_
  refine Wt_jn (fun (j44 : Option (Int32 × Hp)) => Wm X (fun v => some (.int v.1)) (fun v => v.2) (fun _ => True) 44 [] [] h1 (j44)) ?_ fun j44 hj44 => ?_
  · skip
    refine r_iconst F (v := (-1)) dX8_tried_44 (by decide) ?_
    exact r_iret F hA rfl rfl trivial dX8_tried_45
  refine r_ifeq F (tgt := 44) dX8_tried_11 (by decide) ?_ ?_
  · skip
    exact Wt_pick [] rfl (hj44)
  refine r_iload_n F 3 rfl dX8_tried_14 rfl ?_
  refine r_iconst F (v := 0) dX8_tried_15 (by decide) ?_
  refine r_bipush F (v := 99) dX8_tried_16 (by decide) ?_
  refine k_zP (run_S F csX8_208 (c_X8_isIn (xG X) _ h1 p3 0 99) rfl rfl ⟨⟨rfl, rfl⟩, Nat.le_of_ble_eq_true rfl, Nat.le_of_ble_eq_true rfl⟩ (Nat.le_of_ble_eq_true rfl) dX8_tried_18) fun v3 _ => ?_
  refine r_ifeq F (tgt := 44) dX8_tried_21 (by decide) ?_ ?_
  · skip
    exact Wt_pick [] rfl (hj44)
  refine r_iload_n F 1 rfl dX8_tried_24 rfl ?_
  refine r_iconst F (v := 1) dX8_tried_25 (by decide) ?_
  refine Wt_jn (fun (j46 : Option (Int32 × Hp)) => Wm X (fun v => some (.int v.1)) (fun v => v.2) (fun _ => True) 46 [(0, .ref (adr (xG X) 8 0 0)), (1, .int p1), (2, .int p2), (3, .int p3)] [] h1 (j46)) ?_ fun j46 hj46 => ?_
  · skip
    refine r_aload_n F 0 rfl dX8_tried_46 rfl ?_
    refine k_vH (run_V F cvX8_485 (by decide) (c_X8_layTried (xG X) _ N h1) rfl rfl ⟨⟨rfl, rfl⟩, Nat.le_of_ble_eq_true rfl, Nat.le_of_ble_eq_true rfl⟩ (Nat.le_of_ble_eq_true rfl) dX8_tried_47) fun h4 => ?_
    refine r_aload_n F 0 rfl dX8_tried_50 rfl ?_
    refine r_iload_n F 1 rfl dX8_tried_51 rfl ?_
    refine Wt_jn (fun (j60 : Bool → Option (Int32 × Hp)) => ∀ v5 : Bool, Wm X (fun v => some (.int v.1)) (fun v => v.2) (fun _ => True) 60 [(0, .ref (adr (xG X) 8 0 0)), (1, .int p1), (2, .int p2), (3, .int p3)] [.int (b2i v5), .ref (adr (xG X) 8 0 0)] h4 (j60 v5)) ?_ fun j60 hj60 => ?_
    · intro v5
      refine r_putZ F v5 rfl frX8_382 (by decide) rfl rfl dX8_tried_60 fun h6 => ?_
      refine r_aload_n F 0 rfl dX8_tried_63 rfl ?_
      refine r_iload_n F 1 rfl dX8_tried_64 rfl ?_
      refine r_iconst F (v := 1) dX8_tried_65 (by decide) ?_
      refine Wt_jn (fun (j74 : Int32 → Option (Int32 × Hp)) => ∀ v7 : Int32, Wm X (fun v => some (.int v.1)) (fun v => v.2) (fun _ => True) 74 [(0, .ref (adr (xG X) 8 0 0)), (1, .int p1), (3, .int p3)] [.int v7, .ref (adr (xG X) 8 0 0)] h6 (j74 v7)) ?_ fun j74 hj74 => ?_
      · intro v7
        refine r_putI F frX8_118 (by decide) rfl rfl dX8_tried_74 fun h8 => ?_
        refine r_aload_n F 0 rfl dX8_tried_77 rfl ?_
        refine r_iload_n F 1 rfl dX8_tried_78 rfl ?_
        refine r_iconst F (v := 3) dX8_tried_79 (by decide) ?_
        refine Wt_jn (fun (j88 : Bool → Option (Int32 × Hp)) => ∀ v9 : Bool, Wm X (fun v => some (.int v.1)) (fun v => v.2) (fun _ => True) 88 [(0, .ref (adr (xG X) 8 0 0)), (1, .int p1), (3, .int p3)] [.int (b2i v9), .ref (adr (xG X) 8 0 0)] h8 (j88 v9)) ?_ fun j88 hj88 => ?_
        · intro v9
          refine r_putZ F v9 rfl frX8_385 (by decide) rfl rfl dX8_tried_88 fun h10 => ?_
          refine r_iconst F (v := 0) dX8_tried_91 (by decide) ?_
          refine r_istore F [(4, .int 0), (0, .ref (adr (xG X) 8 0 0)), (1, .int p1), (3, .int p3)] rfl dX8_tried_92 (hS _ (by decide)) ?_
          have hl94 : ∀ n : Nat, ∀ v11 : Int32, ∀ h12 : Hp, Wm X (fun v => some (.int v.1)) (fun v => v.2) (fun _ => True) 94 [(0, .ref (adr (xG X) 8 0 0)), (1, .int p1), (3, .int p3), (4, .int v11)] [] h12 (iter (fun _ _ => none) (f_X8_tried_94 N p1 p3) n v11 h12) := by
            intro n
            induction n with
            | zero => intro v11 h12; exact Wt_none
            | succ n ih =>
              revert ih
              show (∀ v11 : Int32, ∀ h12 : Hp, Wm X (fun v => some (.int v.1)) (fun v => v.2) (fun _ => True) 94 [(0, .ref (adr (xG X) 8 0 0)), (1, .int p1), (3, .int p3), (4, .int v11)] [] h12 (iter (fun _ _ => none) (f_X8_tried_94 N p1 p3) n v11 h12)) → _
              intro ih94 v11 h12
              show Wm X (fun v => some (.int v.1)) (fun v => v.2) (fun _ => True) 94 [(0, .ref (adr (xG X) 8 0 0)), (1, .int p1), (3, .int p3), (4, .int v11)] [] h12 (f_X8_tried_94 N p1 p3 (iter (fun _ _ => none) (f_X8_tried_94 N p1 p3) n) v11 h12)
              revert ih94
              generalize iter (fun _ _ => none) (f_X8_tried_94 N p1 p3) n = r94
              intro ih94
              unfold f_X8_tried_94
              refine r_iload F 3 rfl dX8_tried_94 ?_
              refine r_iconst F (v := 4) dX8_tried_96 (by decide) ?_
              refine Wt_jn (fun (j124 : Option (Int32 × Hp)) => Wm X (fun v => some (.int v.1)) (fun v => v.2) (fun _ => True) 124 [(0, .ref (adr (xG X) 8 0 0)), (1, .int p1), (3, .int p3)] [] h12 (j124)) ?_ fun j124 hj124 => ?_
              · skip
                refine r_iload_n F 1 rfl dX8_tried_124 rfl ?_
                refine r_iconst F (v := 4) dX8_tried_125 (by decide) ?_
                refine Wt_jn (fun (j136 : Hp → Option (Int32 × Hp)) => ∀ h13 : Hp, Wm X (fun v => some (.int v.1)) (fun v => v.2) (fun _ => True) 136 [(0, .ref (adr (xG X) 8 0 0)), (3, .int p3)] [] h13 (j136 h13)) ?_ fun j136 hj136 => ?_
                · intro h13
                  refine r_aload_n F 0 rfl dX8_tried_136 rfl ?_
                  refine r_iload_n F 1 rfl dX8_tried_137 rfl ?_
                  refine r_aload_n F 0 rfl dX8_tried_138 rfl ?_
                  refine r_getI F frX8_363 (by decide) dX8_tried_139 ?_
                  refine k_vH (run_V F cvX8_488 (by decide) (c_X8_goTried (xG X) _ N h13 p3 (gI h13 8 0 61)) rfl rfl ⟨⟨rfl, rfl⟩, Nat.le_of_ble_eq_true rfl, Nat.le_of_ble_eq_true rfl⟩ (Nat.le_of_ble_eq_true rfl) dX8_tried_142) fun h14 => ?_
                  refine r_aload_n F 0 rfl dX8_tried_145 rfl ?_
                  refine k_vH (run_V F cvX8_370 (by decide) (c_X8_plainTried (xG X) _ h14) rfl rfl ⟨⟨rfl, rfl⟩, Nat.le_of_ble_eq_true rfl, Nat.le_of_ble_eq_true rfl⟩ (Nat.le_of_ble_eq_true rfl) dX8_tried_146) fun h15 => ?_
                  refine r_aload_n F 0 rfl dX8_tried_149 rfl ?_
                  refine r_iconst F (v := 1) dX8_tried_150 (by decide) ?_
                  refine k_iP (run_V F cvX8_497 (by decide) (c_X8_gains (xG X) _ N h15 1) rfl rfl ⟨⟨rfl, rfl⟩, Nat.le_of_ble_eq_true rfl, Nat.le_of_ble_eq_true rfl⟩ (Nat.le_of_ble_eq_true rfl) dX8_tried_151) fun v16 _ => ?_
                  refine r_aload_n F 0 rfl dX8_tried_154 rfl ?_
                  refine r_iconst F (v := 0) dX8_tried_155 (by decide) ?_
                  refine k_iP (run_V F cvX8_497 (by decide) (c_X8_gains (xG X) _ N h15 0) rfl rfl ⟨⟨rfl, rfl⟩, Nat.le_of_ble_eq_true rfl, Nat.le_of_ble_eq_true rfl⟩ (Nat.le_of_ble_eq_true rfl) dX8_tried_156) fun v17 _ => ?_
                  refine r_isub F dX8_tried_159 ?_
                  exact r_iret F hA rfl rfl trivial dX8_tried_160
                refine r_icmpne F (tgt := 136) dX8_tried_126 (by decide) ?_ ?_
                · skip
                  exact Wt_pick [0, 2] rfl (hj136 h12)
                refine r_aload_n F 0 rfl dX8_tried_129 rfl ?_
                refine r_getA F frX8_109 (by decide) dX8_tried_130 ?_
                refine r_iconst F (v := 1) dX8_tried_133 (by decide) ?_
                refine r_iconst F (v := 0) dX8_tried_134 (by decide) ?_
                refine r_iastore F (ar_8_31 0 (by decide)) dX8_tried_135 fun h18 => ?_
                exact Wt_pick [0, 2] rfl (hj136 h18)
              refine r_icmpge F (tgt := 124) dX8_tried_97 (by decide) ?_ ?_
              · skip
                exact Wt_pick [0, 1, 2] rfl (hj124)
              refine r_iload_n F 1 rfl dX8_tried_100 rfl ?_
              refine r_iconst F (v := 2) dX8_tried_101 (by decide) ?_
              refine r_icmpne F (tgt := 124) dX8_tried_102 (by decide) ?_ ?_
              · skip
                exact Wt_pick [0, 1, 2] rfl (hj124)
              refine r_aload_n F 0 rfl dX8_tried_105 rfl ?_
              refine r_getA F frX8_91 (by decide) dX8_tried_106 ?_
              refine r_iconst F (v := 4) dX8_tried_109 (by decide) ?_
              refine r_iload F 3 rfl dX8_tried_110 ?_
              refine r_iadd F dX8_tried_112 ?_
              refine r_dup2 F rfl rfl dX8_tried_113 ?_
              refine r_iaload F (ar_8_25 0 (by decide)) dX8_tried_114 ?_
              refine r_iconst F (v := 1) dX8_tried_115 (by decide) ?_
              refine r_iadd F dX8_tried_116 ?_
              refine r_iastore F (ar_8_25 0 (by decide)) dX8_tried_117 fun h19 => ?_
              refine r_iinc F (v := 1) 3 rfl (by decide) (fun v20 => [(4, .int v20), (0, .ref (adr (xG X) 8 0 0)), (1, .int p1), (3, .int p3)]) (fun _ => rfl) dX8_tried_118 (hS _ (by decide)) fun v20 => ?_
              refine r_goto F (tgt := 94) dX8_tried_121 (by decide) ?_
              exact Wt_pick [1, 2, 3, 0] rfl (ih94 v20 h19)
          exact Wt_pick [1, 2, 3, 0] rfl (hl94 N 0 h10)
        refine r_icmpne F (tgt := 87) dX8_tried_80 (by decide) ?_ ?_
        · skip
          refine r_iconst F (v := 0) dX8_tried_87 (by decide) ?_
          exact Wt_pick [0, 1, 2] rfl (hj88 false)
        refine r_iconst F (v := 1) dX8_tried_83 (by decide) ?_
        refine r_goto F (tgt := 88) dX8_tried_84 (by decide) ?_
        exact Wt_pick [0, 1, 2] rfl (hj88 true)
      refine r_icmpne F (tgt := 73) dX8_tried_66 (by decide) ?_ ?_
      · skip
        refine r_iconst F (v := (-1)) dX8_tried_73 (by decide) ?_
        exact Wt_pick [0, 1, 3] rfl (hj74 (-1))
      refine r_iload_n F 2 rfl dX8_tried_69 rfl ?_
      refine r_goto F (tgt := 74) dX8_tried_70 (by decide) ?_
      exact Wt_pick [0, 1, 3] rfl (hj74 p2)
    refine r_ifne F (tgt := 59) dX8_tried_52 (by decide) ?_ ?_
    · skip
      refine r_iconst F (v := 0) dX8_tried_59 (by decide) ?_
      exact Wt_pick [0, 1, 2, 3] rfl (hj60 false)
    refine r_iconst F (v := 1) dX8_tried_55 (by decide) ?_
    refine r_goto F (tgt := 60) dX8_tried_56 (by decide) ?_
    exact Wt_pick [0, 1, 2, 3] rfl (hj60 true)
  refine r_icmpne F (tgt := 40) dX8_tried_26 (by decide) ?_ ?_
  · skip
    refine r_iload_n F 2 rfl dX8_tried_40 rfl ?_
    refine r_ifeq F (tgt := 46) dX8_tried_41 (by decide) ?_ ?_
    · skip
      exact Wt_pick [0, 1, 2, 3] rfl (hj46)
    exact Wt_pick [] rfl (hj44)
  refine r_aload_n F 0 rfl dX8_tried_29 rfl ?_
  refine r_iload_n F 2 rfl dX8_tried_30 rfl ?_
  refine k_zP (run_V F cvX8_462 (by decide) (c_X8_isCroft (xG X) _ h1 p2) rfl rfl ⟨⟨rfl, rfl⟩, Nat.le_of_ble_eq_true rfl, Nat.le_of_ble_eq_true rfl⟩ (Nat.le_of_ble_eq_true rfl) dX8_tried_31) fun v21 _ => ?_
  refine r_ifne F (tgt := 46) dX8_tried_34 (by decide) ?_ ?_
  · skip
    exact Wt_pick [0, 1, 2, 3] rfl (hj46)
  refine r_goto F (tgt := 44) dX8_tried_37 (by decide) ?_
  exact Wt_pick [] rfl (hj44)
theorem c_X8_tried (G : Gx) (l : Launch) (N : Nat) (h : Hp) (p1 : Int32) (p2 : Int32) (p3 : Int32) : Ctr G l yX8_tried (.code yX8_tried cX8_tried 5 (some .int) :: GT) rmX8_tried [.ref (adr G 8 0 0), .int p1, .int p2, .int p3] h (f_X8_tried N h p1 p2 p3) (fun v => some (.int v.1)) (fun v => v.2) (fun _ => True) :=
  ctr_of (by decide) (Nat.le_of_ble_eq_true rfl) ⟨rfl, rfl⟩ fun X _ e2 hA hL F => by subst e2; exact w_X8_tried X F hA hL N h p1 p2 p3
