theorem dX1_readJoin_0 : decode cX1_readJoin 0 = .ok (.aload_n 0, 1) := by decide +kernel
theorem dX1_readJoin_1 : decode cX1_readJoin 1 = .ok (.getfield 21, 3) := by decide +kernel
theorem dX1_readJoin_4 : decode cX1_readJoin 4 = .ok (.getfield 53, 3) := by decide +kernel
theorem dX1_readJoin_7 : decode cX1_readJoin 7 = .ok (.invokestatic 229, 3) := by decide +kernel
theorem dX1_readJoin_10 : decode cX1_readJoin 10 = .ok (.istore_n 1, 1) := by decide +kernel
theorem dX1_readJoin_11 : decode cX1_readJoin 11 = .ok (.iload_n 1, 1) := by decide +kernel
theorem dX1_readJoin_12 : decode cX1_readJoin 12 = .ok (.iconst 4, 1) := by decide +kernel
theorem dX1_readJoin_13 : decode cX1_readJoin 13 = .ok (.if_icmp .ne 21, 3) := by decide +kernel
theorem dX1_readJoin_16 : decode cX1_readJoin 16 = .ok (.aload_n 0, 1) := by decide +kernel
theorem dX1_readJoin_17 : decode cX1_readJoin 17 = .ok (.getfield 17, 3) := by decide +kernel
theorem dX1_readJoin_20 : decode cX1_readJoin 20 = .ok (.aload_n 0, 1) := by decide +kernel
theorem dX1_readJoin_21 : decode cX1_readJoin 21 = .ok (.getfield 204, 3) := by decide +kernel
theorem dX1_readJoin_24 : decode cX1_readJoin 24 = .ok (.baload, 1) := by decide +kernel
theorem dX1_readJoin_25 : decode cX1_readJoin 25 = .ok (.ifCond .eq 9, 3) := by decide +kernel
theorem dX1_readJoin_28 : decode cX1_readJoin 28 = .ok (.aload_n 0, 1) := by decide +kernel
theorem dX1_readJoin_29 : decode cX1_readJoin 29 = .ok (.iconst 1, 1) := by decide +kernel
theorem dX1_readJoin_30 : decode cX1_readJoin 30 = .ok (.invokevirtual 93, 3) := by decide +kernel
theorem dX1_readJoin_33 : decode cX1_readJoin 33 = .ok (.ireturn, 1) := by decide +kernel
theorem dX1_readJoin_34 : decode cX1_readJoin 34 = .ok (.aload_n 0, 1) := by decide +kernel
theorem dX1_readJoin_35 : decode cX1_readJoin 35 = .ok (.getfield 44, 3) := by decide +kernel
theorem dX1_readJoin_38 : decode cX1_readJoin 38 = .ok (.bipush 64, 2) := by decide +kernel
theorem dX1_readJoin_40 : decode cX1_readJoin 40 = .ok (.if_icmp .lt 9, 3) := by decide +kernel
theorem dX1_readJoin_43 : decode cX1_readJoin 43 = .ok (.aload_n 0, 1) := by decide +kernel
theorem dX1_readJoin_44 : decode cX1_readJoin 44 = .ok (.iconst 2, 1) := by decide +kernel
theorem dX1_readJoin_45 : decode cX1_readJoin 45 = .ok (.invokevirtual 93, 3) := by decide +kernel
theorem dX1_readJoin_48 : decode cX1_readJoin 48 = .ok (.ireturn, 1) := by decide +kernel
theorem dX1_readJoin_49 : decode cX1_readJoin 49 = .ok (.aload_n 0, 1) := by decide +kernel
theorem dX1_readJoin_50 : decode cX1_readJoin 50 = .ok (.dup, 1) := by decide +kernel
theorem dX1_readJoin_51 : decode cX1_readJoin 51 = .ok (.getfield 44, 3) := by decide +kernel
theorem dX1_readJoin_54 : decode cX1_readJoin 54 = .ok (.iconst 1, 1) := by decide +kernel
theorem dX1_readJoin_55 : decode cX1_readJoin 55 = .ok (.iadd, 1) := by decide +kernel
theorem dX1_readJoin_56 : decode cX1_readJoin 56 = .ok (.putfield 44, 3) := by decide +kernel
theorem dX1_readJoin_59 : decode cX1_readJoin 59 = .ok (.iload_n 1, 1) := by decide +kernel
theorem dX1_readJoin_60 : decode cX1_readJoin 60 = .ok (.iconst 4, 1) := by decide +kernel
theorem dX1_readJoin_61 : decode cX1_readJoin 61 = .ok (.if_icmp .ne 16, 3) := by decide +kernel
theorem dX1_readJoin_64 : decode cX1_readJoin 64 = .ok (.aload_n 0, 1) := by decide +kernel
theorem dX1_readJoin_65 : decode cX1_readJoin 65 = .ok (.getfield 17, 3) := by decide +kernel
theorem dX1_readJoin_68 : decode cX1_readJoin 68 = .ok (.aload_n 0, 1) := by decide +kernel
theorem dX1_readJoin_69 : decode cX1_readJoin 69 = .ok (.getfield 204, 3) := by decide +kernel
theorem dX1_readJoin_72 : decode cX1_readJoin 72 = .ok (.iconst 1, 1) := by decide +kernel
theorem dX1_readJoin_73 : decode cX1_readJoin 73 = .ok (.bastore, 1) := by decide +kernel
theorem dX1_readJoin_74 : decode cX1_readJoin 74 = .ok (.goto 18, 3) := by decide +kernel
theorem dX1_readJoin_77 : decode cX1_readJoin 77 = .ok (.iload_n 1, 1) := by decide +kernel
theorem dX1_readJoin_78 : decode cX1_readJoin 78 = .ok (.iconst 2, 1) := by decide +kernel
theorem dX1_readJoin_79 : decode cX1_readJoin 79 = .ok (.if_icmp .gt 13, 3) := by decide +kernel
theorem dX1_readJoin_82 : decode cX1_readJoin 82 = .ok (.aload_n 0, 1) := by decide +kernel
theorem dX1_readJoin_83 : decode cX1_readJoin 83 = .ok (.getfield 17, 3) := by decide +kernel
theorem dX1_readJoin_86 : decode cX1_readJoin 86 = .ok (.aload_n 0, 1) := by decide +kernel
theorem dX1_readJoin_87 : decode cX1_readJoin 87 = .ok (.getfield 204, 3) := by decide +kernel
theorem dX1_readJoin_90 : decode cX1_readJoin 90 = .ok (.iconst 0, 1) := by decide +kernel
theorem dX1_readJoin_91 : decode cX1_readJoin 91 = .ok (.bastore, 1) := by decide +kernel
theorem dX1_readJoin_92 : decode cX1_readJoin 92 = .ok (.aload_n 0, 1) := by decide +kernel
theorem dX1_readJoin_93 : decode cX1_readJoin 93 = .ok (.iload_n 1, 1) := by decide +kernel
theorem dX1_readJoin_94 : decode cX1_readJoin 94 = .ok (.invokevirtual 210, 3) := by decide +kernel
theorem dX1_readJoin_97 : decode cX1_readJoin 97 = .ok (.aload_n 0, 1) := by decide +kernel
theorem dX1_readJoin_98 : decode cX1_readJoin 98 = .ok (.aload_n 0, 1) := by decide +kernel
theorem dX1_readJoin_99 : decode cX1_readJoin 99 = .ok (.getfield 21, 3) := by decide +kernel
theorem dX1_readJoin_102 : decode cX1_readJoin 102 = .ok (.getfield 53, 3) := by decide +kernel
theorem dX1_readJoin_105 : decode cX1_readJoin 105 = .ok (.invokevirtual 226, 3) := by decide +kernel
theorem dX1_readJoin_108 : decode cX1_readJoin 108 = .ok (.aload_n 0, 1) := by decide +kernel
theorem dX1_readJoin_109 : decode cX1_readJoin 109 = .ok (.iconst 1, 1) := by decide +kernel
theorem dX1_readJoin_110 : decode cX1_readJoin 110 = .ok (.putfield 191, 3) := by decide +kernel
theorem dX1_readJoin_113 : decode cX1_readJoin 113 = .ok (.aload_n 0, 1) := by decide +kernel
theorem dX1_readJoin_114 : decode cX1_readJoin 114 = .ok (.iload_n 1, 1) := by decide +kernel
theorem dX1_readJoin_115 : decode cX1_readJoin 115 = .ok (.iconst 2, 1) := by decide +kernel
theorem dX1_readJoin_116 : decode cX1_readJoin 116 = .ok (.if_icmp .gt 7, 3) := by decide +kernel
theorem dX1_readJoin_119 : decode cX1_readJoin 119 = .ok (.iconst 1, 1) := by decide +kernel
theorem dX1_readJoin_120 : decode cX1_readJoin 120 = .ok (.goto 4, 3) := by decide +kernel
theorem dX1_readJoin_123 : decode cX1_readJoin 123 = .ok (.iconst 0, 1) := by decide +kernel
theorem dX1_readJoin_124 : decode cX1_readJoin 124 = .ok (.putfield 219, 3) := by decide +kernel
theorem dX1_readJoin_127 : decode cX1_readJoin 127 = .ok (.aload_n 0, 1) := by decide +kernel
theorem dX1_readJoin_128 : decode cX1_readJoin 128 = .ok (.getfield 21, 3) := by decide +kernel
theorem dX1_readJoin_131 : decode cX1_readJoin 131 = .ok (.invokevirtual 100, 3) := by decide +kernel
theorem dX1_readJoin_134 : decode cX1_readJoin 134 = .ok (.iconst 1, 1) := by decide +kernel
theorem dX1_readJoin_135 : decode cX1_readJoin 135 = .ok (.ireturn, 1) := by decide +kernel
theorem dX1_closeParenthesis_0 : decode cX1_closeParenthesis 0 = .ok (.aload_n 0, 1) := by decide +kernel
theorem dX1_closeParenthesis_1 : decode cX1_closeParenthesis 1 = .ok (.iconst 1, 1) := by decide +kernel
theorem dX1_closeParenthesis_2 : decode cX1_closeParenthesis 2 = .ok (.invokevirtual 210, 3) := by decide +kernel
theorem dX1_closeParenthesis_5 : decode cX1_closeParenthesis 5 = .ok (.aload_n 0, 1) := by decide +kernel
theorem dX1_closeParenthesis_6 : decode cX1_closeParenthesis 6 = .ok (.getfield 216, 3) := by decide +kernel
theorem dX1_closeParenthesis_9 : decode cX1_closeParenthesis 9 = .ok (.ifCond .le 13, 3) := by decide +kernel
theorem dX1_closeParenthesis_12 : decode cX1_closeParenthesis 12 = .ok (.aload_n 0, 1) := by decide +kernel
theorem dX1_closeParenthesis_13 : decode cX1_closeParenthesis 13 = .ok (.dup, 1) := by decide +kernel
theorem dX1_closeParenthesis_14 : decode cX1_closeParenthesis 14 = .ok (.getfield 216, 3) := by decide +kernel
theorem dX1_closeParenthesis_17 : decode cX1_closeParenthesis 17 = .ok (.iconst 1, 1) := by decide +kernel
theorem dX1_closeParenthesis_18 : decode cX1_closeParenthesis 18 = .ok (.isub, 1) := by decide +kernel
theorem dX1_closeParenthesis_19 : decode cX1_closeParenthesis 19 = .ok (.putfield 216, 3) := by decide +kernel
theorem dX1_closeParenthesis_22 : decode cX1_closeParenthesis 22 = .ok (.aload_n 0, 1) := by decide +kernel
theorem dX1_closeParenthesis_23 : decode cX1_closeParenthesis 23 = .ok (.dup, 1) := by decide +kernel
theorem dX1_closeParenthesis_24 : decode cX1_closeParenthesis 24 = .ok (.getfield 204, 3) := by decide +kernel
theorem dX1_closeParenthesis_27 : decode cX1_closeParenthesis 27 = .ok (.iconst 1, 1) := by decide +kernel
theorem dX1_closeParenthesis_28 : decode cX1_closeParenthesis 28 = .ok (.isub, 1) := by decide +kernel
theorem dX1_closeParenthesis_29 : decode cX1_closeParenthesis 29 = .ok (.putfield 204, 3) := by decide +kernel
theorem dX1_closeParenthesis_32 : decode cX1_closeParenthesis 32 = .ok (.aload_n 0, 1) := by decide +kernel
theorem dX1_closeParenthesis_33 : decode cX1_closeParenthesis 33 = .ok (.getfield 21, 3) := by decide +kernel
theorem dX1_closeParenthesis_36 : decode cX1_closeParenthesis 36 = .ok (.invokevirtual 100, 3) := by decide +kernel
theorem dX1_closeParenthesis_39 : decode cX1_closeParenthesis 39 = .ok (.return_, 1) := by decide +kernel
theorem dX1_readLaw_0 : decode cX1_readLaw 0 = .ok (.aload_n 0, 1) := by decide +kernel
theorem dX1_readLaw_1 : decode cX1_readLaw 1 = .ok (.getfield 21, 3) := by decide +kernel
theorem dX1_readLaw_4 : decode cX1_readLaw 4 = .ok (.invokevirtual 100, 3) := by decide +kernel
theorem dX1_readLaw_7 : decode cX1_readLaw 7 = .ok (.aload_n 0, 1) := by decide +kernel
theorem dX1_readLaw_8 : decode cX1_readLaw 8 = .ok (.getfield 21, 3) := by decide +kernel
theorem dX1_readLaw_11 : decode cX1_readLaw 11 = .ok (.getfield 53, 3) := by decide +kernel
theorem dX1_readLaw_14 : decode cX1_readLaw 14 = .ok (.sipush 268, 3) := by decide +kernel
theorem dX1_readLaw_17 : decode cX1_readLaw 17 = .ok (.isub, 1) := by decide +kernel
theorem dX1_readLaw_18 : decode cX1_readLaw 18 = .ok (.istore_n 1, 1) := by decide +kernel
theorem dX1_readLaw_19 : decode cX1_readLaw 19 = .ok (.aload_n 0, 1) := by decide +kernel
theorem dX1_readLaw_20 : decode cX1_readLaw 20 = .ok (.getfield 21, 3) := by decide +kernel
theorem dX1_readLaw_23 : decode cX1_readLaw 23 = .ok (.getfield 53, 3) := by decide +kernel
theorem dX1_readLaw_26 : decode cX1_readLaw 26 = .ok (.sipush 268, 3) := by decide +kernel
theorem dX1_readLaw_29 : decode cX1_readLaw 29 = .ok (.if_icmp .lt 16, 3) := by decide +kernel
theorem dX1_readLaw_32 : decode cX1_readLaw 32 = .ok (.aload_n 0, 1) := by decide +kernel
theorem dX1_readLaw_33 : decode cX1_readLaw 33 = .ok (.getfield 21, 3) := by decide +kernel
theorem dX1_readLaw_36 : decode cX1_readLaw 36 = .ok (.getfield 53, 3) := by decide +kernel
theorem dX1_readLaw_39 : decode cX1_readLaw 39 = .ok (.sipush 271, 3) := by decide +kernel
theorem dX1_readLaw_42 : decode cX1_readLaw 42 = .ok (.if_icmp .le 9, 3) := by decide +kernel
theorem dX1_readLaw_45 : decode cX1_readLaw 45 = .ok (.aload_n 0, 1) := by decide +kernel
theorem dX1_readLaw_46 : decode cX1_readLaw 46 = .ok (.iconst 1, 1) := by decide +kernel
theorem dX1_readLaw_47 : decode cX1_readLaw 47 = .ok (.invokevirtual 93, 3) := by decide +kernel
theorem dX1_readLaw_50 : decode cX1_readLaw 50 = .ok (.ireturn, 1) := by decide +kernel
theorem dX1_readLaw_51 : decode cX1_readLaw 51 = .ok (.aload_n 0, 1) := by decide +kernel
theorem dX1_readLaw_52 : decode cX1_readLaw 52 = .ok (.getfield 25, 3) := by decide +kernel
theorem dX1_readLaw_55 : decode cX1_readLaw 55 = .ok (.getfield 180, 3) := by decide +kernel
theorem dX1_readLaw_58 : decode cX1_readLaw 58 = .ok (.iload_n 1, 1) := by decide +kernel
theorem dX1_readLaw_59 : decode cX1_readLaw 59 = .ok (.invokevirtual 184, 3) := by decide +kernel
theorem dX1_readLaw_62 : decode cX1_readLaw 62 = .ok (.ifCond .eq 9, 3) := by decide +kernel
theorem dX1_readLaw_65 : decode cX1_readLaw 65 = .ok (.aload_n 0, 1) := by decide +kernel
theorem dX1_readLaw_66 : decode cX1_readLaw 66 = .ok (.iconst 3, 1) := by decide +kernel
theorem dX1_readLaw_67 : decode cX1_readLaw 67 = .ok (.invokevirtual 93, 3) := by decide +kernel
theorem dX1_readLaw_70 : decode cX1_readLaw 70 = .ok (.ireturn, 1) := by decide +kernel
theorem dX1_readLaw_71 : decode cX1_readLaw 71 = .ok (.aload_n 0, 1) := by decide +kernel
theorem dX1_readLaw_72 : decode cX1_readLaw 72 = .ok (.getfield 21, 3) := by decide +kernel
theorem dX1_readLaw_75 : decode cX1_readLaw 75 = .ok (.invokevirtual 100, 3) := by decide +kernel
theorem dX1_readLaw_78 : decode cX1_readLaw 78 = .ok (.aload_n 0, 1) := by decide +kernel
theorem dX1_readLaw_79 : decode cX1_readLaw 79 = .ok (.getfield 25, 3) := by decide +kernel
theorem dX1_readLaw_82 : decode cX1_readLaw 82 = .ok (.getfield 180, 3) := by decide +kernel
theorem dX1_readLaw_85 : decode cX1_readLaw 85 = .ok (.iload_n 1, 1) := by decide +kernel
theorem dX1_readLaw_86 : decode cX1_readLaw 86 = .ok (.invokevirtual 187, 3) := by decide +kernel
theorem dX1_readLaw_89 : decode cX1_readLaw 89 = .ok (.aload_n 0, 1) := by decide +kernel
theorem dX1_readLaw_90 : decode cX1_readLaw 90 = .ok (.invokevirtual 188, 3) := by decide +kernel
theorem dX1_readLaw_93 : decode cX1_readLaw 93 = .ok (.iconst 0, 1) := by decide +kernel
theorem dX1_readLaw_94 : decode cX1_readLaw 94 = .ok (.istore_n 2, 1) := by decide +kernel
theorem dX1_readLaw_95 : decode cX1_readLaw 95 = .ok (.iload_n 2, 1) := by decide +kernel
theorem dX1_readLaw_96 : decode cX1_readLaw 96 = .ok (.sipush 700, 3) := by decide +kernel
theorem dX1_readLaw_99 : decode cX1_readLaw 99 = .ok (.if_icmp .ge 70, 3) := by decide +kernel
theorem dX1_readLaw_102 : decode cX1_readLaw 102 = .ok (.aload_n 0, 1) := by decide +kernel
theorem dX1_readLaw_103 : decode cX1_readLaw 103 = .ok (.getfield 191, 3) := by decide +kernel
theorem dX1_readLaw_106 : decode cX1_readLaw 106 = .ok (.ifCond .eq 12, 3) := by decide +kernel
theorem dX1_readLaw_109 : decode cX1_readLaw 109 = .ok (.aload_n 0, 1) := by decide +kernel
theorem dX1_readLaw_110 : decode cX1_readLaw 110 = .ok (.invokevirtual 195, 3) := by decide +kernel
theorem dX1_readLaw_113 : decode cX1_readLaw 113 = .ok (.ifCond .ne 50, 3) := by decide +kernel
theorem dX1_readLaw_116 : decode cX1_readLaw 116 = .ok (.iconst 0, 1) := by decide +kernel
theorem dX1_readLaw_117 : decode cX1_readLaw 117 = .ok (.ireturn, 1) := by decide +kernel
theorem dX1_readLaw_118 : decode cX1_readLaw 118 = .ok (.aload_n 0, 1) := by decide +kernel
theorem dX1_readLaw_119 : decode cX1_readLaw 119 = .ok (.getfield 21, 3) := by decide +kernel
theorem dX1_readLaw_122 : decode cX1_readLaw 122 = .ok (.getfield 53, 3) := by decide +kernel
theorem dX1_readLaw_125 : decode cX1_readLaw 125 = .ok (.invokestatic 198, 3) := by decide +kernel
theorem dX1_readLaw_128 : decode cX1_readLaw 128 = .ok (.ifCond .eq 12, 3) := by decide +kernel
theorem dX1_readLaw_131 : decode cX1_readLaw 131 = .ok (.aload_n 0, 1) := by decide +kernel
theorem dX1_readLaw_132 : decode cX1_readLaw 132 = .ok (.invokevirtual 201, 3) := by decide +kernel
theorem dX1_readLaw_135 : decode cX1_readLaw 135 = .ok (.ifCond .ne 28, 3) := by decide +kernel
theorem dX1_readLaw_138 : decode cX1_readLaw 138 = .ok (.iconst 0, 1) := by decide +kernel
theorem dX1_readLaw_139 : decode cX1_readLaw 139 = .ok (.ireturn, 1) := by decide +kernel
theorem dX1_readLaw_140 : decode cX1_readLaw 140 = .ok (.aload_n 0, 1) := by decide +kernel
theorem dX1_readLaw_141 : decode cX1_readLaw 141 = .ok (.getfield 21, 3) := by decide +kernel
theorem dX1_readLaw_144 : decode cX1_readLaw 144 = .ok (.getfield 53, 3) := by decide +kernel
theorem dX1_readLaw_147 : decode cX1_readLaw 147 = .ok (.bipush 41, 2) := by decide +kernel
theorem dX1_readLaw_149 : decode cX1_readLaw 149 = .ok (.if_icmp .ne 20, 3) := by decide +kernel
theorem dX1_readLaw_152 : decode cX1_readLaw 152 = .ok (.aload_n 0, 1) := by decide +kernel
theorem dX1_readLaw_153 : decode cX1_readLaw 153 = .ok (.getfield 204, 3) := by decide +kernel
theorem dX1_readLaw_156 : decode cX1_readLaw 156 = .ok (.ifCond .le 13, 3) := by decide +kernel
theorem dX1_readLaw_159 : decode cX1_readLaw 159 = .ok (.aload_n 0, 1) := by decide +kernel
theorem dX1_readLaw_160 : decode cX1_readLaw 160 = .ok (.invokevirtual 207, 3) := by decide +kernel
theorem dX1_readLaw_163 : decode cX1_readLaw 163 = .ok (.iinc 2 1, 3) := by decide +kernel
theorem dX1_readLaw_166 : decode cX1_readLaw 166 = .ok (.goto (-71), 3) := by decide +kernel
theorem dX1_readLaw_169 : decode cX1_readLaw 169 = .ok (.aload_n 0, 1) := by decide +kernel
theorem dX1_readLaw_170 : decode cX1_readLaw 170 = .ok (.getfield 204, 3) := by decide +kernel
theorem dX1_readLaw_173 : decode cX1_readLaw 173 = .ok (.ifCond .le 9, 3) := by decide +kernel
theorem dX1_readLaw_176 : decode cX1_readLaw 176 = .ok (.aload_n 0, 1) := by decide +kernel
theorem dX1_readLaw_177 : decode cX1_readLaw 177 = .ok (.iconst 1, 1) := by decide +kernel
theorem dX1_readLaw_178 : decode cX1_readLaw 178 = .ok (.invokevirtual 93, 3) := by decide +kernel
theorem dX1_readLaw_181 : decode cX1_readLaw 181 = .ok (.ireturn, 1) := by decide +kernel
theorem dX1_readLaw_182 : decode cX1_readLaw 182 = .ok (.aload_n 0, 1) := by decide +kernel
theorem dX1_readLaw_183 : decode cX1_readLaw 183 = .ok (.iconst 1, 1) := by decide +kernel
theorem dX1_readLaw_184 : decode cX1_readLaw 184 = .ok (.invokevirtual 210, 3) := by decide +kernel
theorem dX1_readLaw_187 : decode cX1_readLaw 187 = .ok (.aload_n 0, 1) := by decide +kernel
theorem dX1_readLaw_188 : decode cX1_readLaw 188 = .ok (.getfield 25, 3) := by decide +kernel
theorem dX1_readLaw_191 : decode cX1_readLaw 191 = .ok (.getfield 180, 3) := by decide +kernel
theorem dX1_readLaw_194 : decode cX1_readLaw 194 = .ok (.iload_n 1, 1) := by decide +kernel
theorem dX1_readLaw_195 : decode cX1_readLaw 195 = .ok (.invokevirtual 213, 3) := by decide +kernel
theorem dX1_readLaw_198 : decode cX1_readLaw 198 = .ok (.iconst 1, 1) := by decide +kernel
theorem dX1_readLaw_199 : decode cX1_readLaw 199 = .ok (.ireturn, 1) := by decide +kernel
theorem dX1_readLine_0 : decode cX1_readLine 0 = .ok (.aload_n 0, 1) := by decide +kernel
theorem dX1_readLine_1 : decode cX1_readLine 1 = .ok (.getfield 21, 3) := by decide +kernel
theorem dX1_readLine_4 : decode cX1_readLine 4 = .ok (.getfield 53, 3) := by decide +kernel
theorem dX1_readLine_7 : decode cX1_readLine 7 = .ok (.tableswitch 94 256 264 #[49, 54, 59, 64, 69, 74, 79, 84, 89], 49) := by decide +kernel
theorem dX1_readLine_56 : decode cX1_readLine 56 = .ok (.aload_n 0, 1) := by decide +kernel
theorem dX1_readLine_57 : decode cX1_readLine 57 = .ok (.invokevirtual 66, 3) := by decide +kernel
theorem dX1_readLine_60 : decode cX1_readLine 60 = .ok (.ireturn, 1) := by decide +kernel
theorem dX1_readLine_61 : decode cX1_readLine 61 = .ok (.aload_n 0, 1) := by decide +kernel
theorem dX1_readLine_62 : decode cX1_readLine 62 = .ok (.invokevirtual 69, 3) := by decide +kernel
theorem dX1_readLine_65 : decode cX1_readLine 65 = .ok (.ireturn, 1) := by decide +kernel
theorem dX1_readLine_66 : decode cX1_readLine 66 = .ok (.aload_n 0, 1) := by decide +kernel
theorem dX1_readLine_67 : decode cX1_readLine 67 = .ok (.invokevirtual 72, 3) := by decide +kernel
theorem dX1_readLine_70 : decode cX1_readLine 70 = .ok (.ireturn, 1) := by decide +kernel
theorem dX1_readLine_71 : decode cX1_readLine 71 = .ok (.aload_n 0, 1) := by decide +kernel
theorem dX1_readLine_72 : decode cX1_readLine 72 = .ok (.invokevirtual 75, 3) := by decide +kernel
theorem dX1_readLine_75 : decode cX1_readLine 75 = .ok (.ireturn, 1) := by decide +kernel
theorem dX1_readLine_76 : decode cX1_readLine 76 = .ok (.aload_n 0, 1) := by decide +kernel
theorem dX1_readLine_77 : decode cX1_readLine 77 = .ok (.invokevirtual 78, 3) := by decide +kernel
theorem dX1_readLine_80 : decode cX1_readLine 80 = .ok (.ireturn, 1) := by decide +kernel
theorem dX1_readLine_81 : decode cX1_readLine 81 = .ok (.aload_n 0, 1) := by decide +kernel
theorem dX1_readLine_82 : decode cX1_readLine 82 = .ok (.invokevirtual 81, 3) := by decide +kernel
theorem dX1_readLine_85 : decode cX1_readLine 85 = .ok (.ireturn, 1) := by decide +kernel
theorem dX1_readLine_86 : decode cX1_readLine 86 = .ok (.aload_n 0, 1) := by decide +kernel
theorem dX1_readLine_87 : decode cX1_readLine 87 = .ok (.invokevirtual 84, 3) := by decide +kernel
theorem dX1_readLine_90 : decode cX1_readLine 90 = .ok (.ireturn, 1) := by decide +kernel
theorem dX1_readLine_91 : decode cX1_readLine 91 = .ok (.aload_n 0, 1) := by decide +kernel
theorem dX1_readLine_92 : decode cX1_readLine 92 = .ok (.invokevirtual 87, 3) := by decide +kernel
theorem dX1_readLine_95 : decode cX1_readLine 95 = .ok (.ireturn, 1) := by decide +kernel
theorem dX1_readLine_96 : decode cX1_readLine 96 = .ok (.aload_n 0, 1) := by decide +kernel
theorem dX1_readLine_97 : decode cX1_readLine 97 = .ok (.invokevirtual 90, 3) := by decide +kernel
theorem dX1_readLine_100 : decode cX1_readLine 100 = .ok (.ireturn, 1) := by decide +kernel
theorem dX1_readLine_101 : decode cX1_readLine 101 = .ok (.aload_n 0, 1) := by decide +kernel
theorem dX1_readLine_102 : decode cX1_readLine 102 = .ok (.iconst 1, 1) := by decide +kernel
theorem dX1_readLine_103 : decode cX1_readLine 103 = .ok (.invokevirtual 93, 3) := by decide +kernel
theorem dX1_readLine_106 : decode cX1_readLine 106 = .ok (.ireturn, 1) := by decide +kernel
theorem dX1_takeSemicolon_0 : decode cX1_takeSemicolon 0 = .ok (.aload_n 0, 1) := by decide +kernel
theorem dX1_takeSemicolon_1 : decode cX1_takeSemicolon 1 = .ok (.getfield 21, 3) := by decide +kernel
theorem dX1_takeSemicolon_4 : decode cX1_takeSemicolon 4 = .ok (.getfield 53, 3) := by decide +kernel
theorem dX1_takeSemicolon_7 : decode cX1_takeSemicolon 7 = .ok (.bipush 59, 2) := by decide +kernel
theorem dX1_takeSemicolon_9 : decode cX1_takeSemicolon 9 = .ok (.if_icmp .eq 9, 3) := by decide +kernel
theorem dX1_takeSemicolon_12 : decode cX1_takeSemicolon 12 = .ok (.aload_n 0, 1) := by decide +kernel
theorem dX1_takeSemicolon_13 : decode cX1_takeSemicolon 13 = .ok (.iconst 1, 1) := by decide +kernel
theorem dX1_takeSemicolon_14 : decode cX1_takeSemicolon 14 = .ok (.invokevirtual 93, 3) := by decide +kernel
theorem dX1_takeSemicolon_17 : decode cX1_takeSemicolon 17 = .ok (.ireturn, 1) := by decide +kernel
theorem dX1_takeSemicolon_18 : decode cX1_takeSemicolon 18 = .ok (.aload_n 0, 1) := by decide +kernel
theorem dX1_takeSemicolon_19 : decode cX1_takeSemicolon 19 = .ok (.getfield 21, 3) := by decide +kernel
theorem dX1_takeSemicolon_22 : decode cX1_takeSemicolon 22 = .ok (.invokevirtual 100, 3) := by decide +kernel
theorem dX1_takeSemicolon_25 : decode cX1_takeSemicolon 25 = .ok (.iconst 1, 1) := by decide +kernel
theorem dX1_takeSemicolon_26 : decode cX1_takeSemicolon 26 = .ok (.ireturn, 1) := by decide +kernel
theorem dX1_reads_0 : decode cX1_reads 0 = .ok (.aload_n 0, 1) := by decide +kernel
theorem dX1_reads_1 : decode cX1_reads 1 = .ok (.aload_n 1, 1) := by decide +kernel
theorem dX1_reads_2 : decode cX1_reads 2 = .ok (.putfield 21, 3) := by decide +kernel
theorem dX1_reads_5 : decode cX1_reads 5 = .ok (.aload_n 0, 1) := by decide +kernel
theorem dX1_reads_6 : decode cX1_reads 6 = .ok (.aload_n 3, 1) := by decide +kernel
theorem dX1_reads_7 : decode cX1_reads 7 = .ok (.putfield 25, 3) := by decide +kernel
theorem dX1_reads_10 : decode cX1_reads 10 = .ok (.aload_n 0, 1) := by decide +kernel
theorem dX1_reads_11 : decode cX1_reads 11 = .ok (.getfield 25, 3) := by decide +kernel
theorem dX1_reads_14 : decode cX1_reads 14 = .ok (.invokevirtual 29, 3) := by decide +kernel
theorem dX1_reads_17 : decode cX1_reads 17 = .ok (.aload_n 0, 1) := by decide +kernel
theorem dX1_reads_18 : decode cX1_reads 18 = .ok (.iconst 0, 1) := by decide +kernel
theorem dX1_reads_19 : decode cX1_reads 19 = .ok (.putfield 34, 3) := by decide +kernel
theorem dX1_reads_22 : decode cX1_reads 22 = .ok (.aload_n 0, 1) := by decide +kernel
theorem dX1_reads_23 : decode cX1_reads 23 = .ok (.iconst (-1), 1) := by decide +kernel
theorem dX1_reads_24 : decode cX1_reads 24 = .ok (.putfield 38, 3) := by decide +kernel
theorem dX1_reads_27 : decode cX1_reads 27 = .ok (.aload_n 0, 1) := by decide +kernel
theorem dX1_reads_28 : decode cX1_reads 28 = .ok (.iconst 0, 1) := by decide +kernel
theorem dX1_reads_29 : decode cX1_reads 29 = .ok (.putfield 41, 3) := by decide +kernel
theorem dX1_reads_32 : decode cX1_reads 32 = .ok (.aload_n 0, 1) := by decide +kernel
theorem dX1_reads_33 : decode cX1_reads 33 = .ok (.iconst 0, 1) := by decide +kernel
theorem dX1_reads_34 : decode cX1_reads 34 = .ok (.putfield 44, 3) := by decide +kernel
theorem dX1_reads_37 : decode cX1_reads 37 = .ok (.aload_n 0, 1) := by decide +kernel
theorem dX1_reads_38 : decode cX1_reads 38 = .ok (.getfield 21, 3) := by decide +kernel
theorem dX1_reads_41 : decode cX1_reads 41 = .ok (.iload_n 2, 1) := by decide +kernel
theorem dX1_reads_42 : decode cX1_reads 42 = .ok (.invokevirtual 47, 3) := by decide +kernel
theorem dX1_reads_45 : decode cX1_reads 45 = .ok (.iconst 0, 1) := by decide +kernel
theorem dX1_reads_46 : decode cX1_reads 46 = .ok (.istore 4, 2) := by decide +kernel
theorem dX1_reads_48 : decode cX1_reads 48 = .ok (.iload 4, 2) := by decide +kernel
theorem dX1_reads_50 : decode cX1_reads 50 = .ok (.sipush 700, 3) := by decide +kernel
theorem dX1_reads_53 : decode cX1_reads 53 = .ok (.if_icmp .ge 48, 3) := by decide +kernel
theorem dX1_reads_56 : decode cX1_reads 56 = .ok (.aload_n 0, 1) := by decide +kernel
theorem dX1_reads_57 : decode cX1_reads 57 = .ok (.getfield 21, 3) := by decide +kernel
theorem dX1_reads_60 : decode cX1_reads 60 = .ok (.getfield 53, 3) := by decide +kernel
theorem dX1_reads_63 : decode cX1_reads 63 = .ok (.ifCond .eq 38, 3) := by decide +kernel
theorem dX1_reads_66 : decode cX1_reads 66 = .ok (.aload_n 0, 1) := by decide +kernel
theorem dX1_reads_67 : decode cX1_reads 67 = .ok (.invokevirtual 56, 3) := by decide +kernel
theorem dX1_reads_70 : decode cX1_reads 70 = .ok (.ifCond .eq 10, 3) := by decide +kernel
theorem dX1_reads_73 : decode cX1_reads 73 = .ok (.aload_n 0, 1) := by decide +kernel
theorem dX1_reads_74 : decode cX1_reads 74 = .ok (.invokevirtual 60, 3) := by decide +kernel
theorem dX1_reads_77 : decode cX1_reads 77 = .ok (.ifCond .ne 5, 3) := by decide +kernel
theorem dX1_reads_80 : decode cX1_reads 80 = .ok (.iconst 0, 1) := by decide +kernel
theorem dX1_reads_81 : decode cX1_reads 81 = .ok (.ireturn, 1) := by decide +kernel
theorem dX1_reads_82 : decode cX1_reads 82 = .ok (.aload_n 0, 1) := by decide +kernel
theorem dX1_reads_83 : decode cX1_reads 83 = .ok (.getfield 25, 3) := by decide +kernel
theorem dX1_reads_86 : decode cX1_reads 86 = .ok (.dup, 1) := by decide +kernel
theorem dX1_reads_87 : decode cX1_reads 87 = .ok (.getfield 63, 3) := by decide +kernel
theorem dX1_reads_90 : decode cX1_reads 90 = .ok (.iconst 1, 1) := by decide +kernel
theorem dX1_reads_91 : decode cX1_reads 91 = .ok (.iadd, 1) := by decide +kernel
theorem dX1_reads_92 : decode cX1_reads 92 = .ok (.putfield 63, 3) := by decide +kernel
theorem dX1_reads_95 : decode cX1_reads 95 = .ok (.iinc 4 1, 3) := by decide +kernel
theorem dX1_reads_98 : decode cX1_reads 98 = .ok (.goto (-50), 3) := by decide +kernel
theorem dX1_reads_101 : decode cX1_reads 101 = .ok (.iconst 1, 1) := by decide +kernel
theorem dX1_reads_102 : decode cX1_reads 102 = .ok (.ireturn, 1) := by decide +kernel
theorem dX2_clear_0 : decode cX2_clear 0 = .ok (.aload_n 0, 1) := by decide +kernel
theorem dX2_clear_1 : decode cX2_clear 1 = .ok (.iconst 0, 1) := by decide +kernel
theorem dX2_clear_2 : decode cX2_clear 2 = .ok (.putfield 29, 3) := by decide +kernel
theorem dX2_clear_5 : decode cX2_clear 5 = .ok (.aload_n 0, 1) := by decide +kernel
theorem dX2_clear_6 : decode cX2_clear 6 = .ok (.iconst (-1), 1) := by decide +kernel
theorem dX2_clear_7 : decode cX2_clear 7 = .ok (.putfield 25, 3) := by decide +kernel
theorem dX2_clear_10 : decode cX2_clear 10 = .ok (.return_, 1) := by decide +kernel
def f_X1_readJoin (N : Nat) (h : Hp) : Option (Bool × Hp) :=
  onO (gO h 1 0 2) fun _ =>
  (f_X1_bindingOf (gI h 4 0 6)).bind fun v1 =>
  jn (
    if (gI h 1 0 10) < 64 then
      lt_ (sI h 1 0 10 ((gI h 1 0 10) + 1)) fun h2 =>
      jn (fun (h3 : Hp) =>
        (f_X1_putWaiting N h3 v1).bind fun h4 =>
        onO (gO h4 1 0 2) fun _ =>
        (f_X1_push h4 (gI h4 4 0 6)).bind fun h5 =>
        lt_ (sZ h5 1 0 11 true) fun h6 =>
        jn (fun (v7 : Bool) =>
          lt_ (sZ h6 1 0 12 v7) fun h8 =>
          onO (gO h8 1 0 2) fun _ =>
          (f_X4_advance N h8).bind fun h9 =>
          some (true, h9)) fun (j124 : Bool → Option (Bool × Hp)) =>
        if 2 < v1 then
          j124 false
        else
        j124 true) fun (j92 : Hp → Option (Bool × Hp)) =>
      if ¬ v1 = 4 then
        if 2 < v1 then
          j92 h2
        else
        grd (inb (gI h2 1 0 9) 9) <| lt_ (sY h2 1 0 1 (gI h2 1 0 9).toNatClampNeg false) fun h10 =>
        j92 h10
      else
      grd (inb (gI h2 1 0 9) 9) <| lt_ (sY h2 1 0 1 (gI h2 1 0 9).toNatClampNeg true) fun h11 =>
      j92 h11
    else
    bd2 (f_X1_fails h 2) fun v13 h12 =>
    some (v13, h12)) fun (j34 : Option (Bool × Hp)) =>
  if ¬ v1 = 4 then
    j34
  else
  grd (inb (gI h 1 0 9) 9) <|
  if (b2i (gY h 1 0 1 (gI h 1 0 9).toNatClampNeg)) = 0 then
    j34
  else
  bd2 (f_X1_fails h 1) fun v15 h14 =>
  some (v15, h14)
abbrev rmX1_readJoin : Room := { frames := 3, cells := 0, slots := 0, locals := 62 }
set_option maxRecDepth 100000 in
set_option maxHeartbeats 4000000 in
theorem w_X1_readJoin (X : Cx) (F : Fx X cX1_readJoin RX1 (some .boolean) rmX1_readJoin) (hA : xA X = Aw (xG X)) (hL : xL X = 2) (N : Nat) (h : Hp) : Wm X (fun v => some (.int (b2i v.1))) (fun v => v.2) (fun _ => True) 0 [(0, .ref (adr (xG X) 1 0 0))] [] h (f_X1_readJoin N h) := by
  have hS : ∀ i : Nat, i < 2 → i < xL X := fun i z => by rw [hL]; exact z
  unfold f_X1_readJoin
  refine r_aload_n F 0 rfl dX1_readJoin_0 rfl ?_
  refine r_getO1 F frX1_21 (by decide) rfl dX1_readJoin_1 ?_
  refine r_getI F frX1_53 (by decide) dX1_readJoin_4 ?_
  refine k_iP (run_S F csX1_229 (c_X1_bindingOf (xG X) _ h (gI h 4 0 6)) rfl rfl ⟨⟨rfl, rfl⟩, Nat.le_of_ble_eq_true rfl, Nat.le_of_ble_eq_true rfl⟩ (Nat.le_of_ble_eq_true rfl) dX1_readJoin_7) fun v1 _ => ?_
  refine r_istore_n F [(1, .int v1), (0, .ref (adr (xG X) 1 0 0))] rfl dX1_readJoin_10 rfl (hS _ (by decide)) ?_
  refine r_iload_n F 0 rfl dX1_readJoin_11 rfl ?_
  refine r_iconst F (v := 4) dX1_readJoin_12 (by decide) ?_
  refine Wt_jn (fun (j34 : Option (Bool × Hp)) => Wm X (fun v => some (.int (b2i v.1))) (fun v => v.2) (fun _ => True) 34 [(0, .ref (adr (xG X) 1 0 0)), (1, .int v1)] [] h (j34)) ?_ fun j34 hj34 => ?_
  · skip
    refine r_aload_n F 0 rfl dX1_readJoin_34 rfl ?_
    refine r_getI F frX1_44 (by decide) dX1_readJoin_35 ?_
    refine r_bipush F (v := 64) dX1_readJoin_38 (by decide) ?_
    refine r_icmplt F (tgt := 49) dX1_readJoin_40 (by decide) ?_ ?_
    · skip
      refine r_aload_n F 0 rfl dX1_readJoin_49 rfl ?_
      refine r_dup F rfl dX1_readJoin_50 ?_
      refine r_getI F frX1_44 (by decide) dX1_readJoin_51 ?_
      refine r_iconst F (v := 1) dX1_readJoin_54 (by decide) ?_
      refine r_iadd F dX1_readJoin_55 ?_
      refine r_putI F frX1_44 (by decide) rfl rfl dX1_readJoin_56 fun h2 => ?_
      refine r_iload_n F 1 rfl dX1_readJoin_59 rfl ?_
      refine r_iconst F (v := 4) dX1_readJoin_60 (by decide) ?_
      refine Wt_jn (fun (j92 : Hp → Option (Bool × Hp)) => ∀ h3 : Hp, Wm X (fun v => some (.int (b2i v.1))) (fun v => v.2) (fun _ => True) 92 [(0, .ref (adr (xG X) 1 0 0)), (1, .int v1)] [] h3 (j92 h3)) ?_ fun j92 hj92 => ?_
      · intro h3
        refine r_aload_n F 0 rfl dX1_readJoin_92 rfl ?_
        refine r_iload_n F 1 rfl dX1_readJoin_93 rfl ?_
        refine k_vH (run_V F cvX1_210 (by decide) (c_X1_putWaiting (xG X) _ N h3 v1) rfl rfl ⟨⟨rfl, rfl⟩, Nat.le_of_ble_eq_true rfl, Nat.le_of_ble_eq_true rfl⟩ (Nat.le_of_ble_eq_true rfl) dX1_readJoin_94) fun h4 => ?_
        refine r_aload_n F 0 rfl dX1_readJoin_97 rfl ?_
        refine r_aload_n F 0 rfl dX1_readJoin_98 rfl ?_
        refine r_getO1 F frX1_21 (by decide) rfl dX1_readJoin_99 ?_
        refine r_getI F frX1_53 (by decide) dX1_readJoin_102 ?_
        refine k_vH (run_V F cvX1_226 (by decide) (c_X1_push (xG X) _ h4 (gI h4 4 0 6)) rfl rfl ⟨⟨rfl, rfl⟩, Nat.le_of_ble_eq_true rfl, Nat.le_of_ble_eq_true rfl⟩ (Nat.le_of_ble_eq_true rfl) dX1_readJoin_105) fun h5 => ?_
        refine r_aload_n F 0 rfl dX1_readJoin_108 rfl ?_
        refine r_iconst F (v := 1) dX1_readJoin_109 (by decide) ?_
        refine r_putZ F true rfl frX1_191 (by decide) rfl rfl dX1_readJoin_110 fun h6 => ?_
        refine r_aload_n F 0 rfl dX1_readJoin_113 rfl ?_
        refine r_iload_n F 1 rfl dX1_readJoin_114 rfl ?_
        refine r_iconst F (v := 2) dX1_readJoin_115 (by decide) ?_
        refine Wt_jn (fun (j124 : Bool → Option (Bool × Hp)) => ∀ v7 : Bool, Wm X (fun v => some (.int (b2i v.1))) (fun v => v.2) (fun _ => True) 124 [(0, .ref (adr (xG X) 1 0 0))] [.int (b2i v7), .ref (adr (xG X) 1 0 0)] h6 (j124 v7)) ?_ fun j124 hj124 => ?_
        · intro v7
          refine r_putZ F v7 rfl frX1_219 (by decide) rfl rfl dX1_readJoin_124 fun h8 => ?_
          refine r_aload_n F 0 rfl dX1_readJoin_127 rfl ?_
          refine r_getO1 F frX1_21 (by decide) rfl dX1_readJoin_128 ?_
          refine k_vH (run_V F cvX1_100 (by decide) (c_X4_advance (xG X) _ N h8) rfl rfl ⟨⟨rfl, rfl⟩, Nat.le_of_ble_eq_true rfl, Nat.le_of_ble_eq_true rfl⟩ (Nat.le_of_ble_eq_true rfl) dX1_readJoin_131) fun h9 => ?_
          refine r_iconst F (v := 1) dX1_readJoin_134 (by decide) ?_
          exact r_zret F hA true rfl rfl rfl trivial dX1_readJoin_135
        refine r_icmpgt F (tgt := 123) dX1_readJoin_116 (by decide) ?_ ?_
        · skip
          refine r_iconst F (v := 0) dX1_readJoin_123 (by decide) ?_
          exact Wt_pick [0] rfl (hj124 false)
        refine r_iconst F (v := 1) dX1_readJoin_119 (by decide) ?_
        refine r_goto F (tgt := 124) dX1_readJoin_120 (by decide) ?_
        exact Wt_pick [0] rfl (hj124 true)
      refine r_icmpne F (tgt := 77) dX1_readJoin_61 (by decide) ?_ ?_
      · skip
        refine r_iload_n F 1 rfl dX1_readJoin_77 rfl ?_
        refine r_iconst F (v := 2) dX1_readJoin_78 (by decide) ?_
        refine r_icmpgt F (tgt := 92) dX1_readJoin_79 (by decide) ?_ ?_
        · skip
          exact Wt_pick [0, 1] rfl (hj92 h2)
        refine r_aload_n F 0 rfl dX1_readJoin_82 rfl ?_
        refine r_getA F frX1_17 (by decide) dX1_readJoin_83 ?_
        refine r_aload_n F 0 rfl dX1_readJoin_86 rfl ?_
        refine r_getI F frX1_204 (by decide) dX1_readJoin_87 ?_
        refine r_iconst F (v := 0) dX1_readJoin_90 (by decide) ?_
        refine r_bastore F false rfl (ar_1_1 0 (by decide)) dX1_readJoin_91 fun h10 => ?_
        exact Wt_pick [0, 1] rfl (hj92 h10)
      refine r_aload_n F 0 rfl dX1_readJoin_64 rfl ?_
      refine r_getA F frX1_17 (by decide) dX1_readJoin_65 ?_
      refine r_aload_n F 0 rfl dX1_readJoin_68 rfl ?_
      refine r_getI F frX1_204 (by decide) dX1_readJoin_69 ?_
      refine r_iconst F (v := 1) dX1_readJoin_72 (by decide) ?_
      refine r_bastore F true rfl (ar_1_1 0 (by decide)) dX1_readJoin_73 fun h11 => ?_
      refine r_goto F (tgt := 92) dX1_readJoin_74 (by decide) ?_
      exact Wt_pick [0, 1] rfl (hj92 h11)
    refine r_aload_n F 0 rfl dX1_readJoin_43 rfl ?_
    refine r_iconst F (v := 2) dX1_readJoin_44 (by decide) ?_
    refine k_zH (run_V F cvX1_93 (by decide) (c_X1_fails (xG X) _ h 2) rfl rfl ⟨⟨rfl, rfl⟩, Nat.le_of_ble_eq_true rfl, Nat.le_of_ble_eq_true rfl⟩ (Nat.le_of_ble_eq_true rfl) dX1_readJoin_45) fun v13 h12 => ?_
    exact r_zret F hA v13 rfl rfl rfl trivial dX1_readJoin_48
  refine r_icmpne F (tgt := 34) dX1_readJoin_13 (by decide) ?_ ?_
  · skip
    exact Wt_pick [1, 0] rfl (hj34)
  refine r_aload_n F 1 rfl dX1_readJoin_16 rfl ?_
  refine r_getA F frX1_17 (by decide) dX1_readJoin_17 ?_
  refine r_aload_n F 1 rfl dX1_readJoin_20 rfl ?_
  refine r_getI F frX1_204 (by decide) dX1_readJoin_21 ?_
  refine r_baload F (ar_1_1 0 (by decide)) dX1_readJoin_24 ?_
  refine r_ifeq F (tgt := 34) dX1_readJoin_25 (by decide) ?_ ?_
  · skip
    exact Wt_pick [1, 0] rfl (hj34)
  refine r_aload_n F 1 rfl dX1_readJoin_28 rfl ?_
  refine r_iconst F (v := 1) dX1_readJoin_29 (by decide) ?_
  refine k_zH (run_V F cvX1_93 (by decide) (c_X1_fails (xG X) _ h 1) rfl rfl ⟨⟨rfl, rfl⟩, Nat.le_of_ble_eq_true rfl, Nat.le_of_ble_eq_true rfl⟩ (Nat.le_of_ble_eq_true rfl) dX1_readJoin_30) fun v15 h14 => ?_
  exact r_zret F hA v15 rfl rfl rfl trivial dX1_readJoin_33
theorem c_X1_readJoin (G : Gx) (l : Launch) (N : Nat) (h : Hp) : Ctr G l yX1_readJoin (.code yX1_readJoin cX1_readJoin 2 (some .boolean) :: GT) rmX1_readJoin [.ref (adr G 1 0 0)] h (f_X1_readJoin N h) (fun v => some (.int (b2i v.1))) (fun v => v.2) (fun _ => True) :=
  ctr_of (by decide) (Nat.le_of_ble_eq_true rfl) ⟨rfl, rfl⟩ fun X _ e2 hA hL F => by subst e2; exact w_X1_readJoin X F hA hL N h
def f_X1_closeParenthesis (N : Nat) (h : Hp) : Option Hp :=
  (f_X1_putWaiting N h 1).bind fun h1 =>
  jn (fun (h2 : Hp) =>
    lt_ (sI h2 1 0 9 ((gI h2 1 0 9) - 1)) fun h3 =>
    onO (gO h3 1 0 2) fun _ =>
    (f_X4_advance N h3).bind fun h4 =>
    some h4) fun (j22 : Hp → Option Hp) =>
  if (gI h1 1 0 8) ≤ 0 then
    j22 h1
  else
  lt_ (sI h1 1 0 8 ((gI h1 1 0 8) - 1)) fun h5 =>
  j22 h5
abbrev rmX1_closeParenthesis : Room := { frames := 3, cells := 0, slots := 0, locals := 62 }
set_option maxRecDepth 100000 in
set_option maxHeartbeats 4000000 in
theorem w_X1_closeParenthesis (X : Cx) (F : Fx X cX1_closeParenthesis RX1 none rmX1_closeParenthesis) (hA : xA X = Aw (xG X)) (hL : xL X = 1) (N : Nat) (h : Hp) : Wm X (fun _ => none) (fun v => v) (fun _ => True) 0 [(0, .ref (adr (xG X) 1 0 0))] [] h (f_X1_closeParenthesis N h) := by
  have hS : ∀ i : Nat, i < 1 → i < xL X := fun i z => by rw [hL]; exact z
  unfold f_X1_closeParenthesis
  refine r_aload_n F 0 rfl dX1_closeParenthesis_0 rfl ?_
  refine r_iconst F (v := 1) dX1_closeParenthesis_1 (by decide) ?_
  refine k_vH (run_V F cvX1_210 (by decide) (c_X1_putWaiting (xG X) _ N h 1) rfl rfl ⟨⟨rfl, rfl⟩, Nat.le_of_ble_eq_true rfl, Nat.le_of_ble_eq_true rfl⟩ (Nat.le_of_ble_eq_true rfl) dX1_closeParenthesis_2) fun h1 => ?_
  refine r_aload_n F 0 rfl dX1_closeParenthesis_5 rfl ?_
  refine r_getI F frX1_216 (by decide) dX1_closeParenthesis_6 ?_
  refine Wt_jn (fun (j22 : Hp → Option Hp) => ∀ h2 : Hp, Wm X (fun _ => none) (fun v => v) (fun _ => True) 22 [(0, .ref (adr (xG X) 1 0 0))] [] h2 (j22 h2)) ?_ fun j22 hj22 => ?_
  · intro h2
    refine r_aload_n F 0 rfl dX1_closeParenthesis_22 rfl ?_
    refine r_dup F rfl dX1_closeParenthesis_23 ?_
    refine r_getI F frX1_204 (by decide) dX1_closeParenthesis_24 ?_
    refine r_iconst F (v := 1) dX1_closeParenthesis_27 (by decide) ?_
    refine r_isub F dX1_closeParenthesis_28 ?_
    refine r_putI F frX1_204 (by decide) rfl rfl dX1_closeParenthesis_29 fun h3 => ?_
    refine r_aload_n F 0 rfl dX1_closeParenthesis_32 rfl ?_
    refine r_getO1 F frX1_21 (by decide) rfl dX1_closeParenthesis_33 ?_
    refine k_vH (run_V F cvX1_100 (by decide) (c_X4_advance (xG X) _ N h3) rfl rfl ⟨⟨rfl, rfl⟩, Nat.le_of_ble_eq_true rfl, Nat.le_of_ble_eq_true rfl⟩ (Nat.le_of_ble_eq_true rfl) dX1_closeParenthesis_36) fun h4 => ?_
    exact r_vret F hA rfl rfl trivial dX1_closeParenthesis_39
  refine r_ifle F (tgt := 22) dX1_closeParenthesis_9 (by decide) ?_ ?_
  · skip
    exact Wt_pick [0] rfl (hj22 h1)
  refine r_aload_n F 0 rfl dX1_closeParenthesis_12 rfl ?_
  refine r_dup F rfl dX1_closeParenthesis_13 ?_
  refine r_getI F frX1_216 (by decide) dX1_closeParenthesis_14 ?_
  refine r_iconst F (v := 1) dX1_closeParenthesis_17 (by decide) ?_
  refine r_isub F dX1_closeParenthesis_18 ?_
  refine r_putI F frX1_216 (by decide) rfl rfl dX1_closeParenthesis_19 fun h5 => ?_
  exact Wt_pick [0] rfl (hj22 h5)
theorem c_X1_closeParenthesis (G : Gx) (l : Launch) (N : Nat) (h : Hp) : Ctr G l yX1_closeParenthesis (.code yX1_closeParenthesis cX1_closeParenthesis 1 none :: GT) rmX1_closeParenthesis [.ref (adr G 1 0 0)] h (f_X1_closeParenthesis N h) (fun _ => none) (fun v => v) (fun _ => True) :=
  ctr_of (by decide) (Nat.le_of_ble_eq_true rfl) ⟨rfl, rfl⟩ fun X _ e2 hA hL F => by subst e2; exact w_X1_closeParenthesis X F hA hL N h
def f_X1_readLaw_95 (N : Nat) (v2 : Int32) (r95 : Int32 → Hp → Option (Bool × Hp)) (v11 : Int32) (h12 : Hp) : Option (Bool × Hp) :=
  jn (
    if (gI h12 1 0 9) ≤ 0 then
      (f_X1_putWaiting N h12 1).bind fun h13 =>
      onO (gO h13 1 0 3) fun o14 =>
      (f_X0_end h13 o14 v2).bind fun h15 =>
      some (true, h15)
    else
    bd2 (f_X1_fails h12 1) fun v17 h16 =>
    some (v17, h16)) fun (j169 : Option (Bool × Hp)) =>
  if 700 ≤ v11 then
    j169
  else
  jn (fun (h18 : Hp) =>
    lt_ (v11 + 1) fun v19 =>
    r95 v19 h18) fun (j163 : Hp → Option (Bool × Hp)) =>
  if (b2i (gZ h12 1 0 11)) = 0 then
    onO (gO h12 1 0 2) fun _ =>
    (f_X1_joins (gI h12 4 0 6)).bind fun v20 =>
    if (b2i v20) = 0 then
      onO (gO h12 1 0 2) fun _ =>
      if ¬ (gI h12 4 0 6) = 41 then
        j169
      else
      if (gI h12 1 0 9) ≤ 0 then
        j169
      else
      (f_X1_closeParenthesis N h12).bind fun h21 =>
      j163 h21
    else
    bd2 (f_X1_readJoin N h12) fun v23 h22 =>
    if ¬ (b2i v23) = 0 then
      j163 h22
    else
    some (false, h22)
  else
  bd2 (f_X1_readOperand N h12) fun v25 h24 =>
  if ¬ (b2i v25) = 0 then
    j163 h24
  else
  some (false, h24)
def f_X1_readLaw (N : Nat) (h : Hp) : Option (Bool × Hp) :=
  onO (gO h 1 0 2) fun _ =>
  (f_X4_advance N h).bind fun h1 =>
  onO (gO h1 1 0 2) fun _ =>
  lt_ (((gI h1 4 0 6) - 268)) fun v2 =>
  onO (gO h1 1 0 2) fun _ =>
  jn (
    bd2 (f_X1_fails h1 1) fun v4 h3 =>
    some (v4, h3)) fun (j45 : Option (Bool × Hp)) =>
  if (gI h1 4 0 6) < 268 then
    j45
  else
  onO (gO h1 1 0 2) fun _ =>
  if (gI h1 4 0 6) ≤ 271 then
    onO (gO h1 1 0 3) fun o5 =>
    (f_X0_isTold h1 o5 v2).bind fun v6 =>
    if (b2i v6) = 0 then
      onO (gO h1 1 0 2) fun _ =>
      (f_X4_advance N h1).bind fun h7 =>
      onO (gO h7 1 0 3) fun o8 =>
      (f_X0_begin h7 o8 v2).bind fun h9 =>
      (f_X1_beginExpression h9).bind fun h10 =>
      iter (fun _ _ => none) (f_X1_readLaw_95 N v2) N 0 h10
    else
    bd2 (f_X1_fails h1 3) fun v27 h26 =>
    some (v27, h26)
  else
  j45
abbrev rmX1_readLaw : Room := { frames := 4, cells := 0, slots := 0, locals := 84 }
set_option maxRecDepth 100000 in
set_option maxHeartbeats 4000000 in
theorem w_X1_readLaw (X : Cx) (F : Fx X cX1_readLaw RX1 (some .boolean) rmX1_readLaw) (hA : xA X = Aw (xG X)) (hL : xL X = 3) (N : Nat) (h : Hp) : Wm X (fun v => some (.int (b2i v.1))) (fun v => v.2) (fun _ => True) 0 [(0, .ref (adr (xG X) 1 0 0))] [] h (f_X1_readLaw N h) := by
  have hS : ∀ i : Nat, i < 3 → i < xL X := fun i z => by rw [hL]; exact z
  unfold f_X1_readLaw
  refine r_aload_n F 0 rfl dX1_readLaw_0 rfl ?_
  refine r_getO1 F frX1_21 (by decide) rfl dX1_readLaw_1 ?_
  refine k_vH (run_V F cvX1_100 (by decide) (c_X4_advance (xG X) _ N h) rfl rfl ⟨⟨rfl, rfl⟩, Nat.le_of_ble_eq_true rfl, Nat.le_of_ble_eq_true rfl⟩ (Nat.le_of_ble_eq_true rfl) dX1_readLaw_4) fun h1 => ?_
  refine r_aload_n F 0 rfl dX1_readLaw_7 rfl ?_
  refine r_getO1 F frX1_21 (by decide) rfl dX1_readLaw_8 ?_
  refine r_getI F frX1_53 (by decide) dX1_readLaw_11 ?_
  refine r_sipush F (v := 268) dX1_readLaw_14 (by decide) ?_
  refine r_isub F dX1_readLaw_17 ?_
  refine r_nmI fun v2 => ?_
  refine r_istore_n F [(1, .int v2), (0, .ref (adr (xG X) 1 0 0))] rfl dX1_readLaw_18 rfl (hS _ (by decide)) ?_
  refine r_aload_n F 1 rfl dX1_readLaw_19 rfl ?_
  refine r_getO1 F frX1_21 (by decide) rfl dX1_readLaw_20 ?_
  refine r_getI F frX1_53 (by decide) dX1_readLaw_23 ?_
  refine r_sipush F (v := 268) dX1_readLaw_26 (by decide) ?_
  refine Wt_jn (fun (j45 : Option (Bool × Hp)) => Wm X (fun v => some (.int (b2i v.1))) (fun v => v.2) (fun _ => True) 45 [(0, .ref (adr (xG X) 1 0 0))] [] h1 (j45)) ?_ fun j45 hj45 => ?_
  · skip
    refine r_aload_n F 0 rfl dX1_readLaw_45 rfl ?_
    refine r_iconst F (v := 1) dX1_readLaw_46 (by decide) ?_
    refine k_zH (run_V F cvX1_93 (by decide) (c_X1_fails (xG X) _ h1 1) rfl rfl ⟨⟨rfl, rfl⟩, Nat.le_of_ble_eq_true rfl, Nat.le_of_ble_eq_true rfl⟩ (Nat.le_of_ble_eq_true rfl) dX1_readLaw_47) fun v4 h3 => ?_
    exact r_zret F hA v4 rfl rfl rfl trivial dX1_readLaw_50
  refine r_icmplt F (tgt := 45) dX1_readLaw_29 (by decide) ?_ ?_
  · skip
    exact Wt_pick [1] rfl (hj45)
  refine r_aload_n F 1 rfl dX1_readLaw_32 rfl ?_
  refine r_getO1 F frX1_21 (by decide) rfl dX1_readLaw_33 ?_
  refine r_getI F frX1_53 (by decide) dX1_readLaw_36 ?_
  refine r_sipush F (v := 271) dX1_readLaw_39 (by decide) ?_
  refine r_icmple F (tgt := 51) dX1_readLaw_42 (by decide) ?_ ?_
  · skip
    refine r_aload_n F 1 rfl dX1_readLaw_51 rfl ?_
    refine r_getO F frX1_25 (by decide) dX1_readLaw_52 fun o5 hp_o5 => ?_
    refine r_getS F frX1_180 hp_o5 o5 rfl dX1_readLaw_55 ?_
    refine r_iload_n F 0 rfl dX1_readLaw_58 rfl ?_
    refine k_zP (run_V F cvX1_184 hp_o5 (c_X0_isTold (xG X) _ h1 o5 hp_o5 v2) rfl rfl ⟨⟨rfl, rfl⟩, Nat.le_of_ble_eq_true rfl, Nat.le_of_ble_eq_true rfl⟩ (Nat.le_of_ble_eq_true rfl) dX1_readLaw_59) fun v6 _ => ?_
    refine r_ifeq F (tgt := 71) dX1_readLaw_62 (by decide) ?_ ?_
    · skip
      refine r_aload_n F 1 rfl dX1_readLaw_71 rfl ?_
      refine r_getO1 F frX1_21 (by decide) rfl dX1_readLaw_72 ?_
      refine k_vH (run_V F cvX1_100 (by decide) (c_X4_advance (xG X) _ N h1) rfl rfl ⟨⟨rfl, rfl⟩, Nat.le_of_ble_eq_true rfl, Nat.le_of_ble_eq_true rfl⟩ (Nat.le_of_ble_eq_true rfl) dX1_readLaw_75) fun h7 => ?_
      refine r_aload_n F 1 rfl dX1_readLaw_78 rfl ?_
      refine r_getO F frX1_25 (by decide) dX1_readLaw_79 fun o8 hp_o8 => ?_
      refine r_getS F frX1_180 hp_o8 o8 rfl dX1_readLaw_82 ?_
      refine r_iload_n F 0 rfl dX1_readLaw_85 rfl ?_
      refine k_vH (run_V F cvX1_187 hp_o8 (c_X0_begin (xG X) _ h7 o8 hp_o8 v2) rfl rfl ⟨⟨rfl, rfl⟩, Nat.le_of_ble_eq_true rfl, Nat.le_of_ble_eq_true rfl⟩ (Nat.le_of_ble_eq_true rfl) dX1_readLaw_86) fun h9 => ?_
      refine r_aload_n F 1 rfl dX1_readLaw_89 rfl ?_
      refine k_vH (run_V F cvX1_188 (by decide) (c_X1_beginExpression (xG X) _ h9) rfl rfl ⟨⟨rfl, rfl⟩, Nat.le_of_ble_eq_true rfl, Nat.le_of_ble_eq_true rfl⟩ (Nat.le_of_ble_eq_true rfl) dX1_readLaw_90) fun h10 => ?_
      refine r_iconst F (v := 0) dX1_readLaw_93 (by decide) ?_
      refine r_istore_n F [(2, .int 0), (1, .int v2), (0, .ref (adr (xG X) 1 0 0))] rfl dX1_readLaw_94 rfl (hS _ (by decide)) ?_
      have hl95 : ∀ n : Nat, ∀ v11 : Int32, ∀ h12 : Hp, Wm X (fun v => some (.int (b2i v.1))) (fun v => v.2) (fun _ => True) 95 [(0, .ref (adr (xG X) 1 0 0)), (1, .int v2), (2, .int v11)] [] h12 (iter (fun _ _ => none) (f_X1_readLaw_95 N v2) n v11 h12) := by
        intro n
        induction n with
        | zero => intro v11 h12; exact Wt_none
        | succ n ih =>
          revert ih
          show (∀ v11 : Int32, ∀ h12 : Hp, Wm X (fun v => some (.int (b2i v.1))) (fun v => v.2) (fun _ => True) 95 [(0, .ref (adr (xG X) 1 0 0)), (1, .int v2), (2, .int v11)] [] h12 (iter (fun _ _ => none) (f_X1_readLaw_95 N v2) n v11 h12)) → _
          intro ih95 v11 h12
          show Wm X (fun v => some (.int (b2i v.1))) (fun v => v.2) (fun _ => True) 95 [(0, .ref (adr (xG X) 1 0 0)), (1, .int v2), (2, .int v11)] [] h12 (f_X1_readLaw_95 N v2 (iter (fun _ _ => none) (f_X1_readLaw_95 N v2) n) v11 h12)
          revert ih95
          generalize iter (fun _ _ => none) (f_X1_readLaw_95 N v2) n = r95
          intro ih95
          unfold f_X1_readLaw_95
          refine r_iload_n F 2 rfl dX1_readLaw_95 rfl ?_
          refine r_sipush F (v := 700) dX1_readLaw_96 (by decide) ?_
          refine Wt_jn (fun (j169 : Option (Bool × Hp)) => Wm X (fun v => some (.int (b2i v.1))) (fun v => v.2) (fun _ => True) 169 [(0, .ref (adr (xG X) 1 0 0)), (1, .int v2)] [] h12 (j169)) ?_ fun j169 hj169 => ?_
          · skip
            refine r_aload_n F 0 rfl dX1_readLaw_169 rfl ?_
            refine r_getI F frX1_204 (by decide) dX1_readLaw_170 ?_
            refine r_ifle F (tgt := 182) dX1_readLaw_173 (by decide) ?_ ?_
            · skip
              refine r_aload_n F 0 rfl dX1_readLaw_182 rfl ?_
              refine r_iconst F (v := 1) dX1_readLaw_183 (by decide) ?_
              refine k_vH (run_V F cvX1_210 (by decide) (c_X1_putWaiting (xG X) _ N h12 1) rfl rfl ⟨⟨rfl, rfl⟩, Nat.le_of_ble_eq_true rfl, Nat.le_of_ble_eq_true rfl⟩ (Nat.le_of_ble_eq_true rfl) dX1_readLaw_184) fun h13 => ?_
              refine r_aload_n F 0 rfl dX1_readLaw_187 rfl ?_
              refine r_getO F frX1_25 (by decide) dX1_readLaw_188 fun o14 hp_o14 => ?_
              refine r_getS F frX1_180 hp_o14 o14 rfl dX1_readLaw_191 ?_
              refine r_iload_n F 1 rfl dX1_readLaw_194 rfl ?_
              refine k_vH (run_V F cvX1_213 hp_o14 (c_X0_end (xG X) _ h13 o14 hp_o14 v2) rfl rfl ⟨⟨rfl, rfl⟩, Nat.le_of_ble_eq_true rfl, Nat.le_of_ble_eq_true rfl⟩ (Nat.le_of_ble_eq_true rfl) dX1_readLaw_195) fun h15 => ?_
              refine r_iconst F (v := 1) dX1_readLaw_198 (by decide) ?_
              exact r_zret F hA true rfl rfl rfl trivial dX1_readLaw_199
            refine r_aload_n F 0 rfl dX1_readLaw_176 rfl ?_
            refine r_iconst F (v := 1) dX1_readLaw_177 (by decide) ?_
            refine k_zH (run_V F cvX1_93 (by decide) (c_X1_fails (xG X) _ h12 1) rfl rfl ⟨⟨rfl, rfl⟩, Nat.le_of_ble_eq_true rfl, Nat.le_of_ble_eq_true rfl⟩ (Nat.le_of_ble_eq_true rfl) dX1_readLaw_178) fun v17 h16 => ?_
            exact r_zret F hA v17 rfl rfl rfl trivial dX1_readLaw_181
          refine r_icmpge F (tgt := 169) dX1_readLaw_99 (by decide) ?_ ?_
          · skip
            exact Wt_pick [0, 1] rfl (hj169)
          refine r_aload_n F 0 rfl dX1_readLaw_102 rfl ?_
          refine r_getZ F frX1_191 (by decide) dX1_readLaw_103 ?_
          refine Wt_jn (fun (j163 : Hp → Option (Bool × Hp)) => ∀ h18 : Hp, Wm X (fun v => some (.int (b2i v.1))) (fun v => v.2) (fun _ => True) 163 [(0, .ref (adr (xG X) 1 0 0)), (1, .int v2), (2, .int v11)] [] h18 (j163 h18)) ?_ fun j163 hj163 => ?_
          · intro h18
            refine r_iinc F (v := 1) 2 rfl (by decide) (fun v19 => [(2, .int v19), (0, .ref (adr (xG X) 1 0 0)), (1, .int v2)]) (fun _ => rfl) dX1_readLaw_163 (hS _ (by decide)) fun v19 => ?_
            refine r_goto F (tgt := 95) dX1_readLaw_166 (by decide) ?_
            exact Wt_pick [1, 2, 0] rfl (ih95 v19 h18)
          refine r_ifeq F (tgt := 118) dX1_readLaw_106 (by decide) ?_ ?_
          · skip
            refine r_aload_n F 0 rfl dX1_readLaw_118 rfl ?_
            refine r_getO1 F frX1_21 (by decide) rfl dX1_readLaw_119 ?_
            refine r_getI F frX1_53 (by decide) dX1_readLaw_122 ?_
            refine k_zP (run_S F csX1_198 (c_X1_joins (xG X) _ h12 (gI h12 4 0 6)) rfl rfl ⟨⟨rfl, rfl⟩, Nat.le_of_ble_eq_true rfl, Nat.le_of_ble_eq_true rfl⟩ (Nat.le_of_ble_eq_true rfl) dX1_readLaw_125) fun v20 _ => ?_
            refine r_ifeq F (tgt := 140) dX1_readLaw_128 (by decide) ?_ ?_
            · skip
              refine r_aload_n F 0 rfl dX1_readLaw_140 rfl ?_
              refine r_getO1 F frX1_21 (by decide) rfl dX1_readLaw_141 ?_
              refine r_getI F frX1_53 (by decide) dX1_readLaw_144 ?_
              refine r_bipush F (v := 41) dX1_readLaw_147 (by decide) ?_
              refine r_icmpne F (tgt := 169) dX1_readLaw_149 (by decide) ?_ ?_
              · skip
                exact Wt_pick [0, 1] rfl (hj169)
              refine r_aload_n F 0 rfl dX1_readLaw_152 rfl ?_
              refine r_getI F frX1_204 (by decide) dX1_readLaw_153 ?_
              refine r_ifle F (tgt := 169) dX1_readLaw_156 (by decide) ?_ ?_
              · skip
                exact Wt_pick [0, 1] rfl (hj169)
              refine r_aload_n F 0 rfl dX1_readLaw_159 rfl ?_
              refine k_vH (run_V F cvX1_207 (by decide) (c_X1_closeParenthesis (xG X) _ N h12) rfl rfl ⟨⟨rfl, rfl⟩, Nat.le_of_ble_eq_true rfl, Nat.le_of_ble_eq_true rfl⟩ (Nat.le_of_ble_eq_true rfl) dX1_readLaw_160) fun h21 => ?_
              exact Wt_pick [0, 1, 2] rfl (hj163 h21)
            refine r_aload_n F 0 rfl dX1_readLaw_131 rfl ?_
            refine k_zH (run_V F cvX1_201 (by decide) (c_X1_readJoin (xG X) _ N h12) rfl rfl ⟨⟨rfl, rfl⟩, Nat.le_of_ble_eq_true rfl, Nat.le_of_ble_eq_true rfl⟩ (Nat.le_of_ble_eq_true rfl) dX1_readLaw_132) fun v23 h22 => ?_
            refine r_ifne F (tgt := 163) dX1_readLaw_135 (by decide) ?_ ?_
            · skip
              exact Wt_pick [0, 1, 2] rfl (hj163 h22)
            refine r_iconst F (v := 0) dX1_readLaw_138 (by decide) ?_
            exact r_zret F hA false rfl rfl rfl trivial dX1_readLaw_139
          refine r_aload_n F 0 rfl dX1_readLaw_109 rfl ?_
          refine k_zH (run_V F cvX1_195 (by decide) (c_X1_readOperand (xG X) _ N h12) rfl rfl ⟨⟨rfl, rfl⟩, Nat.le_of_ble_eq_true rfl, Nat.le_of_ble_eq_true rfl⟩ (Nat.le_of_ble_eq_true rfl) dX1_readLaw_110) fun v25 h24 => ?_
          refine r_ifne F (tgt := 163) dX1_readLaw_113 (by decide) ?_ ?_
          · skip
            exact Wt_pick [0, 1, 2] rfl (hj163 h24)
          refine r_iconst F (v := 0) dX1_readLaw_116 (by decide) ?_
          exact r_zret F hA false rfl rfl rfl trivial dX1_readLaw_117
      exact Wt_pick [2, 1, 0] rfl (hl95 N 0 h10)
    refine r_aload_n F 1 rfl dX1_readLaw_65 rfl ?_
    refine r_iconst F (v := 3) dX1_readLaw_66 (by decide) ?_
    refine k_zH (run_V F cvX1_93 (by decide) (c_X1_fails (xG X) _ h1 3) rfl rfl ⟨⟨rfl, rfl⟩, Nat.le_of_ble_eq_true rfl, Nat.le_of_ble_eq_true rfl⟩ (Nat.le_of_ble_eq_true rfl) dX1_readLaw_67) fun v27 h26 => ?_
    exact r_zret F hA v27 rfl rfl rfl trivial dX1_readLaw_70
  exact Wt_pick [1] rfl (hj45)
theorem c_X1_readLaw (G : Gx) (l : Launch) (N : Nat) (h : Hp) : Ctr G l yX1_readLaw (.code yX1_readLaw cX1_readLaw 3 (some .boolean) :: GT) rmX1_readLaw [.ref (adr G 1 0 0)] h (f_X1_readLaw N h) (fun v => some (.int (b2i v.1))) (fun v => v.2) (fun _ => True) :=
  ctr_of (by decide) (Nat.le_of_ble_eq_true rfl) ⟨rfl, rfl⟩ fun X _ e2 hA hL F => by subst e2; exact w_X1_readLaw X F hA hL N h
def f_X1_readLine (N : Nat) (h : Hp) : Option (Bool × Hp) :=
  onO (gO h 1 0 2) fun _ =>
  if (gI h 4 0 6) = 256 then
    bd2 (f_X1_readStripe N h) fun v2 h1 =>
    some (v2, h1)
  else
  if (gI h 4 0 6) = 257 then
    bd2 (f_X1_readCroft N h) fun v4 h3 =>
    some (v4, h3)
  else
  if (gI h 4 0 6) = 258 then
    bd2 (f_X1_readField N h) fun v6 h5 =>
    some (v6, h5)
  else
  if (gI h 4 0 6) = 259 then
    bd2 (f_X1_readTide N h) fun v8 h7 =>
    some (v8, h7)
  else
  if (gI h 4 0 6) = 260 then
    bd2 (f_X1_readHeap N h) fun v10 h9 =>
    some (v10, h9)
  else
  if (gI h 4 0 6) = 261 then
    bd2 (f_X1_readRule N h) fun v12 h11 =>
    some (v12, h11)
  else
  if (gI h 4 0 6) = 262 then
    bd2 (f_X1_readGale N h) fun v14 h13 =>
    some (v14, h13)
  else
  if (gI h 4 0 6) = 263 then
    bd2 (f_X1_readSeed N h) fun v16 h15 =>
    some (v16, h15)
  else
  if (gI h 4 0 6) = 264 then
    bd2 (f_X1_readLaw N h) fun v18 h17 =>
    some (v18, h17)
  else
  bd2 (f_X1_fails h 1) fun v20 h19 =>
  some (v20, h19)
abbrev rmX1_readLine : Room := { frames := 5, cells := 0, slots := 0, locals := 106 }
set_option maxRecDepth 100000 in
set_option maxHeartbeats 4000000 in
theorem w_X1_readLine (X : Cx) (F : Fx X cX1_readLine RX1 (some .boolean) rmX1_readLine) (hA : xA X = Aw (xG X)) (hL : xL X = 1) (N : Nat) (h : Hp) : Wm X (fun v => some (.int (b2i v.1))) (fun v => v.2) (fun _ => True) 0 [(0, .ref (adr (xG X) 1 0 0))] [] h (f_X1_readLine N h) := by
  have hS : ∀ i : Nat, i < 1 → i < xL X := fun i z => by rw [hL]; exact z
  unfold f_X1_readLine
  refine r_aload_n F 0 rfl dX1_readLine_0 rfl ?_
  refine r_getO1 F frX1_21 (by decide) rfl dX1_readLine_1 ?_
  refine r_getI F frX1_53 (by decide) dX1_readLine_4 ?_
  refine r_tsc F (tgt := 56) 256 0 dX1_readLine_7 rfl (by decide) (by decide) (by decide) ?_ fun n0 => ?_
  · skip
    refine r_aload_n F 0 rfl dX1_readLine_56 rfl ?_
    refine k_zH (run_V F cvX1_66 (by decide) (c_X1_readStripe (xG X) _ N h) rfl rfl ⟨⟨rfl, rfl⟩, Nat.le_of_ble_eq_true rfl, Nat.le_of_ble_eq_true rfl⟩ (Nat.le_of_ble_eq_true rfl) dX1_readLine_57) fun v2 h1 => ?_
    exact r_zret F hA v2 rfl rfl rfl trivial dX1_readLine_60
  refine r_tsc F (tgt := 61) 257 1 dX1_readLine_7 rfl (by decide) (by decide) (by decide) ?_ fun n1 => ?_
  · skip
    refine r_aload_n F 0 rfl dX1_readLine_61 rfl ?_
    refine k_zH (run_V F cvX1_69 (by decide) (c_X1_readCroft (xG X) _ N h) rfl rfl ⟨⟨rfl, rfl⟩, Nat.le_of_ble_eq_true rfl, Nat.le_of_ble_eq_true rfl⟩ (Nat.le_of_ble_eq_true rfl) dX1_readLine_62) fun v4 h3 => ?_
    exact r_zret F hA v4 rfl rfl rfl trivial dX1_readLine_65
  refine r_tsc F (tgt := 66) 258 2 dX1_readLine_7 rfl (by decide) (by decide) (by decide) ?_ fun n2 => ?_
  · skip
    refine r_aload_n F 0 rfl dX1_readLine_66 rfl ?_
    refine k_zH (run_V F cvX1_72 (by decide) (c_X1_readField (xG X) _ N h) rfl rfl ⟨⟨rfl, rfl⟩, Nat.le_of_ble_eq_true rfl, Nat.le_of_ble_eq_true rfl⟩ (Nat.le_of_ble_eq_true rfl) dX1_readLine_67) fun v6 h5 => ?_
    exact r_zret F hA v6 rfl rfl rfl trivial dX1_readLine_70
  refine r_tsc F (tgt := 71) 259 3 dX1_readLine_7 rfl (by decide) (by decide) (by decide) ?_ fun n3 => ?_
  · skip
    refine r_aload_n F 0 rfl dX1_readLine_71 rfl ?_
    refine k_zH (run_V F cvX1_75 (by decide) (c_X1_readTide (xG X) _ N h) rfl rfl ⟨⟨rfl, rfl⟩, Nat.le_of_ble_eq_true rfl, Nat.le_of_ble_eq_true rfl⟩ (Nat.le_of_ble_eq_true rfl) dX1_readLine_72) fun v8 h7 => ?_
    exact r_zret F hA v8 rfl rfl rfl trivial dX1_readLine_75
  refine r_tsc F (tgt := 76) 260 4 dX1_readLine_7 rfl (by decide) (by decide) (by decide) ?_ fun n4 => ?_
  · skip
    refine r_aload_n F 0 rfl dX1_readLine_76 rfl ?_
    refine k_zH (run_V F cvX1_78 (by decide) (c_X1_readHeap (xG X) _ N h) rfl rfl ⟨⟨rfl, rfl⟩, Nat.le_of_ble_eq_true rfl, Nat.le_of_ble_eq_true rfl⟩ (Nat.le_of_ble_eq_true rfl) dX1_readLine_77) fun v10 h9 => ?_
    exact r_zret F hA v10 rfl rfl rfl trivial dX1_readLine_80
  refine r_tsc F (tgt := 81) 261 5 dX1_readLine_7 rfl (by decide) (by decide) (by decide) ?_ fun n5 => ?_
  · skip
    refine r_aload_n F 0 rfl dX1_readLine_81 rfl ?_
    refine k_zH (run_V F cvX1_81 (by decide) (c_X1_readRule (xG X) _ N h) rfl rfl ⟨⟨rfl, rfl⟩, Nat.le_of_ble_eq_true rfl, Nat.le_of_ble_eq_true rfl⟩ (Nat.le_of_ble_eq_true rfl) dX1_readLine_82) fun v12 h11 => ?_
    exact r_zret F hA v12 rfl rfl rfl trivial dX1_readLine_85
  refine r_tsc F (tgt := 86) 262 6 dX1_readLine_7 rfl (by decide) (by decide) (by decide) ?_ fun n6 => ?_
  · skip
    refine r_aload_n F 0 rfl dX1_readLine_86 rfl ?_
    refine k_zH (run_V F cvX1_84 (by decide) (c_X1_readGale (xG X) _ N h) rfl rfl ⟨⟨rfl, rfl⟩, Nat.le_of_ble_eq_true rfl, Nat.le_of_ble_eq_true rfl⟩ (Nat.le_of_ble_eq_true rfl) dX1_readLine_87) fun v14 h13 => ?_
    exact r_zret F hA v14 rfl rfl rfl trivial dX1_readLine_90
  refine r_tsc F (tgt := 91) 263 7 dX1_readLine_7 rfl (by decide) (by decide) (by decide) ?_ fun n7 => ?_
  · skip
    refine r_aload_n F 0 rfl dX1_readLine_91 rfl ?_
    refine k_zH (run_V F cvX1_87 (by decide) (c_X1_readSeed (xG X) _ N h) rfl rfl ⟨⟨rfl, rfl⟩, Nat.le_of_ble_eq_true rfl, Nat.le_of_ble_eq_true rfl⟩ (Nat.le_of_ble_eq_true rfl) dX1_readLine_92) fun v16 h15 => ?_
    exact r_zret F hA v16 rfl rfl rfl trivial dX1_readLine_95
  refine r_tsc F (tgt := 96) 264 8 dX1_readLine_7 rfl (by decide) (by decide) (by decide) ?_ fun n8 => ?_
  · skip
    refine r_aload_n F 0 rfl dX1_readLine_96 rfl ?_
    refine k_zH (run_V F cvX1_90 (by decide) (c_X1_readLaw (xG X) _ N h) rfl rfl ⟨⟨rfl, rfl⟩, Nat.le_of_ble_eq_true rfl, Nat.le_of_ble_eq_true rfl⟩ (Nat.le_of_ble_eq_true rfl) dX1_readLine_97) fun v18 h17 => ?_
    exact r_zret F hA v18 rfl rfl rfl trivial dX1_readLine_100
  refine r_tsd F (tgt := 101) dX1_readLine_7 (by have e0 := lv_neT n0 (a := 256) (by decide); have e1 := lv_neT n1 (a := 257) (by decide); have e2 := lv_neT n2 (a := 258) (by decide); have e3 := lv_neT n3 (a := 259) (by decide); have e4 := lv_neT n4 (a := 260) (by decide); have e5 := lv_neT n5 (a := 261) (by decide); have e6 := lv_neT n6 (a := 262) (by decide); have e7 := lv_neT n7 (a := 263) (by decide); have e8 := lv_neT n8 (a := 264) (by decide); omega) (by decide) ?_
  refine r_aload_n F 0 rfl dX1_readLine_101 rfl ?_
  refine r_iconst F (v := 1) dX1_readLine_102 (by decide) ?_
  refine k_zH (run_V F cvX1_93 (by decide) (c_X1_fails (xG X) _ h 1) rfl rfl ⟨⟨rfl, rfl⟩, Nat.le_of_ble_eq_true rfl, Nat.le_of_ble_eq_true rfl⟩ (Nat.le_of_ble_eq_true rfl) dX1_readLine_103) fun v20 h19 => ?_
  exact r_zret F hA v20 rfl rfl rfl trivial dX1_readLine_106
theorem c_X1_readLine (G : Gx) (l : Launch) (N : Nat) (h : Hp) : Ctr G l yX1_readLine (.code yX1_readLine cX1_readLine 1 (some .boolean) :: GT) rmX1_readLine [.ref (adr G 1 0 0)] h (f_X1_readLine N h) (fun v => some (.int (b2i v.1))) (fun v => v.2) (fun _ => True) :=
  ctr_of (by decide) (Nat.le_of_ble_eq_true rfl) ⟨rfl, rfl⟩ fun X _ e2 hA hL F => by subst e2; exact w_X1_readLine X F hA hL N h
def f_X1_takeSemicolon (N : Nat) (h : Hp) : Option (Bool × Hp) :=
  onO (gO h 1 0 2) fun _ =>
  if (gI h 4 0 6) = 59 then
    onO (gO h 1 0 2) fun _ =>
    (f_X4_advance N h).bind fun h1 =>
    some (true, h1)
  else
  bd2 (f_X1_fails h 1) fun v3 h2 =>
  some (v3, h2)
abbrev rmX1_takeSemicolon : Room := { frames := 3, cells := 0, slots := 0, locals := 62 }
set_option maxRecDepth 100000 in
set_option maxHeartbeats 4000000 in
theorem w_X1_takeSemicolon (X : Cx) (F : Fx X cX1_takeSemicolon RX1 (some .boolean) rmX1_takeSemicolon) (hA : xA X = Aw (xG X)) (hL : xL X = 1) (N : Nat) (h : Hp) : Wm X (fun v => some (.int (b2i v.1))) (fun v => v.2) (fun _ => True) 0 [(0, .ref (adr (xG X) 1 0 0))] [] h (f_X1_takeSemicolon N h) := by
  have hS : ∀ i : Nat, i < 1 → i < xL X := fun i z => by rw [hL]; exact z
  unfold f_X1_takeSemicolon
  refine r_aload_n F 0 rfl dX1_takeSemicolon_0 rfl ?_
  refine r_getO1 F frX1_21 (by decide) rfl dX1_takeSemicolon_1 ?_
  refine r_getI F frX1_53 (by decide) dX1_takeSemicolon_4 ?_
  refine r_bipush F (v := 59) dX1_takeSemicolon_7 (by decide) ?_
  refine r_icmpeq F (tgt := 18) dX1_takeSemicolon_9 (by decide) ?_ ?_
  · skip
    refine r_aload_n F 0 rfl dX1_takeSemicolon_18 rfl ?_
    refine r_getO1 F frX1_21 (by decide) rfl dX1_takeSemicolon_19 ?_
    refine k_vH (run_V F cvX1_100 (by decide) (c_X4_advance (xG X) _ N h) rfl rfl ⟨⟨rfl, rfl⟩, Nat.le_of_ble_eq_true rfl, Nat.le_of_ble_eq_true rfl⟩ (Nat.le_of_ble_eq_true rfl) dX1_takeSemicolon_22) fun h1 => ?_
    refine r_iconst F (v := 1) dX1_takeSemicolon_25 (by decide) ?_
    exact r_zret F hA true rfl rfl rfl trivial dX1_takeSemicolon_26
  refine r_aload_n F 0 rfl dX1_takeSemicolon_12 rfl ?_
  refine r_iconst F (v := 1) dX1_takeSemicolon_13 (by decide) ?_
  refine k_zH (run_V F cvX1_93 (by decide) (c_X1_fails (xG X) _ h 1) rfl rfl ⟨⟨rfl, rfl⟩, Nat.le_of_ble_eq_true rfl, Nat.le_of_ble_eq_true rfl⟩ (Nat.le_of_ble_eq_true rfl) dX1_takeSemicolon_14) fun v3 h2 => ?_
  exact r_zret F hA v3 rfl rfl rfl trivial dX1_takeSemicolon_17
theorem c_X1_takeSemicolon (G : Gx) (l : Launch) (N : Nat) (h : Hp) : Ctr G l yX1_takeSemicolon (.code yX1_takeSemicolon cX1_takeSemicolon 1 (some .boolean) :: GT) rmX1_takeSemicolon [.ref (adr G 1 0 0)] h (f_X1_takeSemicolon N h) (fun v => some (.int (b2i v.1))) (fun v => v.2) (fun _ => True) :=
  ctr_of (by decide) (Nat.le_of_ble_eq_true rfl) ⟨rfl, rfl⟩ fun X _ e2 hA hL F => by subst e2; exact w_X1_takeSemicolon X F hA hL N h
def f_X1_reads_48 (N : Nat) (r48 : Int32 → Hp → Option (Bool × Hp)) (v10 : Int32) (h11 : Hp) : Option (Bool × Hp) :=
  jn (
    some (true, h11)) fun (j101 : Option (Bool × Hp)) =>
  if 700 ≤ v10 then
    j101
  else
  onO (gO h11 1 0 2) fun _ =>
  if (gI h11 4 0 6) = 0 then
    j101
  else
  bd2 (f_X1_readLine N h11) fun v13 h12 =>
  jn (fun (h14 : Hp) =>
    some (false, h14)) fun (j80 : Hp → Option (Bool × Hp)) =>
  if (b2i v13) = 0 then
    j80 h12
  else
  bd2 (f_X1_takeSemicolon N h12) fun v16 h15 =>
  if ¬ (b2i v16) = 0 then
    onO (gO h15 1 0 3) fun o17 =>
    lt_ (sI h15 5 o17 10 ((gI h15 5 o17 10) + 1)) fun h18 =>
    lt_ (v10 + 1) fun v19 =>
    r48 v19 h18
  else
  j80 h15
def f_X1_reads (N : Nat) (h : Hp) (p2 : Int32) (p3 : Nat) : Option (Bool × Hp) :=
  lt_ (sO h 1 0 2 0) fun h1 =>
  lt_ (sO h1 1 0 3 p3) fun h2 =>
  onO (gO h2 1 0 3) fun o3 =>
  (f_X5_clear N h2 o3).bind fun h4 =>
  lt_ (sI h4 1 0 4 0) fun h5 =>
  lt_ (sI h5 1 0 5 (-1)) fun h6 =>
  lt_ (sI h6 1 0 7 0) fun h7 =>
  lt_ (sI h7 1 0 10 0) fun h8 =>
  onO (gO h8 1 0 2) fun _ =>
  (f_X4_begin N h8 p2).bind fun h9 =>
  iter (fun _ _ => none) (f_X1_reads_48 N) N 0 h9
abbrev rmX1_reads : Room := { frames := 6, cells := 0, slots := 0, locals := 126 }
set_option maxRecDepth 100000 in
set_option maxHeartbeats 4000000 in
theorem w_X1_reads (X : Cx) (F : Fx X cX1_reads RX1 (some .boolean) rmX1_reads) (hA : xA X = Aw (xG X)) (hL : xL X = 5) (N : Nat) (h : Hp) (p2 : Int32) (p3 : Nat) (h_p3 : p3 < cnt 5) : Wm X (fun v => some (.int (b2i v.1))) (fun v => v.2) (fun _ => True) 0 [(0, .ref (adr (xG X) 1 0 0)), (1, .ref (adr (xG X) 4 0 0)), (2, .int p2), (3, .ref (adr (xG X) 5 p3 0))] [] h (f_X1_reads N h p2 p3) := by
  have hS : ∀ i : Nat, i < 5 → i < xL X := fun i z => by rw [hL]; exact z
  unfold f_X1_reads
  refine r_aload_n F 0 rfl dX1_reads_0 rfl ?_
  refine r_aload_n F 1 rfl dX1_reads_1 rfl ?_
  refine r_putO F frX1_21 (by decide) (by decide) rfl rfl dX1_reads_2 fun h1 => ?_
  refine r_aload_n F 0 rfl dX1_reads_5 rfl ?_
  refine r_aload_n F 3 rfl dX1_reads_6 rfl ?_
  refine r_putO F frX1_25 (by decide) h_p3 rfl rfl dX1_reads_7 fun h2 => ?_
  refine r_aload_n F 0 rfl dX1_reads_10 rfl ?_
  refine r_getO F frX1_25 (by decide) dX1_reads_11 fun o3 hp_o3 => ?_
  refine k_vH (run_V F cvX1_29 hp_o3 (c_X5_clear (xG X) _ N h2 o3 hp_o3) rfl rfl ⟨⟨rfl, rfl⟩, Nat.le_of_ble_eq_true rfl, Nat.le_of_ble_eq_true rfl⟩ (Nat.le_of_ble_eq_true rfl) dX1_reads_14) fun h4 => ?_
  refine r_aload_n F 0 rfl dX1_reads_17 rfl ?_
  refine r_iconst F (v := 0) dX1_reads_18 (by decide) ?_
  refine r_putI F frX1_34 (by decide) rfl rfl dX1_reads_19 fun h5 => ?_
  refine r_aload_n F 0 rfl dX1_reads_22 rfl ?_
  refine r_iconst F (v := (-1)) dX1_reads_23 (by decide) ?_
  refine r_putI F frX1_38 (by decide) rfl rfl dX1_reads_24 fun h6 => ?_
  refine r_aload_n F 0 rfl dX1_reads_27 rfl ?_
  refine r_iconst F (v := 0) dX1_reads_28 (by decide) ?_
  refine r_putI F frX1_41 (by decide) rfl rfl dX1_reads_29 fun h7 => ?_
  refine r_aload_n F 0 rfl dX1_reads_32 rfl ?_
  refine r_iconst F (v := 0) dX1_reads_33 (by decide) ?_
  refine r_putI F frX1_44 (by decide) rfl rfl dX1_reads_34 fun h8 => ?_
  refine r_aload_n F 0 rfl dX1_reads_37 rfl ?_
  refine r_getO1 F frX1_21 (by decide) rfl dX1_reads_38 ?_
  refine r_iload_n F 2 rfl dX1_reads_41 rfl ?_
  refine k_vH (run_V F cvX1_47 (by decide) (c_X4_begin (xG X) _ N h8 p2) rfl rfl ⟨⟨rfl, rfl⟩, Nat.le_of_ble_eq_true rfl, Nat.le_of_ble_eq_true rfl⟩ (Nat.le_of_ble_eq_true rfl) dX1_reads_42) fun h9 => ?_
  refine r_iconst F (v := 0) dX1_reads_45 (by decide) ?_
  refine r_istore F [(4, .int 0), (0, .ref (adr (xG X) 1 0 0)), (1, .ref (adr (xG X) 4 0 0)), (2, .int p2), (3, .ref (adr (xG X) 5 p3 0))] rfl dX1_reads_46 (hS _ (by decide)) ?_
  have hl48 : ∀ n : Nat, ∀ v10 : Int32, ∀ h11 : Hp, Wm X (fun v => some (.int (b2i v.1))) (fun v => v.2) (fun _ => True) 48 [(0, .ref (adr (xG X) 1 0 0)), (4, .int v10)] [] h11 (iter (fun _ _ => none) (f_X1_reads_48 N) n v10 h11) := by
    intro n
    induction n with
    | zero => intro v10 h11; exact Wt_none
    | succ n ih =>
      revert ih
      show (∀ v10 : Int32, ∀ h11 : Hp, Wm X (fun v => some (.int (b2i v.1))) (fun v => v.2) (fun _ => True) 48 [(0, .ref (adr (xG X) 1 0 0)), (4, .int v10)] [] h11 (iter (fun _ _ => none) (f_X1_reads_48 N) n v10 h11)) → _
      intro ih48 v10 h11
      show Wm X (fun v => some (.int (b2i v.1))) (fun v => v.2) (fun _ => True) 48 [(0, .ref (adr (xG X) 1 0 0)), (4, .int v10)] [] h11 (f_X1_reads_48 N (iter (fun _ _ => none) (f_X1_reads_48 N) n) v10 h11)
      revert ih48
      generalize iter (fun _ _ => none) (f_X1_reads_48 N) n = r48
      intro ih48
      unfold f_X1_reads_48
      refine r_iload F 1 rfl dX1_reads_48 ?_
      refine r_sipush F (v := 700) dX1_reads_50 (by decide) ?_
      refine Wt_jn (fun (j101 : Option (Bool × Hp)) => Wm X (fun v => some (.int (b2i v.1))) (fun v => v.2) (fun _ => True) 101 [] [] h11 (j101)) ?_ fun j101 hj101 => ?_
      · skip
        refine r_iconst F (v := 1) dX1_reads_101 (by decide) ?_
        exact r_zret F hA true rfl rfl rfl trivial dX1_reads_102
      refine r_icmpge F (tgt := 101) dX1_reads_53 (by decide) ?_ ?_
      · skip
        exact Wt_pick [] rfl (hj101)
      refine r_aload_n F 0 rfl dX1_reads_56 rfl ?_
      refine r_getO1 F frX1_21 (by decide) rfl dX1_reads_57 ?_
      refine r_getI F frX1_53 (by decide) dX1_reads_60 ?_
      refine r_ifeq F (tgt := 101) dX1_reads_63 (by decide) ?_ ?_
      · skip
        exact Wt_pick [] rfl (hj101)
      refine r_aload_n F 0 rfl dX1_reads_66 rfl ?_
      refine k_zH (run_V F cvX1_56 (by decide) (c_X1_readLine (xG X) _ N h11) rfl rfl ⟨⟨rfl, rfl⟩, Nat.le_of_ble_eq_true rfl, Nat.le_of_ble_eq_true rfl⟩ (Nat.le_of_ble_eq_true rfl) dX1_reads_67) fun v13 h12 => ?_
      refine Wt_jn (fun (j80 : Hp → Option (Bool × Hp)) => ∀ h14 : Hp, Wm X (fun v => some (.int (b2i v.1))) (fun v => v.2) (fun _ => True) 80 [] [] h14 (j80 h14)) ?_ fun j80 hj80 => ?_
      · intro h14
        refine r_iconst F (v := 0) dX1_reads_80 (by decide) ?_
        exact r_zret F hA false rfl rfl rfl trivial dX1_reads_81
      refine r_ifeq F (tgt := 80) dX1_reads_70 (by decide) ?_ ?_
      · skip
        exact Wt_pick [] rfl (hj80 h12)
      refine r_aload_n F 0 rfl dX1_reads_73 rfl ?_
      refine k_zH (run_V F cvX1_60 (by decide) (c_X1_takeSemicolon (xG X) _ N h12) rfl rfl ⟨⟨rfl, rfl⟩, Nat.le_of_ble_eq_true rfl, Nat.le_of_ble_eq_true rfl⟩ (Nat.le_of_ble_eq_true rfl) dX1_reads_74) fun v16 h15 => ?_
      refine r_ifne F (tgt := 82) dX1_reads_77 (by decide) ?_ ?_
      · skip
        refine r_aload_n F 0 rfl dX1_reads_82 rfl ?_
        refine r_getO F frX1_25 (by decide) dX1_reads_83 fun o17 hp_o17 => ?_
        refine r_dup F rfl dX1_reads_86 ?_
        refine r_getI F frX1_63 hp_o17 dX1_reads_87 ?_
        refine r_iconst F (v := 1) dX1_reads_90 (by decide) ?_
        refine r_iadd F dX1_reads_91 ?_
        refine r_putI F frX1_63 hp_o17 rfl rfl dX1_reads_92 fun h18 => ?_
        refine r_iinc F (v := 1) 1 rfl (by decide) (fun v19 => [(4, .int v19), (0, .ref (adr (xG X) 1 0 0))]) (fun _ => rfl) dX1_reads_95 (hS _ (by decide)) fun v19 => ?_
        refine r_goto F (tgt := 48) dX1_reads_98 (by decide) ?_
        exact Wt_pick [1, 0] rfl (ih48 v19 h18)
      exact Wt_pick [] rfl (hj80 h15)
  exact Wt_pick [1, 0] rfl (hl48 N 0 h9)
theorem c_X1_reads (G : Gx) (l : Launch) (N : Nat) (h : Hp) (p2 : Int32) (p3 : Nat) (h_p3 : p3 < cnt 5) : Ctr G l yX1_reads (.code yX1_reads cX1_reads 5 (some .boolean) :: GT) rmX1_reads [.ref (adr G 1 0 0), .ref (adr G 4 0 0), .int p2, .ref (adr G 5 p3 0)] h (f_X1_reads N h p2 p3) (fun v => some (.int (b2i v.1))) (fun v => v.2) (fun _ => True) :=
  ctr_of (by decide) (Nat.le_of_ble_eq_true rfl) ⟨rfl, rfl⟩ fun X _ e2 hA hL F => by subst e2; exact w_X1_reads X F hA hL N h p2 p3 h_p3
def f_X2_clear (h : Hp) : Option Hp :=
  lt_ (sI h 2 0 4 0) fun h1 =>
  lt_ (sI h1 2 0 5 (-1)) fun h2 =>
  some h2
abbrev rmX2_clear : Room := { frames := 0, cells := 0, slots := 0, locals := 0 }
set_option maxRecDepth 100000 in
set_option maxHeartbeats 4000000 in
theorem w_X2_clear (X : Cx) (F : Fx X cX2_clear RX2 none rmX2_clear) (hA : xA X = Aw (xG X)) (hL : xL X = 1) (h : Hp) : Wm X (fun _ => none) (fun v => v) (fun _ => True) 0 [(0, .ref (adr (xG X) 2 0 0))] [] h (f_X2_clear h) := by
  have hS : ∀ i : Nat, i < 1 → i < xL X := fun i z => by rw [hL]; exact z
  unfold f_X2_clear
  refine r_aload_n F 0 rfl dX2_clear_0 rfl ?_
  refine r_iconst F (v := 0) dX2_clear_1 (by decide) ?_
  refine r_putI F frX2_29 (by decide) rfl rfl dX2_clear_2 fun h1 => ?_
  refine r_aload_n F 0 rfl dX2_clear_5 rfl ?_
  refine r_iconst F (v := (-1)) dX2_clear_6 (by decide) ?_
  refine r_putI F frX2_25 (by decide) rfl rfl dX2_clear_7 fun h2 => ?_
  exact r_vret F hA rfl rfl trivial dX2_clear_10
theorem c_X2_clear (G : Gx) (l : Launch) (h : Hp) : Ctr G l yX2_clear (.code yX2_clear cX2_clear 1 none :: GT) rmX2_clear [.ref (adr G 2 0 0)] h (f_X2_clear h) (fun _ => none) (fun v => v) (fun _ => True) :=
  ctr_of (by decide) (Nat.le_of_ble_eq_true rfl) ⟨rfl, rfl⟩ fun X _ e2 hA hL F => by subst e2; exact w_X2_clear X F hA hL h
