theorem dX8_rank_0 : decode cX8_rank 0 = .ok (.iload_n 0, 1) := by decide +kernel
theorem dX8_rank_1 : decode cX8_rank 1 = .ok (.bipush 13, 2) := by decide +kernel
theorem dX8_rank_3 : decode cX8_rank 3 = .ok (.if_icmp .lt 8, 3) := by decide +kernel
theorem dX8_rank_6 : decode cX8_rank 6 = .ok (.bipush 6, 2) := by decide +kernel
theorem dX8_rank_8 : decode cX8_rank 8 = .ok (.goto 50, 3) := by decide +kernel
theorem dX8_rank_11 : decode cX8_rank 11 = .ok (.iload_n 0, 1) := by decide +kernel
theorem dX8_rank_12 : decode cX8_rank 12 = .ok (.bipush 11, 2) := by decide +kernel
theorem dX8_rank_14 : decode cX8_rank 14 = .ok (.if_icmp .lt 7, 3) := by decide +kernel
theorem dX8_rank_17 : decode cX8_rank 17 = .ok (.iconst 5, 1) := by decide +kernel
theorem dX8_rank_18 : decode cX8_rank 18 = .ok (.goto 40, 3) := by decide +kernel
theorem dX8_rank_21 : decode cX8_rank 21 = .ok (.iload_n 0, 1) := by decide +kernel
theorem dX8_rank_22 : decode cX8_rank 22 = .ok (.iconst 5, 1) := by decide +kernel
theorem dX8_rank_23 : decode cX8_rank 23 = .ok (.if_icmp .lt 7, 3) := by decide +kernel
theorem dX8_rank_26 : decode cX8_rank 26 = .ok (.iconst 4, 1) := by decide +kernel
theorem dX8_rank_27 : decode cX8_rank 27 = .ok (.goto 31, 3) := by decide +kernel
theorem dX8_rank_30 : decode cX8_rank 30 = .ok (.iload_n 0, 1) := by decide +kernel
theorem dX8_rank_31 : decode cX8_rank 31 = .ok (.iconst 2, 1) := by decide +kernel
theorem dX8_rank_32 : decode cX8_rank 32 = .ok (.if_icmp .ne 7, 3) := by decide +kernel
theorem dX8_rank_35 : decode cX8_rank 35 = .ok (.iconst 3, 1) := by decide +kernel
theorem dX8_rank_36 : decode cX8_rank 36 = .ok (.goto 22, 3) := by decide +kernel
theorem dX8_rank_39 : decode cX8_rank 39 = .ok (.iload_n 0, 1) := by decide +kernel
theorem dX8_rank_40 : decode cX8_rank 40 = .ok (.iconst 3, 1) := by decide +kernel
theorem dX8_rank_41 : decode cX8_rank 41 = .ok (.if_icmp .ne 7, 3) := by decide +kernel
theorem dX8_rank_44 : decode cX8_rank 44 = .ok (.iconst 2, 1) := by decide +kernel
theorem dX8_rank_45 : decode cX8_rank 45 = .ok (.goto 13, 3) := by decide +kernel
theorem dX8_rank_48 : decode cX8_rank 48 = .ok (.iload_n 0, 1) := by decide +kernel
theorem dX8_rank_49 : decode cX8_rank 49 = .ok (.iconst 4, 1) := by decide +kernel
theorem dX8_rank_50 : decode cX8_rank 50 = .ok (.if_icmp .ne 7, 3) := by decide +kernel
theorem dX8_rank_53 : decode cX8_rank 53 = .ok (.iconst 1, 1) := by decide +kernel
theorem dX8_rank_54 : decode cX8_rank 54 = .ok (.goto 4, 3) := by decide +kernel
theorem dX8_rank_57 : decode cX8_rank 57 = .ok (.iconst 0, 1) := by decide +kernel
theorem dX8_rank_58 : decode cX8_rank 58 = .ok (.ireturn, 1) := by decide +kernel
theorem dX8_dropHeld_0 : decode cX8_dropHeld 0 = .ok (.aload_n 0, 1) := by decide +kernel
theorem dX8_dropHeld_1 : decode cX8_dropHeld 1 = .ok (.dup, 1) := by decide +kernel
theorem dX8_dropHeld_2 : decode cX8_dropHeld 2 = .ok (.getfield 291, 3) := by decide +kernel
theorem dX8_dropHeld_5 : decode cX8_dropHeld 5 = .ok (.iconst 1, 1) := by decide +kernel
theorem dX8_dropHeld_6 : decode cX8_dropHeld 6 = .ok (.isub, 1) := by decide +kernel
theorem dX8_dropHeld_7 : decode cX8_dropHeld 7 = .ok (.putfield 291, 3) := by decide +kernel
theorem dX8_dropHeld_10 : decode cX8_dropHeld 10 = .ok (.aload_n 0, 1) := by decide +kernel
theorem dX8_dropHeld_11 : decode cX8_dropHeld 11 = .ok (.getfield 75, 3) := by decide +kernel
theorem dX8_dropHeld_14 : decode cX8_dropHeld 14 = .ok (.aload_n 0, 1) := by decide +kernel
theorem dX8_dropHeld_15 : decode cX8_dropHeld 15 = .ok (.getfield 291, 3) := by decide +kernel
theorem dX8_dropHeld_18 : decode cX8_dropHeld 18 = .ok (.iaload, 1) := by decide +kernel
theorem dX8_dropHeld_19 : decode cX8_dropHeld 19 = .ok (.ireturn, 1) := by decide +kernel
theorem dX8_bind_0 : decode cX8_bind 0 = .ok (.aload_n 0, 1) := by decide +kernel
theorem dX8_bind_1 : decode cX8_bind 1 = .ok (.getfield 294, 3) := by decide +kernel
theorem dX8_bind_4 : decode cX8_bind 4 = .ok (.ifCond .le 72, 3) := by decide +kernel
theorem dX8_bind_7 : decode cX8_bind 7 = .ok (.aload_n 0, 1) := by decide +kernel
theorem dX8_bind_8 : decode cX8_bind 8 = .ok (.getfield 72, 3) := by decide +kernel
theorem dX8_bind_11 : decode cX8_bind 11 = .ok (.aload_n 0, 1) := by decide +kernel
theorem dX8_bind_12 : decode cX8_bind 12 = .ok (.getfield 294, 3) := by decide +kernel
theorem dX8_bind_15 : decode cX8_bind 15 = .ok (.iconst 1, 1) := by decide +kernel
theorem dX8_bind_16 : decode cX8_bind 16 = .ok (.isub, 1) := by decide +kernel
theorem dX8_bind_17 : decode cX8_bind 17 = .ok (.iaload, 1) := by decide +kernel
theorem dX8_bind_18 : decode cX8_bind 18 = .ok (.invokestatic 297, 3) := by decide +kernel
theorem dX8_bind_21 : decode cX8_bind 21 = .ok (.iload_n 1, 1) := by decide +kernel
theorem dX8_bind_22 : decode cX8_bind 22 = .ok (.if_icmp .lt 54, 3) := by decide +kernel
theorem dX8_bind_25 : decode cX8_bind 25 = .ok (.aload_n 0, 1) := by decide +kernel
theorem dX8_bind_26 : decode cX8_bind 26 = .ok (.dup, 1) := by decide +kernel
theorem dX8_bind_27 : decode cX8_bind 27 = .ok (.getfield 294, 3) := by decide +kernel
theorem dX8_bind_30 : decode cX8_bind 30 = .ok (.iconst 1, 1) := by decide +kernel
theorem dX8_bind_31 : decode cX8_bind 31 = .ok (.isub, 1) := by decide +kernel
theorem dX8_bind_32 : decode cX8_bind 32 = .ok (.putfield 294, 3) := by decide +kernel
theorem dX8_bind_35 : decode cX8_bind 35 = .ok (.aload_n 0, 1) := by decide +kernel
theorem dX8_bind_36 : decode cX8_bind 36 = .ok (.getfield 72, 3) := by decide +kernel
theorem dX8_bind_39 : decode cX8_bind 39 = .ok (.aload_n 0, 1) := by decide +kernel
theorem dX8_bind_40 : decode cX8_bind 40 = .ok (.getfield 294, 3) := by decide +kernel
theorem dX8_bind_43 : decode cX8_bind 43 = .ok (.iaload, 1) := by decide +kernel
theorem dX8_bind_44 : decode cX8_bind 44 = .ok (.istore_n 2, 1) := by decide +kernel
theorem dX8_bind_45 : decode cX8_bind 45 = .ok (.iload_n 2, 1) := by decide +kernel
theorem dX8_bind_46 : decode cX8_bind 46 = .ok (.iconst 2, 1) := by decide +kernel
theorem dX8_bind_47 : decode cX8_bind 47 = .ok (.if_icmp .ne 7, 3) := by decide +kernel
theorem dX8_bind_50 : decode cX8_bind 50 = .ok (.iconst (-1), 1) := by decide +kernel
theorem dX8_bind_51 : decode cX8_bind 51 = .ok (.goto 7, 3) := by decide +kernel
theorem dX8_bind_54 : decode cX8_bind 54 = .ok (.aload_n 0, 1) := by decide +kernel
theorem dX8_bind_55 : decode cX8_bind 55 = .ok (.invokevirtual 301, 3) := by decide +kernel
theorem dX8_bind_58 : decode cX8_bind 58 = .ok (.istore_n 3, 1) := by decide +kernel
theorem dX8_bind_59 : decode cX8_bind 59 = .ok (.aload_n 0, 1) := by decide +kernel
theorem dX8_bind_60 : decode cX8_bind 60 = .ok (.invokevirtual 301, 3) := by decide +kernel
theorem dX8_bind_63 : decode cX8_bind 63 = .ok (.istore 4, 2) := by decide +kernel
theorem dX8_bind_65 : decode cX8_bind 65 = .ok (.aload_n 0, 1) := by decide +kernel
theorem dX8_bind_66 : decode cX8_bind 66 = .ok (.iload_n 2, 1) := by decide +kernel
theorem dX8_bind_67 : decode cX8_bind 67 = .ok (.iload 4, 2) := by decide +kernel
theorem dX8_bind_69 : decode cX8_bind 69 = .ok (.iload_n 3, 1) := by decide +kernel
theorem dX8_bind_70 : decode cX8_bind 70 = .ok (.invokevirtual 305, 3) := by decide +kernel
theorem dX8_bind_73 : decode cX8_bind 73 = .ok (.goto (-73), 3) := by decide +kernel
theorem dX8_bind_76 : decode cX8_bind 76 = .ok (.return_, 1) := by decide +kernel
theorem dX8_signs_0 : decode cX8_signs 0 = .ok (.aload_n 0, 1) := by decide +kernel
theorem dX8_signs_1 : decode cX8_signs 1 = .ok (.bipush 41, 2) := by decide +kernel
theorem dX8_signs_3 : decode cX8_signs 3 = .ok (.invokevirtual 218, 3) := by decide +kernel
theorem dX8_signs_6 : decode cX8_signs 6 = .ok (.ifCond .eq 41, 3) := by decide +kernel
theorem dX8_signs_9 : decode cX8_signs 9 = .ok (.aload_n 0, 1) := by decide +kernel
theorem dX8_signs_10 : decode cX8_signs 10 = .ok (.getfield 309, 3) := by decide +kernel
theorem dX8_signs_13 : decode cX8_signs 13 = .ok (.ifCond .le 34, 3) := by decide +kernel
theorem dX8_signs_16 : decode cX8_signs 16 = .ok (.aload_n 0, 1) := by decide +kernel
theorem dX8_signs_17 : decode cX8_signs 17 = .ok (.iconst 1, 1) := by decide +kernel
theorem dX8_signs_18 : decode cX8_signs 18 = .ok (.invokevirtual 332, 3) := by decide +kernel
theorem dX8_signs_21 : decode cX8_signs 21 = .ok (.aload_n 0, 1) := by decide +kernel
theorem dX8_signs_22 : decode cX8_signs 22 = .ok (.dup, 1) := by decide +kernel
theorem dX8_signs_23 : decode cX8_signs 23 = .ok (.getfield 294, 3) := by decide +kernel
theorem dX8_signs_26 : decode cX8_signs 26 = .ok (.iconst 1, 1) := by decide +kernel
theorem dX8_signs_27 : decode cX8_signs 27 = .ok (.isub, 1) := by decide +kernel
theorem dX8_signs_28 : decode cX8_signs 28 = .ok (.putfield 294, 3) := by decide +kernel
theorem dX8_signs_31 : decode cX8_signs 31 = .ok (.aload_n 0, 1) := by decide +kernel
theorem dX8_signs_32 : decode cX8_signs 32 = .ok (.dup, 1) := by decide +kernel
theorem dX8_signs_33 : decode cX8_signs 33 = .ok (.getfield 309, 3) := by decide +kernel
theorem dX8_signs_36 : decode cX8_signs 36 = .ok (.iconst 1, 1) := by decide +kernel
theorem dX8_signs_37 : decode cX8_signs 37 = .ok (.isub, 1) := by decide +kernel
theorem dX8_signs_38 : decode cX8_signs 38 = .ok (.putfield 309, 3) := by decide +kernel
theorem dX8_signs_41 : decode cX8_signs 41 = .ok (.aload_n 0, 1) := by decide +kernel
theorem dX8_signs_42 : decode cX8_signs 42 = .ok (.invokevirtual 215, 3) := by decide +kernel
theorem dX8_signs_45 : decode cX8_signs 45 = .ok (.iconst 1, 1) := by decide +kernel
theorem dX8_signs_46 : decode cX8_signs 46 = .ok (.ireturn, 1) := by decide +kernel
theorem dX8_signs_47 : decode cX8_signs 47 = .ok (.aload_n 0, 1) := by decide +kernel
theorem dX8_signs_48 : decode cX8_signs 48 = .ok (.bipush 16, 2) := by decide +kernel
theorem dX8_signs_50 : decode cX8_signs 50 = .ok (.invokevirtual 320, 3) := by decide +kernel
theorem dX8_signs_53 : decode cX8_signs 53 = .ok (.ifCond .eq 7, 3) := by decide +kernel
theorem dX8_signs_56 : decode cX8_signs 56 = .ok (.iconst 3, 1) := by decide +kernel
theorem dX8_signs_57 : decode cX8_signs 57 = .ok (.goto 90, 3) := by decide +kernel
theorem dX8_signs_60 : decode cX8_signs 60 = .ok (.aload_n 0, 1) := by decide +kernel
theorem dX8_signs_61 : decode cX8_signs 61 = .ok (.bipush 17, 2) := by decide +kernel
theorem dX8_signs_63 : decode cX8_signs 63 = .ok (.invokevirtual 320, 3) := by decide +kernel
theorem dX8_signs_66 : decode cX8_signs 66 = .ok (.ifCond .eq 7, 3) := by decide +kernel
theorem dX8_signs_69 : decode cX8_signs 69 = .ok (.iconst 4, 1) := by decide +kernel
theorem dX8_signs_70 : decode cX8_signs 70 = .ok (.goto 77, 3) := by decide +kernel
theorem dX8_signs_73 : decode cX8_signs 73 = .ok (.aload_n 0, 1) := by decide +kernel
theorem dX8_signs_74 : decode cX8_signs 74 = .ok (.getfield 181, 3) := by decide +kernel
theorem dX8_signs_77 : decode cX8_signs 77 = .ok (.iconst 5, 1) := by decide +kernel
theorem dX8_signs_78 : decode cX8_signs 78 = .ok (.if_icmp .ne 12, 3) := by decide +kernel
theorem dX8_signs_81 : decode cX8_signs 81 = .ok (.iconst 5, 1) := by decide +kernel
theorem dX8_signs_82 : decode cX8_signs 82 = .ok (.aload_n 0, 1) := by decide +kernel
theorem dX8_signs_83 : decode cX8_signs 83 = .ok (.getfield 192, 3) := by decide +kernel
theorem dX8_signs_86 : decode cX8_signs 86 = .ok (.iadd, 1) := by decide +kernel
theorem dX8_signs_87 : decode cX8_signs 87 = .ok (.goto 60, 3) := by decide +kernel
theorem dX8_signs_90 : decode cX8_signs 90 = .ok (.aload_n 0, 1) := by decide +kernel
theorem dX8_signs_91 : decode cX8_signs 91 = .ok (.bipush 43, 2) := by decide +kernel
theorem dX8_signs_93 : decode cX8_signs 93 = .ok (.invokevirtual 218, 3) := by decide +kernel
theorem dX8_signs_96 : decode cX8_signs 96 = .ok (.ifCond .eq 8, 3) := by decide +kernel
theorem dX8_signs_99 : decode cX8_signs 99 = .ok (.bipush 11, 2) := by decide +kernel
theorem dX8_signs_101 : decode cX8_signs 101 = .ok (.goto 46, 3) := by decide +kernel
theorem dX8_signs_104 : decode cX8_signs 104 = .ok (.aload_n 0, 1) := by decide +kernel
theorem dX8_signs_105 : decode cX8_signs 105 = .ok (.bipush 45, 2) := by decide +kernel
theorem dX8_signs_107 : decode cX8_signs 107 = .ok (.invokevirtual 218, 3) := by decide +kernel
theorem dX8_signs_110 : decode cX8_signs 110 = .ok (.ifCond .eq 8, 3) := by decide +kernel
theorem dX8_signs_113 : decode cX8_signs 113 = .ok (.bipush 12, 2) := by decide +kernel
theorem dX8_signs_115 : decode cX8_signs 115 = .ok (.goto 32, 3) := by decide +kernel
theorem dX8_signs_118 : decode cX8_signs 118 = .ok (.aload_n 0, 1) := by decide +kernel
theorem dX8_signs_119 : decode cX8_signs 119 = .ok (.bipush 42, 2) := by decide +kernel
theorem dX8_signs_121 : decode cX8_signs 121 = .ok (.invokevirtual 218, 3) := by decide +kernel
theorem dX8_signs_124 : decode cX8_signs 124 = .ok (.ifCond .eq 8, 3) := by decide +kernel
theorem dX8_signs_127 : decode cX8_signs 127 = .ok (.bipush 13, 2) := by decide +kernel
theorem dX8_signs_129 : decode cX8_signs 129 = .ok (.goto 18, 3) := by decide +kernel
theorem dX8_signs_132 : decode cX8_signs 132 = .ok (.aload_n 0, 1) := by decide +kernel
theorem dX8_signs_133 : decode cX8_signs 133 = .ok (.bipush 47, 2) := by decide +kernel
theorem dX8_signs_135 : decode cX8_signs 135 = .ok (.invokevirtual 218, 3) := by decide +kernel
theorem dX8_signs_138 : decode cX8_signs 138 = .ok (.ifCond .eq 8, 3) := by decide +kernel
theorem dX8_signs_141 : decode cX8_signs 141 = .ok (.bipush 14, 2) := by decide +kernel
theorem dX8_signs_143 : decode cX8_signs 143 = .ok (.goto 4, 3) := by decide +kernel
theorem dX8_signs_146 : decode cX8_signs 146 = .ok (.iconst 0, 1) := by decide +kernel
theorem dX8_signs_147 : decode cX8_signs 147 = .ok (.istore_n 1, 1) := by decide +kernel
theorem dX8_signs_148 : decode cX8_signs 148 = .ok (.iload_n 1, 1) := by decide +kernel
theorem dX8_signs_149 : decode cX8_signs 149 = .ok (.ifCond .ne 9, 3) := by decide +kernel
theorem dX8_signs_152 : decode cX8_signs 152 = .ok (.aload_n 0, 1) := by decide +kernel
theorem dX8_signs_153 : decode cX8_signs 153 = .ok (.iconst 1, 1) := by decide +kernel
theorem dX8_signs_154 : decode cX8_signs 154 = .ok (.invokevirtual 205, 3) := by decide +kernel
theorem dX8_signs_157 : decode cX8_signs 157 = .ok (.ireturn, 1) := by decide +kernel
theorem dX8_signs_158 : decode cX8_signs 158 = .ok (.aload_n 0, 1) := by decide +kernel
theorem dX8_signs_159 : decode cX8_signs 159 = .ok (.iload_n 1, 1) := by decide +kernel
theorem dX8_signs_160 : decode cX8_signs 160 = .ok (.invokestatic 297, 3) := by decide +kernel
theorem dX8_signs_163 : decode cX8_signs 163 = .ok (.iconst 4, 1) := by decide +kernel
theorem dX8_signs_164 : decode cX8_signs 164 = .ok (.if_icmp .ne 7, 3) := by decide +kernel
theorem dX8_signs_167 : decode cX8_signs 167 = .ok (.iconst 5, 1) := by decide +kernel
theorem dX8_signs_168 : decode cX8_signs 168 = .ok (.goto 7, 3) := by decide +kernel
theorem dX8_signs_171 : decode cX8_signs 171 = .ok (.iload_n 1, 1) := by decide +kernel
theorem dX8_signs_172 : decode cX8_signs 172 = .ok (.invokestatic 297, 3) := by decide +kernel
theorem dX8_signs_175 : decode cX8_signs 175 = .ok (.invokevirtual 332, 3) := by decide +kernel
theorem dX8_signs_178 : decode cX8_signs 178 = .ok (.iload_n 1, 1) := by decide +kernel
theorem dX8_signs_179 : decode cX8_signs 179 = .ok (.invokestatic 297, 3) := by decide +kernel
theorem dX8_signs_182 : decode cX8_signs 182 = .ok (.iconst 4, 1) := by decide +kernel
theorem dX8_signs_183 : decode cX8_signs 183 = .ok (.if_icmp .ne 34, 3) := by decide +kernel
theorem dX8_signs_186 : decode cX8_signs 186 = .ok (.aload_n 0, 1) := by decide +kernel
theorem dX8_signs_187 : decode cX8_signs 187 = .ok (.getfield 294, 3) := by decide +kernel
theorem dX8_signs_190 : decode cX8_signs 190 = .ok (.ifCond .le 27, 3) := by decide +kernel
theorem dX8_signs_193 : decode cX8_signs 193 = .ok (.aload_n 0, 1) := by decide +kernel
theorem dX8_signs_194 : decode cX8_signs 194 = .ok (.getfield 72, 3) := by decide +kernel
theorem dX8_signs_197 : decode cX8_signs 197 = .ok (.aload_n 0, 1) := by decide +kernel
theorem dX8_signs_198 : decode cX8_signs 198 = .ok (.getfield 294, 3) := by decide +kernel
theorem dX8_signs_201 : decode cX8_signs 201 = .ok (.iconst 1, 1) := by decide +kernel
theorem dX8_signs_202 : decode cX8_signs 202 = .ok (.isub, 1) := by decide +kernel
theorem dX8_signs_203 : decode cX8_signs 203 = .ok (.iaload, 1) := by decide +kernel
theorem dX8_signs_204 : decode cX8_signs 204 = .ok (.invokestatic 297, 3) := by decide +kernel
theorem dX8_signs_207 : decode cX8_signs 207 = .ok (.iconst 4, 1) := by decide +kernel
theorem dX8_signs_208 : decode cX8_signs 208 = .ok (.if_icmp .ne 9, 3) := by decide +kernel
theorem dX8_signs_211 : decode cX8_signs 211 = .ok (.aload_n 0, 1) := by decide +kernel
theorem dX8_signs_212 : decode cX8_signs 212 = .ok (.iconst 1, 1) := by decide +kernel
theorem dX8_signs_213 : decode cX8_signs 213 = .ok (.invokevirtual 205, 3) := by decide +kernel
theorem dX8_signs_216 : decode cX8_signs 216 = .ok (.ireturn, 1) := by decide +kernel
theorem dX8_signs_217 : decode cX8_signs 217 = .ok (.aload_n 0, 1) := by decide +kernel
theorem dX8_signs_218 : decode cX8_signs 218 = .ok (.invokevirtual 323, 3) := by decide +kernel
theorem dX8_signs_221 : decode cX8_signs 221 = .ok (.ifCond .ne 5, 3) := by decide +kernel
theorem dX8_signs_224 : decode cX8_signs 224 = .ok (.iconst 0, 1) := by decide +kernel
theorem dX8_signs_225 : decode cX8_signs 225 = .ok (.ireturn, 1) := by decide +kernel
theorem dX8_signs_226 : decode cX8_signs 226 = .ok (.aload_n 0, 1) := by decide +kernel
theorem dX8_signs_227 : decode cX8_signs 227 = .ok (.iload_n 1, 1) := by decide +kernel
theorem dX8_signs_228 : decode cX8_signs 228 = .ok (.invokevirtual 312, 3) := by decide +kernel
theorem dX8_signs_231 : decode cX8_signs 231 = .ok (.aload_n 0, 1) := by decide +kernel
theorem dX8_signs_232 : decode cX8_signs 232 = .ok (.iconst 1, 1) := by decide +kernel
theorem dX8_signs_233 : decode cX8_signs 233 = .ok (.putfield 329, 3) := by decide +kernel
theorem dX8_signs_236 : decode cX8_signs 236 = .ok (.aload_n 0, 1) := by decide +kernel
theorem dX8_signs_237 : decode cX8_signs 237 = .ok (.iload_n 1, 1) := by decide +kernel
theorem dX8_signs_238 : decode cX8_signs 238 = .ok (.invokestatic 297, 3) := by decide +kernel
theorem dX8_signs_241 : decode cX8_signs 241 = .ok (.iconst 3, 1) := by decide +kernel
theorem dX8_signs_242 : decode cX8_signs 242 = .ok (.if_icmp .ge 7, 3) := by decide +kernel
theorem dX8_signs_245 : decode cX8_signs 245 = .ok (.iconst 1, 1) := by decide +kernel
theorem dX8_signs_246 : decode cX8_signs 246 = .ok (.goto 4, 3) := by decide +kernel
theorem dX8_signs_249 : decode cX8_signs 249 = .ok (.iconst 0, 1) := by decide +kernel
theorem dX8_signs_250 : decode cX8_signs 250 = .ok (.putfield 316, 3) := by decide +kernel
theorem dX8_signs_253 : decode cX8_signs 253 = .ok (.aload_n 0, 1) := by decide +kernel
theorem dX8_signs_254 : decode cX8_signs 254 = .ok (.invokevirtual 215, 3) := by decide +kernel
theorem dX8_signs_257 : decode cX8_signs 257 = .ok (.iconst 1, 1) := by decide +kernel
theorem dX8_signs_258 : decode cX8_signs 258 = .ok (.ireturn, 1) := by decide +kernel
theorem dX8_sumRead_0 : decode cX8_sumRead 0 = .ok (.aload_n 0, 1) := by decide +kernel
theorem dX8_sumRead_1 : decode cX8_sumRead 1 = .ok (.iconst 0, 1) := by decide +kernel
theorem dX8_sumRead_2 : decode cX8_sumRead 2 = .ok (.putfield 294, 3) := by decide +kernel
theorem dX8_sumRead_5 : decode cX8_sumRead 5 = .ok (.aload_n 0, 1) := by decide +kernel
theorem dX8_sumRead_6 : decode cX8_sumRead 6 = .ok (.iconst 0, 1) := by decide +kernel
theorem dX8_sumRead_7 : decode cX8_sumRead 7 = .ok (.putfield 291, 3) := by decide +kernel
theorem dX8_sumRead_10 : decode cX8_sumRead 10 = .ok (.aload_n 0, 1) := by decide +kernel
theorem dX8_sumRead_11 : decode cX8_sumRead 11 = .ok (.iconst 0, 1) := by decide +kernel
theorem dX8_sumRead_12 : decode cX8_sumRead 12 = .ok (.putfield 309, 3) := by decide +kernel
theorem dX8_sumRead_15 : decode cX8_sumRead 15 = .ok (.aload_n 0, 1) := by decide +kernel
theorem dX8_sumRead_16 : decode cX8_sumRead 16 = .ok (.iconst 1, 1) := by decide +kernel
theorem dX8_sumRead_17 : decode cX8_sumRead 17 = .ok (.putfield 329, 3) := by decide +kernel
theorem dX8_sumRead_20 : decode cX8_sumRead 20 = .ok (.aload_n 0, 1) := by decide +kernel
theorem dX8_sumRead_21 : decode cX8_sumRead 21 = .ok (.iconst 1, 1) := by decide +kernel
theorem dX8_sumRead_22 : decode cX8_sumRead 22 = .ok (.putfield 316, 3) := by decide +kernel
theorem dX8_sumRead_25 : decode cX8_sumRead 25 = .ok (.aload_n 0, 1) := by decide +kernel
theorem dX8_sumRead_26 : decode cX8_sumRead 26 = .ok (.bipush 59, 2) := by decide +kernel
theorem dX8_sumRead_28 : decode cX8_sumRead 28 = .ok (.invokevirtual 218, 3) := by decide +kernel
theorem dX8_sumRead_31 : decode cX8_sumRead 31 = .ok (.ifCond .eq 17, 3) := by decide +kernel
theorem dX8_sumRead_34 : decode cX8_sumRead 34 = .ok (.aload_n 0, 1) := by decide +kernel
theorem dX8_sumRead_35 : decode cX8_sumRead 35 = .ok (.getfield 329, 3) := by decide +kernel
theorem dX8_sumRead_38 : decode cX8_sumRead 38 = .ok (.ifCond .ne 10, 3) := by decide +kernel
theorem dX8_sumRead_41 : decode cX8_sumRead 41 = .ok (.aload_n 0, 1) := by decide +kernel
theorem dX8_sumRead_42 : decode cX8_sumRead 42 = .ok (.getfield 309, 3) := by decide +kernel
theorem dX8_sumRead_45 : decode cX8_sumRead 45 = .ok (.ifCond .le 29, 3) := by decide +kernel
theorem dX8_sumRead_48 : decode cX8_sumRead 48 = .ok (.aload_n 0, 1) := by decide +kernel
theorem dX8_sumRead_49 : decode cX8_sumRead 49 = .ok (.getfield 329, 3) := by decide +kernel
theorem dX8_sumRead_52 : decode cX8_sumRead 52 = .ok (.ifCond .eq 13, 3) := by decide +kernel
theorem dX8_sumRead_55 : decode cX8_sumRead 55 = .ok (.aload_n 0, 1) := by decide +kernel
theorem dX8_sumRead_56 : decode cX8_sumRead 56 = .ok (.invokevirtual 335, 3) := by decide +kernel
theorem dX8_sumRead_59 : decode cX8_sumRead 59 = .ok (.ifCond .eq 13, 3) := by decide +kernel
theorem dX8_sumRead_62 : decode cX8_sumRead 62 = .ok (.goto (-37), 3) := by decide +kernel
theorem dX8_sumRead_65 : decode cX8_sumRead 65 = .ok (.aload_n 0, 1) := by decide +kernel
theorem dX8_sumRead_66 : decode cX8_sumRead 66 = .ok (.invokevirtual 338, 3) := by decide +kernel
theorem dX8_sumRead_69 : decode cX8_sumRead 69 = .ok (.ifCond .ne (-44), 3) := by decide +kernel
theorem dX8_sumRead_72 : decode cX8_sumRead 72 = .ok (.iconst 0, 1) := by decide +kernel
theorem dX8_sumRead_73 : decode cX8_sumRead 73 = .ok (.ireturn, 1) := by decide +kernel
theorem dX8_sumRead_74 : decode cX8_sumRead 74 = .ok (.aload_n 0, 1) := by decide +kernel
theorem dX8_sumRead_75 : decode cX8_sumRead 75 = .ok (.iconst 1, 1) := by decide +kernel
theorem dX8_sumRead_76 : decode cX8_sumRead 76 = .ok (.invokevirtual 332, 3) := by decide +kernel
theorem dX8_sumRead_79 : decode cX8_sumRead 79 = .ok (.iconst 1, 1) := by decide +kernel
theorem dX8_sumRead_80 : decode cX8_sumRead 80 = .ok (.ireturn, 1) := by decide +kernel
theorem dX8_lineRead_0 : decode cX8_lineRead 0 = .ok (.aload_n 0, 1) := by decide +kernel
theorem dX8_lineRead_1 : decode cX8_lineRead 1 = .ok (.getfield 181, 3) := by decide +kernel
theorem dX8_lineRead_4 : decode cX8_lineRead 4 = .ok (.iconst 1, 1) := by decide +kernel
theorem dX8_lineRead_5 : decode cX8_lineRead 5 = .ok (.if_icmp .ne 12, 3) := by decide +kernel
theorem dX8_lineRead_8 : decode cX8_lineRead 8 = .ok (.aload_n 0, 1) := by decide +kernel
theorem dX8_lineRead_9 : decode cX8_lineRead 9 = .ok (.getfield 192, 3) := by decide +kernel
theorem dX8_lineRead_12 : decode cX8_lineRead 12 = .ok (.bipush 8, 2) := by decide +kernel
theorem dX8_lineRead_14 : decode cX8_lineRead 14 = .ok (.if_icmp .le 9, 3) := by decide +kernel
theorem dX8_lineRead_17 : decode cX8_lineRead 17 = .ok (.aload_n 0, 1) := by decide +kernel
theorem dX8_lineRead_18 : decode cX8_lineRead 18 = .ok (.iconst 1, 1) := by decide +kernel
theorem dX8_lineRead_19 : decode cX8_lineRead 19 = .ok (.invokevirtual 205, 3) := by decide +kernel
theorem dX8_lineRead_22 : decode cX8_lineRead 22 = .ok (.ireturn, 1) := by decide +kernel
theorem dX8_lineRead_23 : decode cX8_lineRead 23 = .ok (.aload_n 0, 1) := by decide +kernel
theorem dX8_lineRead_24 : decode cX8_lineRead 24 = .ok (.getfield 192, 3) := by decide +kernel
theorem dX8_lineRead_27 : decode cX8_lineRead 27 = .ok (.tableswitch 236 0 8 #[49, 112, 120, 128, 236, 236, 236, 236, 136], 49) := by decide +kernel
theorem dX8_lineRead_76 : decode cX8_lineRead 76 = .ok (.aload_n 0, 1) := by decide +kernel
theorem dX8_lineRead_77 : decode cX8_lineRead 77 = .ok (.getfield 225, 3) := by decide +kernel
theorem dX8_lineRead_80 : decode cX8_lineRead 80 = .ok (.bipush 8, 2) := by decide +kernel
theorem dX8_lineRead_82 : decode cX8_lineRead 82 = .ok (.if_icmp .ne 9, 3) := by decide +kernel
theorem dX8_lineRead_85 : decode cX8_lineRead 85 = .ok (.aload_n 0, 1) := by decide +kernel
theorem dX8_lineRead_86 : decode cX8_lineRead 86 = .ok (.iconst 2, 1) := by decide +kernel
theorem dX8_lineRead_87 : decode cX8_lineRead 87 = .ok (.invokevirtual 205, 3) := by decide +kernel
theorem dX8_lineRead_90 : decode cX8_lineRead 90 = .ok (.ireturn, 1) := by decide +kernel
theorem dX8_lineRead_91 : decode cX8_lineRead 91 = .ok (.aload_n 0, 1) := by decide +kernel
theorem dX8_lineRead_92 : decode cX8_lineRead 92 = .ok (.invokevirtual 215, 3) := by decide +kernel
theorem dX8_lineRead_95 : decode cX8_lineRead 95 = .ok (.aload_n 0, 1) := by decide +kernel
theorem dX8_lineRead_96 : decode cX8_lineRead 96 = .ok (.iconst 0, 1) := by decide +kernel
theorem dX8_lineRead_97 : decode cX8_lineRead 97 = .ok (.sipush 999, 3) := by decide +kernel
theorem dX8_lineRead_100 : decode cX8_lineRead 100 = .ok (.invokevirtual 221, 3) := by decide +kernel
theorem dX8_lineRead_103 : decode cX8_lineRead 103 = .ok (.ifCond .ne 5, 3) := by decide +kernel
theorem dX8_lineRead_106 : decode cX8_lineRead 106 = .ok (.iconst 0, 1) := by decide +kernel
theorem dX8_lineRead_107 : decode cX8_lineRead 107 = .ok (.ireturn, 1) := by decide +kernel
theorem dX8_lineRead_108 : decode cX8_lineRead 108 = .ok (.aload_n 0, 1) := by decide +kernel
theorem dX8_lineRead_109 : decode cX8_lineRead 109 = .ok (.getfield 27, 3) := by decide +kernel
theorem dX8_lineRead_112 : decode cX8_lineRead 112 = .ok (.bipush 8, 2) := by decide +kernel
theorem dX8_lineRead_114 : decode cX8_lineRead 114 = .ok (.aload_n 0, 1) := by decide +kernel
theorem dX8_lineRead_115 : decode cX8_lineRead 115 = .ok (.getfield 225, 3) := by decide +kernel
theorem dX8_lineRead_118 : decode cX8_lineRead 118 = .ok (.iadd, 1) := by decide +kernel
theorem dX8_lineRead_119 : decode cX8_lineRead 119 = .ok (.aload_n 0, 1) := by decide +kernel
theorem dX8_lineRead_120 : decode cX8_lineRead 120 = .ok (.getfield 212, 3) := by decide +kernel
theorem dX8_lineRead_123 : decode cX8_lineRead 123 = .ok (.iastore, 1) := by decide +kernel
theorem dX8_lineRead_124 : decode cX8_lineRead 124 = .ok (.aload_n 0, 1) := by decide +kernel
theorem dX8_lineRead_125 : decode cX8_lineRead 125 = .ok (.dup, 1) := by decide +kernel
theorem dX8_lineRead_126 : decode cX8_lineRead 126 = .ok (.getfield 225, 3) := by decide +kernel
theorem dX8_lineRead_129 : decode cX8_lineRead 129 = .ok (.iconst 1, 1) := by decide +kernel
theorem dX8_lineRead_130 : decode cX8_lineRead 130 = .ok (.iadd, 1) := by decide +kernel
theorem dX8_lineRead_131 : decode cX8_lineRead 131 = .ok (.putfield 225, 3) := by decide +kernel
theorem dX8_lineRead_134 : decode cX8_lineRead 134 = .ok (.iconst 1, 1) := by decide +kernel
theorem dX8_lineRead_135 : decode cX8_lineRead 135 = .ok (.istore_n 1, 1) := by decide +kernel
theorem dX8_lineRead_136 : decode cX8_lineRead 136 = .ok (.goto 132, 3) := by decide +kernel
theorem dX8_lineRead_139 : decode cX8_lineRead 139 = .ok (.aload_n 0, 1) := by decide +kernel
theorem dX8_lineRead_140 : decode cX8_lineRead 140 = .ok (.invokevirtual 272, 3) := by decide +kernel
theorem dX8_lineRead_143 : decode cX8_lineRead 143 = .ok (.istore_n 1, 1) := by decide +kernel
theorem dX8_lineRead_144 : decode cX8_lineRead 144 = .ok (.goto 124, 3) := by decide +kernel
theorem dX8_lineRead_147 : decode cX8_lineRead 147 = .ok (.aload_n 0, 1) := by decide +kernel
theorem dX8_lineRead_148 : decode cX8_lineRead 148 = .ok (.invokevirtual 276, 3) := by decide +kernel
theorem dX8_lineRead_151 : decode cX8_lineRead 151 = .ok (.istore_n 1, 1) := by decide +kernel
theorem dX8_lineRead_152 : decode cX8_lineRead 152 = .ok (.goto 116, 3) := by decide +kernel
theorem dX8_lineRead_155 : decode cX8_lineRead 155 = .ok (.aload_n 0, 1) := by decide +kernel
theorem dX8_lineRead_156 : decode cX8_lineRead 156 = .ok (.invokevirtual 279, 3) := by decide +kernel
theorem dX8_lineRead_159 : decode cX8_lineRead 159 = .ok (.istore_n 1, 1) := by decide +kernel
theorem dX8_lineRead_160 : decode cX8_lineRead 160 = .ok (.goto 108, 3) := by decide +kernel
theorem dX8_lineRead_163 : decode cX8_lineRead 163 = .ok (.aload_n 0, 1) := by decide +kernel
theorem dX8_lineRead_164 : decode cX8_lineRead 164 = .ok (.invokevirtual 215, 3) := by decide +kernel
theorem dX8_lineRead_167 : decode cX8_lineRead 167 = .ok (.aload_n 0, 1) := by decide +kernel
theorem dX8_lineRead_168 : decode cX8_lineRead 168 = .ok (.getfield 181, 3) := by decide +kernel
theorem dX8_lineRead_171 : decode cX8_lineRead 171 = .ok (.iconst 1, 1) := by decide +kernel
theorem dX8_lineRead_172 : decode cX8_lineRead 172 = .ok (.if_icmp .ne 21, 3) := by decide +kernel
theorem dX8_lineRead_175 : decode cX8_lineRead 175 = .ok (.aload_n 0, 1) := by decide +kernel
theorem dX8_lineRead_176 : decode cX8_lineRead 176 = .ok (.getfield 192, 3) := by decide +kernel
theorem dX8_lineRead_179 : decode cX8_lineRead 179 = .ok (.bipush 12, 2) := by decide +kernel
theorem dX8_lineRead_181 : decode cX8_lineRead 181 = .ok (.if_icmp .lt 12, 3) := by decide +kernel
theorem dX8_lineRead_184 : decode cX8_lineRead 184 = .ok (.aload_n 0, 1) := by decide +kernel
theorem dX8_lineRead_185 : decode cX8_lineRead 185 = .ok (.getfield 192, 3) := by decide +kernel
theorem dX8_lineRead_188 : decode cX8_lineRead 188 = .ok (.bipush 15, 2) := by decide +kernel
theorem dX8_lineRead_190 : decode cX8_lineRead 190 = .ok (.if_icmp .le 9, 3) := by decide +kernel
theorem dX8_lineRead_193 : decode cX8_lineRead 193 = .ok (.aload_n 0, 1) := by decide +kernel
theorem dX8_lineRead_194 : decode cX8_lineRead 194 = .ok (.iconst 1, 1) := by decide +kernel
theorem dX8_lineRead_195 : decode cX8_lineRead 195 = .ok (.invokevirtual 205, 3) := by decide +kernel
theorem dX8_lineRead_198 : decode cX8_lineRead 198 = .ok (.ireturn, 1) := by decide +kernel
theorem dX8_lineRead_199 : decode cX8_lineRead 199 = .ok (.iconst 4, 1) := by decide +kernel
theorem dX8_lineRead_200 : decode cX8_lineRead 200 = .ok (.aload_n 0, 1) := by decide +kernel
theorem dX8_lineRead_201 : decode cX8_lineRead 201 = .ok (.getfield 192, 3) := by decide +kernel
theorem dX8_lineRead_204 : decode cX8_lineRead 204 = .ok (.iadd, 1) := by decide +kernel
theorem dX8_lineRead_205 : decode cX8_lineRead 205 = .ok (.bipush 12, 2) := by decide +kernel
theorem dX8_lineRead_207 : decode cX8_lineRead 207 = .ok (.isub, 1) := by decide +kernel
theorem dX8_lineRead_208 : decode cX8_lineRead 208 = .ok (.istore_n 2, 1) := by decide +kernel
theorem dX8_lineRead_209 : decode cX8_lineRead 209 = .ok (.aload_n 0, 1) := by decide +kernel
theorem dX8_lineRead_210 : decode cX8_lineRead 210 = .ok (.getfield 54, 3) := by decide +kernel
theorem dX8_lineRead_213 : decode cX8_lineRead 213 = .ok (.iload_n 2, 1) := by decide +kernel
theorem dX8_lineRead_214 : decode cX8_lineRead 214 = .ok (.baload, 1) := by decide +kernel
theorem dX8_lineRead_215 : decode cX8_lineRead 215 = .ok (.ifCond .eq 9, 3) := by decide +kernel
theorem dX8_lineRead_218 : decode cX8_lineRead 218 = .ok (.aload_n 0, 1) := by decide +kernel
theorem dX8_lineRead_219 : decode cX8_lineRead 219 = .ok (.iconst 3, 1) := by decide +kernel
theorem dX8_lineRead_220 : decode cX8_lineRead 220 = .ok (.invokevirtual 205, 3) := by decide +kernel
theorem dX8_lineRead_223 : decode cX8_lineRead 223 = .ok (.ireturn, 1) := by decide +kernel
theorem dX8_lineRead_224 : decode cX8_lineRead 224 = .ok (.aload_n 0, 1) := by decide +kernel
theorem dX8_lineRead_225 : decode cX8_lineRead 225 = .ok (.getfield 54, 3) := by decide +kernel
theorem dX8_lineRead_228 : decode cX8_lineRead 228 = .ok (.iload_n 2, 1) := by decide +kernel
theorem dX8_lineRead_229 : decode cX8_lineRead 229 = .ok (.iconst 1, 1) := by decide +kernel
theorem dX8_lineRead_230 : decode cX8_lineRead 230 = .ok (.bastore, 1) := by decide +kernel
theorem dX8_lineRead_231 : decode cX8_lineRead 231 = .ok (.aload_n 0, 1) := by decide +kernel
theorem dX8_lineRead_232 : decode cX8_lineRead 232 = .ok (.invokevirtual 215, 3) := by decide +kernel
theorem dX8_lineRead_235 : decode cX8_lineRead 235 = .ok (.aload_n 0, 1) := by decide +kernel
theorem dX8_lineRead_236 : decode cX8_lineRead 236 = .ok (.getfield 57, 3) := by decide +kernel
theorem dX8_lineRead_239 : decode cX8_lineRead 239 = .ok (.iload_n 2, 1) := by decide +kernel
theorem dX8_lineRead_240 : decode cX8_lineRead 240 = .ok (.aload_n 0, 1) := by decide +kernel
theorem dX8_lineRead_241 : decode cX8_lineRead 241 = .ok (.getfield 237, 3) := by decide +kernel
theorem dX8_lineRead_244 : decode cX8_lineRead 244 = .ok (.iastore, 1) := by decide +kernel
theorem dX8_lineRead_245 : decode cX8_lineRead 245 = .ok (.aload_n 0, 1) := by decide +kernel
theorem dX8_lineRead_246 : decode cX8_lineRead 246 = .ok (.invokevirtual 282, 3) := by decide +kernel
theorem dX8_lineRead_249 : decode cX8_lineRead 249 = .ok (.istore_n 1, 1) := by decide +kernel
theorem dX8_lineRead_250 : decode cX8_lineRead 250 = .ok (.aload_n 0, 1) := by decide +kernel
theorem dX8_lineRead_251 : decode cX8_lineRead 251 = .ok (.getfield 60, 3) := by decide +kernel
theorem dX8_lineRead_254 : decode cX8_lineRead 254 = .ok (.iload_n 2, 1) := by decide +kernel
theorem dX8_lineRead_255 : decode cX8_lineRead 255 = .ok (.aload_n 0, 1) := by decide +kernel
theorem dX8_lineRead_256 : decode cX8_lineRead 256 = .ok (.getfield 237, 3) := by decide +kernel
theorem dX8_lineRead_259 : decode cX8_lineRead 259 = .ok (.iastore, 1) := by decide +kernel
theorem dX8_lineRead_260 : decode cX8_lineRead 260 = .ok (.goto 8, 3) := by decide +kernel
theorem dX8_lineRead_263 : decode cX8_lineRead 263 = .ok (.aload_n 0, 1) := by decide +kernel
theorem dX8_lineRead_264 : decode cX8_lineRead 264 = .ok (.invokevirtual 285, 3) := by decide +kernel
theorem dX8_lineRead_267 : decode cX8_lineRead 267 = .ok (.istore_n 1, 1) := by decide +kernel
theorem dX8_lineRead_268 : decode cX8_lineRead 268 = .ok (.iload_n 1, 1) := by decide +kernel
theorem dX8_lineRead_269 : decode cX8_lineRead 269 = .ok (.ifCond .ne 5, 3) := by decide +kernel
theorem dX8_lineRead_272 : decode cX8_lineRead 272 = .ok (.iconst 0, 1) := by decide +kernel
theorem dX8_lineRead_273 : decode cX8_lineRead 273 = .ok (.ireturn, 1) := by decide +kernel
theorem dX8_lineRead_274 : decode cX8_lineRead 274 = .ok (.aload_n 0, 1) := by decide +kernel
theorem dX8_lineRead_275 : decode cX8_lineRead 275 = .ok (.bipush 59, 2) := by decide +kernel
theorem dX8_lineRead_277 : decode cX8_lineRead 277 = .ok (.invokevirtual 218, 3) := by decide +kernel
theorem dX8_lineRead_280 : decode cX8_lineRead 280 = .ok (.ifCond .ne 9, 3) := by decide +kernel
theorem dX8_lineRead_283 : decode cX8_lineRead 283 = .ok (.aload_n 0, 1) := by decide +kernel
theorem dX8_lineRead_284 : decode cX8_lineRead 284 = .ok (.iconst 1, 1) := by decide +kernel
theorem dX8_lineRead_285 : decode cX8_lineRead 285 = .ok (.invokevirtual 205, 3) := by decide +kernel
theorem dX8_lineRead_288 : decode cX8_lineRead 288 = .ok (.ireturn, 1) := by decide +kernel
theorem dX8_lineRead_289 : decode cX8_lineRead 289 = .ok (.aload_n 0, 1) := by decide +kernel
theorem dX8_lineRead_290 : decode cX8_lineRead 290 = .ok (.invokevirtual 215, 3) := by decide +kernel
theorem dX8_lineRead_293 : decode cX8_lineRead 293 = .ok (.iconst 1, 1) := by decide +kernel
theorem dX8_lineRead_294 : decode cX8_lineRead 294 = .ok (.ireturn, 1) := by decide +kernel
def f_X8_rank (p0 : Int32) : Option Int32 :=
  jn (fun (v1 : Int32) =>
    some v1) fun (j58 : Int32 → Option Int32) =>
  if p0 < 13 then
    if p0 < 11 then
      if p0 < 5 then
        if ¬ p0 = 2 then
          if ¬ p0 = 3 then
            if ¬ p0 = 4 then
              j58 0
            else
            j58 1
          else
          j58 2
        else
        j58 3
      else
      j58 4
    else
    j58 5
  else
  j58 6
abbrev rmX8_rank : Room := { frames := 0, cells := 0, slots := 0, locals := 0 }
set_option maxRecDepth 100000 in
set_option maxHeartbeats 4000000 in
theorem w_X8_rank (X : Cx) (F : Fx X cX8_rank RX8 (some .int) rmX8_rank) (hA : xA X = Aw (xG X)) (hL : xL X = 1) (h : Hp) (p0 : Int32) : Wm X (fun v => some (.int v)) (fun _ => h) (fun _ => True) 0 [(0, .int p0)] [] h (f_X8_rank p0) := by
  have hS : ∀ i : Nat, i < 1 → i < xL X := fun i z => by rw [hL]; exact z
  unfold f_X8_rank
  refine r_iload_n F 0 rfl dX8_rank_0 rfl ?_
  refine r_bipush F (v := 13) dX8_rank_1 (by decide) ?_
  refine Wt_jn (fun (j58 : Int32 → Option Int32) => ∀ v1 : Int32, Wm X (fun v => some (.int v)) (fun _ => h) (fun _ => True) 58 [] [.int v1] h (j58 v1)) ?_ fun j58 hj58 => ?_
  · intro v1
    exact r_iret F hA rfl rfl trivial dX8_rank_58
  refine r_icmplt F (tgt := 11) dX8_rank_3 (by decide) ?_ ?_
  · skip
    refine r_iload_n F 0 rfl dX8_rank_11 rfl ?_
    refine r_bipush F (v := 11) dX8_rank_12 (by decide) ?_
    refine r_icmplt F (tgt := 21) dX8_rank_14 (by decide) ?_ ?_
    · skip
      refine r_iload_n F 0 rfl dX8_rank_21 rfl ?_
      refine r_iconst F (v := 5) dX8_rank_22 (by decide) ?_
      refine r_icmplt F (tgt := 30) dX8_rank_23 (by decide) ?_ ?_
      · skip
        refine r_iload_n F 0 rfl dX8_rank_30 rfl ?_
        refine r_iconst F (v := 2) dX8_rank_31 (by decide) ?_
        refine r_icmpne F (tgt := 39) dX8_rank_32 (by decide) ?_ ?_
        · skip
          refine r_iload_n F 0 rfl dX8_rank_39 rfl ?_
          refine r_iconst F (v := 3) dX8_rank_40 (by decide) ?_
          refine r_icmpne F (tgt := 48) dX8_rank_41 (by decide) ?_ ?_
          · skip
            refine r_iload_n F 0 rfl dX8_rank_48 rfl ?_
            refine r_iconst F (v := 4) dX8_rank_49 (by decide) ?_
            refine r_icmpne F (tgt := 57) dX8_rank_50 (by decide) ?_ ?_
            · skip
              refine r_iconst F (v := 0) dX8_rank_57 (by decide) ?_
              exact Wt_pick [] rfl (hj58 0)
            refine r_iconst F (v := 1) dX8_rank_53 (by decide) ?_
            refine r_goto F (tgt := 58) dX8_rank_54 (by decide) ?_
            exact Wt_pick [] rfl (hj58 1)
          refine r_iconst F (v := 2) dX8_rank_44 (by decide) ?_
          refine r_goto F (tgt := 58) dX8_rank_45 (by decide) ?_
          exact Wt_pick [] rfl (hj58 2)
        refine r_iconst F (v := 3) dX8_rank_35 (by decide) ?_
        refine r_goto F (tgt := 58) dX8_rank_36 (by decide) ?_
        exact Wt_pick [] rfl (hj58 3)
      refine r_iconst F (v := 4) dX8_rank_26 (by decide) ?_
      refine r_goto F (tgt := 58) dX8_rank_27 (by decide) ?_
      exact Wt_pick [] rfl (hj58 4)
    refine r_iconst F (v := 5) dX8_rank_17 (by decide) ?_
    refine r_goto F (tgt := 58) dX8_rank_18 (by decide) ?_
    exact Wt_pick [] rfl (hj58 5)
  refine r_bipush F (v := 6) dX8_rank_6 (by decide) ?_
  refine r_goto F (tgt := 58) dX8_rank_8 (by decide) ?_
  exact Wt_pick [] rfl (hj58 6)
theorem c_X8_rank (G : Gx) (l : Launch) (h : Hp) (p0 : Int32) : Ctr G l yX8_rank (.code yX8_rank cX8_rank 1 (some .int) :: GT) rmX8_rank [.int p0] h (f_X8_rank p0) (fun v => some (.int v)) (fun _ => h) (fun _ => True) :=
  ctr_of (by decide) (Nat.le_of_ble_eq_true rfl) ⟨rfl, rfl⟩ fun X _ e2 hA hL F => by subst e2; exact w_X8_rank X F hA hL h p0
def f_X8_dropHeld (h : Hp) : Option (Int32 × Hp) :=
  lt_ (sI h 8 0 42 ((gI h 8 0 42) - 1)) fun h1 =>
  grd (inb (gI h1 8 0 42) 96) <|
  some ((gA h1 8 0 20 (gI h1 8 0 42).toNatClampNeg), h1)
abbrev rmX8_dropHeld : Room := { frames := 0, cells := 0, slots := 0, locals := 0 }
set_option maxRecDepth 100000 in
set_option maxHeartbeats 4000000 in
theorem w_X8_dropHeld (X : Cx) (F : Fx X cX8_dropHeld RX8 (some .int) rmX8_dropHeld) (hA : xA X = Aw (xG X)) (hL : xL X = 1) (h : Hp) : Wm X (fun v => some (.int v.1)) (fun v => v.2) (fun _ => True) 0 [(0, .ref (adr (xG X) 8 0 0))] [] h (f_X8_dropHeld h) := by
  have hS : ∀ i : Nat, i < 1 → i < xL X := fun i z => by rw [hL]; exact z
  unfold f_X8_dropHeld
  refine r_aload_n F 0 rfl dX8_dropHeld_0 rfl ?_
  refine r_dup F rfl dX8_dropHeld_1 ?_
  refine r_getI F frX8_291 (by decide) dX8_dropHeld_2 ?_
  refine r_iconst F (v := 1) dX8_dropHeld_5 (by decide) ?_
  refine r_isub F dX8_dropHeld_6 ?_
  refine r_putI F frX8_291 (by decide) rfl rfl dX8_dropHeld_7 fun h1 => ?_
  refine r_aload_n F 0 rfl dX8_dropHeld_10 rfl ?_
  refine r_getA F frX8_75 (by decide) dX8_dropHeld_11 ?_
  refine r_aload_n F 0 rfl dX8_dropHeld_14 rfl ?_
  refine r_getI F frX8_291 (by decide) dX8_dropHeld_15 ?_
  refine r_iaload F (ar_8_20 0 (by decide)) dX8_dropHeld_18 ?_
  exact r_iret F hA rfl rfl trivial dX8_dropHeld_19
theorem c_X8_dropHeld (G : Gx) (l : Launch) (h : Hp) : Ctr G l yX8_dropHeld (.code yX8_dropHeld cX8_dropHeld 1 (some .int) :: GT) rmX8_dropHeld [.ref (adr G 8 0 0)] h (f_X8_dropHeld h) (fun v => some (.int v.1)) (fun v => v.2) (fun _ => True) :=
  ctr_of (by decide) (Nat.le_of_ble_eq_true rfl) ⟨rfl, rfl⟩ fun X _ e2 hA hL F => by subst e2; exact w_X8_dropHeld X F hA hL h
def f_X8_bind_0 (p1 : Int32) (r0 : Hp → Option Hp) (h1 : Hp) : Option Hp :=
  jn (
    some h1) fun (j76 : Option Hp) =>
  if (gI h1 8 0 41) ≤ 0 then
    j76
  else
  grd (inb ((gI h1 8 0 41) - 1) 96) <|
  (f_X8_rank (gA h1 8 0 19 ((gI h1 8 0 41) - 1).toNatClampNeg)).bind fun v2 =>
  if v2 < p1 then
    j76
  else
  lt_ (sI h1 8 0 41 ((gI h1 8 0 41) - 1)) fun h3 =>
  grd (inb (gI h3 8 0 41) 96) <|
  lt_ ((gA h3 8 0 19 (gI h3 8 0 41).toNatClampNeg)) fun v4 =>
  jn (fun (v5 : Int32) (h6 : Hp) =>
    bd2 (f_X8_dropHeld h6) fun v8 h7 =>
    (f_X8_grown h7 v4 v8 v5).bind fun h9 =>
    r0 h9) fun (j58 : Int32 → Hp → Option Hp) =>
  if ¬ v4 = 2 then
    bd2 (f_X8_dropHeld h3) fun v11 h10 =>
    j58 v11 h10
  else
  j58 (-1) h3
def f_X8_bind (N : Nat) (h : Hp) (p1 : Int32) : Option Hp :=
  iter (fun _ => none) (f_X8_bind_0 p1) N h
abbrev rmX8_bind : Room := { frames := 1, cells := 0, slots := 0, locals := 23 }
set_option maxRecDepth 100000 in
set_option maxHeartbeats 4000000 in
theorem w_X8_bind (X : Cx) (F : Fx X cX8_bind RX8 none rmX8_bind) (hA : xA X = Aw (xG X)) (hL : xL X = 5) (N : Nat) (h : Hp) (p1 : Int32) : Wm X (fun _ => none) (fun v => v) (fun _ => True) 0 [(0, .ref (adr (xG X) 8 0 0)), (1, .int p1)] [] h (f_X8_bind N h p1) := by
  have hS : ∀ i : Nat, i < 5 → i < xL X := fun i z => by rw [hL]; exact z
  unfold f_X8_bind
  have hl0 : ∀ n : Nat, ∀ h1 : Hp, Wm X (fun _ => none) (fun v => v) (fun _ => True) 0 [(0, .ref (adr (xG X) 8 0 0)), (1, .int p1)] [] h1 (iter (fun _ => none) (f_X8_bind_0 p1) n h1) := by
    intro n
    induction n with
    | zero => intro h1; exact Wt_none
    | succ n ih =>
      revert ih
      show (∀ h1 : Hp, Wm X (fun _ => none) (fun v => v) (fun _ => True) 0 [(0, .ref (adr (xG X) 8 0 0)), (1, .int p1)] [] h1 (iter (fun _ => none) (f_X8_bind_0 p1) n h1)) → _
      intro ih0 h1
      show Wm X (fun _ => none) (fun v => v) (fun _ => True) 0 [(0, .ref (adr (xG X) 8 0 0)), (1, .int p1)] [] h1 (f_X8_bind_0 p1 (iter (fun _ => none) (f_X8_bind_0 p1) n) h1)
      revert ih0
      generalize iter (fun _ => none) (f_X8_bind_0 p1) n = r0
      intro ih0
      unfold f_X8_bind_0
      refine r_aload_n F 0 rfl dX8_bind_0 rfl ?_
      refine r_getI F frX8_294 (by decide) dX8_bind_1 ?_
      refine Wt_jn (fun (j76 : Option Hp) => Wm X (fun _ => none) (fun v => v) (fun _ => True) 76 [] [] h1 (j76)) ?_ fun j76 hj76 => ?_
      · skip
        exact r_vret F hA rfl rfl trivial dX8_bind_76
      refine r_ifle F (tgt := 76) dX8_bind_4 (by decide) ?_ ?_
      · skip
        exact Wt_pick [] rfl (hj76)
      refine r_aload_n F 0 rfl dX8_bind_7 rfl ?_
      refine r_getA F frX8_72 (by decide) dX8_bind_8 ?_
      refine r_aload_n F 0 rfl dX8_bind_11 rfl ?_
      refine r_getI F frX8_294 (by decide) dX8_bind_12 ?_
      refine r_iconst F (v := 1) dX8_bind_15 (by decide) ?_
      refine r_isub F dX8_bind_16 ?_
      refine r_iaload F (ar_8_19 0 (by decide)) dX8_bind_17 ?_
      refine k_iP (run_S F csX8_297 (c_X8_rank (xG X) _ h1 (gA h1 8 0 19 ((gI h1 8 0 41) - 1).toNatClampNeg)) rfl rfl ⟨⟨rfl, rfl⟩, Nat.le_of_ble_eq_true rfl, Nat.le_of_ble_eq_true rfl⟩ (Nat.le_of_ble_eq_true rfl) dX8_bind_18) fun v2 _ => ?_
      refine r_iload_n F 1 rfl dX8_bind_21 rfl ?_
      refine r_icmplt F (tgt := 76) dX8_bind_22 (by decide) ?_ ?_
      · skip
        exact Wt_pick [] rfl (hj76)
      refine r_aload_n F 0 rfl dX8_bind_25 rfl ?_
      refine r_dup F rfl dX8_bind_26 ?_
      refine r_getI F frX8_294 (by decide) dX8_bind_27 ?_
      refine r_iconst F (v := 1) dX8_bind_30 (by decide) ?_
      refine r_isub F dX8_bind_31 ?_
      refine r_putI F frX8_294 (by decide) rfl rfl dX8_bind_32 fun h3 => ?_
      refine r_aload_n F 0 rfl dX8_bind_35 rfl ?_
      refine r_getA F frX8_72 (by decide) dX8_bind_36 ?_
      refine r_aload_n F 0 rfl dX8_bind_39 rfl ?_
      refine r_getI F frX8_294 (by decide) dX8_bind_40 ?_
      refine r_iaload F (ar_8_19 0 (by decide)) dX8_bind_43 ?_
      refine r_nmI fun v4 => ?_
      refine r_istore_n F [(2, .int v4), (0, .ref (adr (xG X) 8 0 0)), (1, .int p1)] rfl dX8_bind_44 rfl (hS _ (by decide)) ?_
      refine r_iload_n F 0 rfl dX8_bind_45 rfl ?_
      refine r_iconst F (v := 2) dX8_bind_46 (by decide) ?_
      refine Wt_jn (fun (j58 : Int32 → Hp → Option Hp) => ∀ v5 : Int32, ∀ h6 : Hp, Wm X (fun _ => none) (fun v => v) (fun _ => True) 58 [(0, .ref (adr (xG X) 8 0 0)), (1, .int p1), (2, .int v4)] [.int v5] h6 (j58 v5 h6)) ?_ fun j58 hj58 => ?_
      · intro v5 h6
        refine r_istore_n F [(3, .int v5), (0, .ref (adr (xG X) 8 0 0)), (1, .int p1), (2, .int v4)] rfl dX8_bind_58 rfl (hS _ (by decide)) ?_
        refine r_aload_n F 1 rfl dX8_bind_59 rfl ?_
        refine k_iH (run_V F cvX8_301 (by decide) (c_X8_dropHeld (xG X) _ h6) rfl rfl ⟨⟨rfl, rfl⟩, Nat.le_of_ble_eq_true rfl, Nat.le_of_ble_eq_true rfl⟩ (Nat.le_of_ble_eq_true rfl) dX8_bind_60) fun v8 h7 => ?_
        refine r_istore F [(4, .int v8), (3, .int v5), (0, .ref (adr (xG X) 8 0 0)), (1, .int p1), (2, .int v4)] rfl dX8_bind_63 (hS _ (by decide)) ?_
        refine r_aload_n F 2 rfl dX8_bind_65 rfl ?_
        refine r_iload_n F 4 rfl dX8_bind_66 rfl ?_
        refine r_iload F 0 rfl dX8_bind_67 ?_
        refine r_iload_n F 1 rfl dX8_bind_69 rfl ?_
        refine k_vH (run_V F cvX8_305 (by decide) (c_X8_grown (xG X) _ h7 v4 v8 v5) rfl rfl ⟨⟨rfl, rfl⟩, Nat.le_of_ble_eq_true rfl, Nat.le_of_ble_eq_true rfl⟩ (Nat.le_of_ble_eq_true rfl) dX8_bind_70) fun h9 => ?_
        refine r_goto F (tgt := 0) dX8_bind_73 (by decide) ?_
        exact Wt_pick [2, 3] rfl (ih0 h9)
      refine r_icmpne F (tgt := 54) dX8_bind_47 (by decide) ?_ ?_
      · skip
        refine r_aload_n F 1 rfl dX8_bind_54 rfl ?_
        refine k_iH (run_V F cvX8_301 (by decide) (c_X8_dropHeld (xG X) _ h3) rfl rfl ⟨⟨rfl, rfl⟩, Nat.le_of_ble_eq_true rfl, Nat.le_of_ble_eq_true rfl⟩ (Nat.le_of_ble_eq_true rfl) dX8_bind_55) fun v11 h10 => ?_
        exact Wt_pick [1, 2, 0] rfl (hj58 v11 h10)
      refine r_iconst F (v := (-1)) dX8_bind_50 (by decide) ?_
      refine r_goto F (tgt := 58) dX8_bind_51 (by decide) ?_
      exact Wt_pick [1, 2, 0] rfl (hj58 (-1) h3)
  exact Wt_pick [0, 1] rfl (hl0 N h)
theorem c_X8_bind (G : Gx) (l : Launch) (N : Nat) (h : Hp) (p1 : Int32) : Ctr G l yX8_bind (.code yX8_bind cX8_bind 5 none :: GT) rmX8_bind [.ref (adr G 8 0 0), .int p1] h (f_X8_bind N h p1) (fun _ => none) (fun v => v) (fun _ => True) :=
  ctr_of (by decide) (Nat.le_of_ble_eq_true rfl) ⟨rfl, rfl⟩ fun X _ e2 hA hL F => by subst e2; exact w_X8_bind X F hA hL N h p1
def f_X8_signs (N : Nat) (h : Hp) : Option (Bool × Hp) :=
  (f_X8_isSign h 41).bind fun v1 =>
  jn (
    (f_X8_isKey h 16).bind fun v2 =>
    jn (fun (v3 : Int32) =>
      if ¬ v3 = 0 then
        (f_X8_rank v3).bind fun v4 =>
        jn (fun (v5 : Int32) =>
          (f_X8_bind N h v5).bind fun h6 =>
          (f_X8_rank v3).bind fun v7 =>
          jn (
            bd2 (f_X8_isCounted h6) fun v9 h8 =>
            if ¬ (b2i v9) = 0 then
              (f_X8_waitsFor h8 v3).bind fun h10 =>
              lt_ (sZ h10 8 0 45 true) fun h11 =>
              (f_X8_rank v3).bind fun v12 =>
              jn (fun (v13 : Bool) =>
                lt_ (sZ h11 8 0 46 v13) fun h14 =>
                (f_X8_token N h14).bind fun h15 =>
                some (true, h15)) fun (j250 : Bool → Option (Bool × Hp)) =>
              if 3 ≤ v12 then
                j250 false
              else
              j250 true
            else
            some (false, h8)) fun (j217 : Option (Bool × Hp)) =>
          if ¬ v7 = 4 then
            j217
          else
          if (gI h6 8 0 41) ≤ 0 then
            j217
          else
          grd (inb ((gI h6 8 0 41) - 1) 96) <|
          (f_X8_rank (gA h6 8 0 19 ((gI h6 8 0 41) - 1).toNatClampNeg)).bind fun v16 =>
          if ¬ v16 = 4 then
            j217
          else
          bd2 (f_X8_wrong h6 1) fun v18 h17 =>
          some (v18, h17)) fun (j175 : Int32 → Option (Bool × Hp)) =>
        if ¬ v4 = 4 then
          (f_X8_rank v3).bind fun v19 =>
          j175 v19
        else
        j175 5
      else
      bd2 (f_X8_wrong h 1) fun v21 h20 =>
      some (v21, h20)) fun (j147 : Int32 → Option (Bool × Hp)) =>
    if (b2i v2) = 0 then
      (f_X8_isKey h 17).bind fun v22 =>
      if (b2i v22) = 0 then
        if ¬ (gI h 8 0 8) = 5 then
          (f_X8_isSign h 43).bind fun v23 =>
          if (b2i v23) = 0 then
            (f_X8_isSign h 45).bind fun v24 =>
            if (b2i v24) = 0 then
              (f_X8_isSign h 42).bind fun v25 =>
              if (b2i v25) = 0 then
                (f_X8_isSign h 47).bind fun v26 =>
                if (b2i v26) = 0 then
                  j147 0
                else
                j147 14
              else
              j147 13
            else
            j147 12
          else
          j147 11
        else
        j147 (5 + (gI h 8 0 9))
      else
      j147 4
    else
    j147 3) fun (j47 : Option (Bool × Hp)) =>
  if (b2i v1) = 0 then
    j47
  else
  if (gI h 8 0 43) ≤ 0 then
    j47
  else
  (f_X8_bind N h 1).bind fun h27 =>
  lt_ (sI h27 8 0 41 ((gI h27 8 0 41) - 1)) fun h28 =>
  lt_ (sI h28 8 0 43 ((gI h28 8 0 43) - 1)) fun h29 =>
  (f_X8_token N h29).bind fun h30 =>
  some (true, h30)
abbrev rmX8_signs : Room := { frames := 2, cells := 0, slots := 0, locals := 47 }
set_option maxRecDepth 100000 in
set_option maxHeartbeats 4000000 in
theorem w_X8_signs (X : Cx) (F : Fx X cX8_signs RX8 (some .boolean) rmX8_signs) (hA : xA X = Aw (xG X)) (hL : xL X = 2) (N : Nat) (h : Hp) : Wm X (fun v => some (.int (b2i v.1))) (fun v => v.2) (fun _ => True) 0 [(0, .ref (adr (xG X) 8 0 0))] [] h (f_X8_signs N h) := by
  have hS : ∀ i : Nat, i < 2 → i < xL X := fun i z => by rw [hL]; exact z
  unfold f_X8_signs
  refine r_aload_n F 0 rfl dX8_signs_0 rfl ?_
  refine r_bipush F (v := 41) dX8_signs_1 (by decide) ?_
  refine k_zP (run_V F cvX8_218 (by decide) (c_X8_isSign (xG X) _ h 41) rfl rfl ⟨⟨rfl, rfl⟩, Nat.le_of_ble_eq_true rfl, Nat.le_of_ble_eq_true rfl⟩ (Nat.le_of_ble_eq_true rfl) dX8_signs_3) fun v1 _ => ?_
  refine Wt_jn (fun (j47 : Option (Bool × Hp)) => Wm X (fun v => some (.int (b2i v.1))) (fun v => v.2) (fun _ => True) 47 [(0, .ref (adr (xG X) 8 0 0))] [] h (j47)) ?_ fun j47 hj47 => ?_
  · skip
    refine r_aload_n F 0 rfl dX8_signs_47 rfl ?_
    refine r_bipush F (v := 16) dX8_signs_48 (by decide) ?_
    refine k_zP (run_V F cvX8_320 (by decide) (c_X8_isKey (xG X) _ h 16) rfl rfl ⟨⟨rfl, rfl⟩, Nat.le_of_ble_eq_true rfl, Nat.le_of_ble_eq_true rfl⟩ (Nat.le_of_ble_eq_true rfl) dX8_signs_50) fun v2 _ => ?_
    refine Wt_jn (fun (j147 : Int32 → Option (Bool × Hp)) => ∀ v3 : Int32, Wm X (fun v => some (.int (b2i v.1))) (fun v => v.2) (fun _ => True) 147 [(0, .ref (adr (xG X) 8 0 0))] [.int v3] h (j147 v3)) ?_ fun j147 hj147 => ?_
    · intro v3
      refine r_istore_n F [(1, .int v3), (0, .ref (adr (xG X) 8 0 0))] rfl dX8_signs_147 rfl (hS _ (by decide)) ?_
      refine r_iload_n F 0 rfl dX8_signs_148 rfl ?_
      refine r_ifne F (tgt := 158) dX8_signs_149 (by decide) ?_ ?_
      · skip
        refine r_aload_n F 1 rfl dX8_signs_158 rfl ?_
        refine r_iload_n F 0 rfl dX8_signs_159 rfl ?_
        refine k_iP (run_S F csX8_297 (c_X8_rank (xG X) _ h v3) rfl rfl ⟨⟨rfl, rfl⟩, Nat.le_of_ble_eq_true rfl, Nat.le_of_ble_eq_true rfl⟩ (Nat.le_of_ble_eq_true rfl) dX8_signs_160) fun v4 _ => ?_
        refine r_iconst F (v := 4) dX8_signs_163 (by decide) ?_
        refine Wt_jn (fun (j175 : Int32 → Option (Bool × Hp)) => ∀ v5 : Int32, Wm X (fun v => some (.int (b2i v.1))) (fun v => v.2) (fun _ => True) 175 [(0, .ref (adr (xG X) 8 0 0)), (1, .int v3)] [.int v5, .ref (adr (xG X) 8 0 0)] h (j175 v5)) ?_ fun j175 hj175 => ?_
        · intro v5
          refine k_vH (run_V F cvX8_332 (by decide) (c_X8_bind (xG X) _ N h v5) rfl rfl ⟨⟨rfl, rfl⟩, Nat.le_of_ble_eq_true rfl, Nat.le_of_ble_eq_true rfl⟩ (Nat.le_of_ble_eq_true rfl) dX8_signs_175) fun h6 => ?_
          refine r_iload_n F 1 rfl dX8_signs_178 rfl ?_
          refine k_iP (run_S F csX8_297 (c_X8_rank (xG X) _ h6 v3) rfl rfl ⟨⟨rfl, rfl⟩, Nat.le_of_ble_eq_true rfl, Nat.le_of_ble_eq_true rfl⟩ (Nat.le_of_ble_eq_true rfl) dX8_signs_179) fun v7 _ => ?_
          refine r_iconst F (v := 4) dX8_signs_182 (by decide) ?_
          refine Wt_jn (fun (j217 : Option (Bool × Hp)) => Wm X (fun v => some (.int (b2i v.1))) (fun v => v.2) (fun _ => True) 217 [(0, .ref (adr (xG X) 8 0 0)), (1, .int v3)] [] h6 (j217)) ?_ fun j217 hj217 => ?_
          · skip
            refine r_aload_n F 0 rfl dX8_signs_217 rfl ?_
            refine k_zH (run_V F cvX8_323 (by decide) (c_X8_isCounted (xG X) _ h6) rfl rfl ⟨⟨rfl, rfl⟩, Nat.le_of_ble_eq_true rfl, Nat.le_of_ble_eq_true rfl⟩ (Nat.le_of_ble_eq_true rfl) dX8_signs_218) fun v9 h8 => ?_
            refine r_ifne F (tgt := 226) dX8_signs_221 (by decide) ?_ ?_
            · skip
              refine r_aload_n F 0 rfl dX8_signs_226 rfl ?_
              refine r_iload_n F 1 rfl dX8_signs_227 rfl ?_
              refine k_vH (run_V F cvX8_312 (by decide) (c_X8_waitsFor (xG X) _ h8 v3) rfl rfl ⟨⟨rfl, rfl⟩, Nat.le_of_ble_eq_true rfl, Nat.le_of_ble_eq_true rfl⟩ (Nat.le_of_ble_eq_true rfl) dX8_signs_228) fun h10 => ?_
              refine r_aload_n F 0 rfl dX8_signs_231 rfl ?_
              refine r_iconst F (v := 1) dX8_signs_232 (by decide) ?_
              refine r_putZ F true rfl frX8_329 (by decide) rfl rfl dX8_signs_233 fun h11 => ?_
              refine r_aload_n F 0 rfl dX8_signs_236 rfl ?_
              refine r_iload_n F 1 rfl dX8_signs_237 rfl ?_
              refine k_iP (run_S F csX8_297 (c_X8_rank (xG X) _ h11 v3) rfl rfl ⟨⟨rfl, rfl⟩, Nat.le_of_ble_eq_true rfl, Nat.le_of_ble_eq_true rfl⟩ (Nat.le_of_ble_eq_true rfl) dX8_signs_238) fun v12 _ => ?_
              refine r_iconst F (v := 3) dX8_signs_241 (by decide) ?_
              refine Wt_jn (fun (j250 : Bool → Option (Bool × Hp)) => ∀ v13 : Bool, Wm X (fun v => some (.int (b2i v.1))) (fun v => v.2) (fun _ => True) 250 [(0, .ref (adr (xG X) 8 0 0))] [.int (b2i v13), .ref (adr (xG X) 8 0 0)] h11 (j250 v13)) ?_ fun j250 hj250 => ?_
              · intro v13
                refine r_putZ F v13 rfl frX8_316 (by decide) rfl rfl dX8_signs_250 fun h14 => ?_
                refine r_aload_n F 0 rfl dX8_signs_253 rfl ?_
                refine k_vH (run_V F cvX8_215 (by decide) (c_X8_token (xG X) _ N h14) rfl rfl ⟨⟨rfl, rfl⟩, Nat.le_of_ble_eq_true rfl, Nat.le_of_ble_eq_true rfl⟩ (Nat.le_of_ble_eq_true rfl) dX8_signs_254) fun h15 => ?_
                refine r_iconst F (v := 1) dX8_signs_257 (by decide) ?_
                exact r_zret F hA true rfl rfl rfl trivial dX8_signs_258
              refine r_icmpge F (tgt := 249) dX8_signs_242 (by decide) ?_ ?_
              · skip
                refine r_iconst F (v := 0) dX8_signs_249 (by decide) ?_
                exact Wt_pick [0] rfl (hj250 false)
              refine r_iconst F (v := 1) dX8_signs_245 (by decide) ?_
              refine r_goto F (tgt := 250) dX8_signs_246 (by decide) ?_
              exact Wt_pick [0] rfl (hj250 true)
            refine r_iconst F (v := 0) dX8_signs_224 (by decide) ?_
            exact r_zret F hA false rfl rfl rfl trivial dX8_signs_225
          refine r_icmpne F (tgt := 217) dX8_signs_183 (by decide) ?_ ?_
          · skip
            exact Wt_pick [0, 1] rfl (hj217)
          refine r_aload_n F 0 rfl dX8_signs_186 rfl ?_
          refine r_getI F frX8_294 (by decide) dX8_signs_187 ?_
          refine r_ifle F (tgt := 217) dX8_signs_190 (by decide) ?_ ?_
          · skip
            exact Wt_pick [0, 1] rfl (hj217)
          refine r_aload_n F 0 rfl dX8_signs_193 rfl ?_
          refine r_getA F frX8_72 (by decide) dX8_signs_194 ?_
          refine r_aload_n F 0 rfl dX8_signs_197 rfl ?_
          refine r_getI F frX8_294 (by decide) dX8_signs_198 ?_
          refine r_iconst F (v := 1) dX8_signs_201 (by decide) ?_
          refine r_isub F dX8_signs_202 ?_
          refine r_iaload F (ar_8_19 0 (by decide)) dX8_signs_203 ?_
          refine k_iP (run_S F csX8_297 (c_X8_rank (xG X) _ h6 (gA h6 8 0 19 ((gI h6 8 0 41) - 1).toNatClampNeg)) rfl rfl ⟨⟨rfl, rfl⟩, Nat.le_of_ble_eq_true rfl, Nat.le_of_ble_eq_true rfl⟩ (Nat.le_of_ble_eq_true rfl) dX8_signs_204) fun v16 _ => ?_
          refine r_iconst F (v := 4) dX8_signs_207 (by decide) ?_
          refine r_icmpne F (tgt := 217) dX8_signs_208 (by decide) ?_ ?_
          · skip
            exact Wt_pick [0, 1] rfl (hj217)
          refine r_aload_n F 0 rfl dX8_signs_211 rfl ?_
          refine r_iconst F (v := 1) dX8_signs_212 (by decide) ?_
          refine k_zH (run_V F cvX8_205 (by decide) (c_X8_wrong (xG X) _ h6 1) rfl rfl ⟨⟨rfl, rfl⟩, Nat.le_of_ble_eq_true rfl, Nat.le_of_ble_eq_true rfl⟩ (Nat.le_of_ble_eq_true rfl) dX8_signs_213) fun v18 h17 => ?_
          exact r_zret F hA v18 rfl rfl rfl trivial dX8_signs_216
        refine r_icmpne F (tgt := 171) dX8_signs_164 (by decide) ?_ ?_
        · skip
          refine r_iload_n F 0 rfl dX8_signs_171 rfl ?_
          refine k_iP (run_S F csX8_297 (c_X8_rank (xG X) _ h v3) rfl rfl ⟨⟨rfl, rfl⟩, Nat.le_of_ble_eq_true rfl, Nat.le_of_ble_eq_true rfl⟩ (Nat.le_of_ble_eq_true rfl) dX8_signs_172) fun v19 _ => ?_
          exact Wt_pick [1, 0] rfl (hj175 v19)
        refine r_iconst F (v := 5) dX8_signs_167 (by decide) ?_
        refine r_goto F (tgt := 175) dX8_signs_168 (by decide) ?_
        exact Wt_pick [1, 0] rfl (hj175 5)
      refine r_aload_n F 1 rfl dX8_signs_152 rfl ?_
      refine r_iconst F (v := 1) dX8_signs_153 (by decide) ?_
      refine k_zH (run_V F cvX8_205 (by decide) (c_X8_wrong (xG X) _ h 1) rfl rfl ⟨⟨rfl, rfl⟩, Nat.le_of_ble_eq_true rfl, Nat.le_of_ble_eq_true rfl⟩ (Nat.le_of_ble_eq_true rfl) dX8_signs_154) fun v21 h20 => ?_
      exact r_zret F hA v21 rfl rfl rfl trivial dX8_signs_157
    refine r_ifeq F (tgt := 60) dX8_signs_53 (by decide) ?_ ?_
    · skip
      refine r_aload_n F 0 rfl dX8_signs_60 rfl ?_
      refine r_bipush F (v := 17) dX8_signs_61 (by decide) ?_
      refine k_zP (run_V F cvX8_320 (by decide) (c_X8_isKey (xG X) _ h 17) rfl rfl ⟨⟨rfl, rfl⟩, Nat.le_of_ble_eq_true rfl, Nat.le_of_ble_eq_true rfl⟩ (Nat.le_of_ble_eq_true rfl) dX8_signs_63) fun v22 _ => ?_
      refine r_ifeq F (tgt := 73) dX8_signs_66 (by decide) ?_ ?_
      · skip
        refine r_aload_n F 0 rfl dX8_signs_73 rfl ?_
        refine r_getI F frX8_181 (by decide) dX8_signs_74 ?_
        refine r_iconst F (v := 5) dX8_signs_77 (by decide) ?_
        refine r_icmpne F (tgt := 90) dX8_signs_78 (by decide) ?_ ?_
        · skip
          refine r_aload_n F 0 rfl dX8_signs_90 rfl ?_
          refine r_bipush F (v := 43) dX8_signs_91 (by decide) ?_
          refine k_zP (run_V F cvX8_218 (by decide) (c_X8_isSign (xG X) _ h 43) rfl rfl ⟨⟨rfl, rfl⟩, Nat.le_of_ble_eq_true rfl, Nat.le_of_ble_eq_true rfl⟩ (Nat.le_of_ble_eq_true rfl) dX8_signs_93) fun v23 _ => ?_
          refine r_ifeq F (tgt := 104) dX8_signs_96 (by decide) ?_ ?_
          · skip
            refine r_aload_n F 0 rfl dX8_signs_104 rfl ?_
            refine r_bipush F (v := 45) dX8_signs_105 (by decide) ?_
            refine k_zP (run_V F cvX8_218 (by decide) (c_X8_isSign (xG X) _ h 45) rfl rfl ⟨⟨rfl, rfl⟩, Nat.le_of_ble_eq_true rfl, Nat.le_of_ble_eq_true rfl⟩ (Nat.le_of_ble_eq_true rfl) dX8_signs_107) fun v24 _ => ?_
            refine r_ifeq F (tgt := 118) dX8_signs_110 (by decide) ?_ ?_
            · skip
              refine r_aload_n F 0 rfl dX8_signs_118 rfl ?_
              refine r_bipush F (v := 42) dX8_signs_119 (by decide) ?_
              refine k_zP (run_V F cvX8_218 (by decide) (c_X8_isSign (xG X) _ h 42) rfl rfl ⟨⟨rfl, rfl⟩, Nat.le_of_ble_eq_true rfl, Nat.le_of_ble_eq_true rfl⟩ (Nat.le_of_ble_eq_true rfl) dX8_signs_121) fun v25 _ => ?_
              refine r_ifeq F (tgt := 132) dX8_signs_124 (by decide) ?_ ?_
              · skip
                refine r_aload_n F 0 rfl dX8_signs_132 rfl ?_
                refine r_bipush F (v := 47) dX8_signs_133 (by decide) ?_
                refine k_zP (run_V F cvX8_218 (by decide) (c_X8_isSign (xG X) _ h 47) rfl rfl ⟨⟨rfl, rfl⟩, Nat.le_of_ble_eq_true rfl, Nat.le_of_ble_eq_true rfl⟩ (Nat.le_of_ble_eq_true rfl) dX8_signs_135) fun v26 _ => ?_
                refine r_ifeq F (tgt := 146) dX8_signs_138 (by decide) ?_ ?_
                · skip
                  refine r_iconst F (v := 0) dX8_signs_146 (by decide) ?_
                  exact Wt_pick [0] rfl (hj147 0)
                refine r_bipush F (v := 14) dX8_signs_141 (by decide) ?_
                refine r_goto F (tgt := 147) dX8_signs_143 (by decide) ?_
                exact Wt_pick [0] rfl (hj147 14)
              refine r_bipush F (v := 13) dX8_signs_127 (by decide) ?_
              refine r_goto F (tgt := 147) dX8_signs_129 (by decide) ?_
              exact Wt_pick [0] rfl (hj147 13)
            refine r_bipush F (v := 12) dX8_signs_113 (by decide) ?_
            refine r_goto F (tgt := 147) dX8_signs_115 (by decide) ?_
            exact Wt_pick [0] rfl (hj147 12)
          refine r_bipush F (v := 11) dX8_signs_99 (by decide) ?_
          refine r_goto F (tgt := 147) dX8_signs_101 (by decide) ?_
          exact Wt_pick [0] rfl (hj147 11)
        refine r_iconst F (v := 5) dX8_signs_81 (by decide) ?_
        refine r_aload_n F 0 rfl dX8_signs_82 rfl ?_
        refine r_getI F frX8_192 (by decide) dX8_signs_83 ?_
        refine r_iadd F dX8_signs_86 ?_
        refine r_goto F (tgt := 147) dX8_signs_87 (by decide) ?_
        exact Wt_pick [0] rfl (hj147 (5 + (gI h 8 0 9)))
      refine r_iconst F (v := 4) dX8_signs_69 (by decide) ?_
      refine r_goto F (tgt := 147) dX8_signs_70 (by decide) ?_
      exact Wt_pick [0] rfl (hj147 4)
    refine r_iconst F (v := 3) dX8_signs_56 (by decide) ?_
    refine r_goto F (tgt := 147) dX8_signs_57 (by decide) ?_
    exact Wt_pick [0] rfl (hj147 3)
  refine r_ifeq F (tgt := 47) dX8_signs_6 (by decide) ?_ ?_
  · skip
    exact Wt_pick [0] rfl (hj47)
  refine r_aload_n F 0 rfl dX8_signs_9 rfl ?_
  refine r_getI F frX8_309 (by decide) dX8_signs_10 ?_
  refine r_ifle F (tgt := 47) dX8_signs_13 (by decide) ?_ ?_
  · skip
    exact Wt_pick [0] rfl (hj47)
  refine r_aload_n F 0 rfl dX8_signs_16 rfl ?_
  refine r_iconst F (v := 1) dX8_signs_17 (by decide) ?_
  refine k_vH (run_V F cvX8_332 (by decide) (c_X8_bind (xG X) _ N h 1) rfl rfl ⟨⟨rfl, rfl⟩, Nat.le_of_ble_eq_true rfl, Nat.le_of_ble_eq_true rfl⟩ (Nat.le_of_ble_eq_true rfl) dX8_signs_18) fun h27 => ?_
  refine r_aload_n F 0 rfl dX8_signs_21 rfl ?_
  refine r_dup F rfl dX8_signs_22 ?_
  refine r_getI F frX8_294 (by decide) dX8_signs_23 ?_
  refine r_iconst F (v := 1) dX8_signs_26 (by decide) ?_
  refine r_isub F dX8_signs_27 ?_
  refine r_putI F frX8_294 (by decide) rfl rfl dX8_signs_28 fun h28 => ?_
  refine r_aload_n F 0 rfl dX8_signs_31 rfl ?_
  refine r_dup F rfl dX8_signs_32 ?_
  refine r_getI F frX8_309 (by decide) dX8_signs_33 ?_
  refine r_iconst F (v := 1) dX8_signs_36 (by decide) ?_
  refine r_isub F dX8_signs_37 ?_
  refine r_putI F frX8_309 (by decide) rfl rfl dX8_signs_38 fun h29 => ?_
  refine r_aload_n F 0 rfl dX8_signs_41 rfl ?_
  refine k_vH (run_V F cvX8_215 (by decide) (c_X8_token (xG X) _ N h29) rfl rfl ⟨⟨rfl, rfl⟩, Nat.le_of_ble_eq_true rfl, Nat.le_of_ble_eq_true rfl⟩ (Nat.le_of_ble_eq_true rfl) dX8_signs_42) fun h30 => ?_
  refine r_iconst F (v := 1) dX8_signs_45 (by decide) ?_
  exact r_zret F hA true rfl rfl rfl trivial dX8_signs_46
theorem c_X8_signs (G : Gx) (l : Launch) (N : Nat) (h : Hp) : Ctr G l yX8_signs (.code yX8_signs cX8_signs 2 (some .boolean) :: GT) rmX8_signs [.ref (adr G 8 0 0)] h (f_X8_signs N h) (fun v => some (.int (b2i v.1))) (fun v => v.2) (fun _ => True) :=
  ctr_of (by decide) (Nat.le_of_ble_eq_true rfl) ⟨rfl, rfl⟩ fun X _ e2 hA hL F => by subst e2; exact w_X8_signs X F hA hL N h
def f_X8_sumRead_25 (N : Nat) (r25 : Hp → Option (Bool × Hp)) (h6 : Hp) : Option (Bool × Hp) :=
  (f_X8_isSign h6 59).bind fun v7 =>
  jn (
    jn (fun (h8 : Hp) =>
      some (false, h8)) fun (j72 : Hp → Option (Bool × Hp)) =>
    if (b2i (gZ h6 8 0 45)) = 0 then
      bd2 (f_X8_signs N h6) fun v10 h9 =>
      if ¬ (b2i v10) = 0 then
        r25 h9
      else
      j72 h9
    else
    bd2 (f_X8_leafRead N h6) fun v12 h11 =>
    if (b2i v12) = 0 then
      j72 h11
    else
    r25 h11) fun (j48 : Option (Bool × Hp)) =>
  if (b2i v7) = 0 then
    j48
  else
  if ¬ (b2i (gZ h6 8 0 45)) = 0 then
    j48
  else
  if (gI h6 8 0 43) ≤ 0 then
    (f_X8_bind N h6 1).bind fun h13 =>
    some (true, h13)
  else
  j48
def f_X8_sumRead (N : Nat) (h : Hp) : Option (Bool × Hp) :=
  lt_ (sI h 8 0 41 0) fun h1 =>
  lt_ (sI h1 8 0 42 0) fun h2 =>
  lt_ (sI h2 8 0 43 0) fun h3 =>
  lt_ (sZ h3 8 0 45 true) fun h4 =>
  lt_ (sZ h4 8 0 46 true) fun h5 =>
  iter (fun _ => none) (f_X8_sumRead_25 N) N h5
abbrev rmX8_sumRead : Room := { frames := 3, cells := 0, slots := 0, locals := 68 }
set_option maxRecDepth 100000 in
set_option maxHeartbeats 4000000 in
theorem w_X8_sumRead (X : Cx) (F : Fx X cX8_sumRead RX8 (some .boolean) rmX8_sumRead) (hA : xA X = Aw (xG X)) (hL : xL X = 1) (N : Nat) (h : Hp) : Wm X (fun v => some (.int (b2i v.1))) (fun v => v.2) (fun _ => True) 0 [(0, .ref (adr (xG X) 8 0 0))] [] h (f_X8_sumRead N h) := by
  have hS : ∀ i : Nat, i < 1 → i < xL X := fun i z => by rw [hL]; exact z
  unfold f_X8_sumRead
  refine r_aload_n F 0 rfl dX8_sumRead_0 rfl ?_
  refine r_iconst F (v := 0) dX8_sumRead_1 (by decide) ?_
  refine r_putI F frX8_294 (by decide) rfl rfl dX8_sumRead_2 fun h1 => ?_
  refine r_aload_n F 0 rfl dX8_sumRead_5 rfl ?_
  refine r_iconst F (v := 0) dX8_sumRead_6 (by decide) ?_
  refine r_putI F frX8_291 (by decide) rfl rfl dX8_sumRead_7 fun h2 => ?_
  refine r_aload_n F 0 rfl dX8_sumRead_10 rfl ?_
  refine r_iconst F (v := 0) dX8_sumRead_11 (by decide) ?_
  refine r_putI F frX8_309 (by decide) rfl rfl dX8_sumRead_12 fun h3 => ?_
  refine r_aload_n F 0 rfl dX8_sumRead_15 rfl ?_
  refine r_iconst F (v := 1) dX8_sumRead_16 (by decide) ?_
  refine r_putZ F true rfl frX8_329 (by decide) rfl rfl dX8_sumRead_17 fun h4 => ?_
  refine r_aload_n F 0 rfl dX8_sumRead_20 rfl ?_
  refine r_iconst F (v := 1) dX8_sumRead_21 (by decide) ?_
  refine r_putZ F true rfl frX8_316 (by decide) rfl rfl dX8_sumRead_22 fun h5 => ?_
  have hl25 : ∀ n : Nat, ∀ h6 : Hp, Wm X (fun v => some (.int (b2i v.1))) (fun v => v.2) (fun _ => True) 25 [(0, .ref (adr (xG X) 8 0 0))] [] h6 (iter (fun _ => none) (f_X8_sumRead_25 N) n h6) := by
    intro n
    induction n with
    | zero => intro h6; exact Wt_none
    | succ n ih =>
      revert ih
      show (∀ h6 : Hp, Wm X (fun v => some (.int (b2i v.1))) (fun v => v.2) (fun _ => True) 25 [(0, .ref (adr (xG X) 8 0 0))] [] h6 (iter (fun _ => none) (f_X8_sumRead_25 N) n h6)) → _
      intro ih25 h6
      show Wm X (fun v => some (.int (b2i v.1))) (fun v => v.2) (fun _ => True) 25 [(0, .ref (adr (xG X) 8 0 0))] [] h6 (f_X8_sumRead_25 N (iter (fun _ => none) (f_X8_sumRead_25 N) n) h6)
      revert ih25
      generalize iter (fun _ => none) (f_X8_sumRead_25 N) n = r25
      intro ih25
      unfold f_X8_sumRead_25
      refine r_aload_n F 0 rfl dX8_sumRead_25 rfl ?_
      refine r_bipush F (v := 59) dX8_sumRead_26 (by decide) ?_
      refine k_zP (run_V F cvX8_218 (by decide) (c_X8_isSign (xG X) _ h6 59) rfl rfl ⟨⟨rfl, rfl⟩, Nat.le_of_ble_eq_true rfl, Nat.le_of_ble_eq_true rfl⟩ (Nat.le_of_ble_eq_true rfl) dX8_sumRead_28) fun v7 _ => ?_
      refine Wt_jn (fun (j48 : Option (Bool × Hp)) => Wm X (fun v => some (.int (b2i v.1))) (fun v => v.2) (fun _ => True) 48 [(0, .ref (adr (xG X) 8 0 0))] [] h6 (j48)) ?_ fun j48 hj48 => ?_
      · skip
        refine r_aload_n F 0 rfl dX8_sumRead_48 rfl ?_
        refine r_getZ F frX8_329 (by decide) dX8_sumRead_49 ?_
        refine Wt_jn (fun (j72 : Hp → Option (Bool × Hp)) => ∀ h8 : Hp, Wm X (fun v => some (.int (b2i v.1))) (fun v => v.2) (fun _ => True) 72 [] [] h8 (j72 h8)) ?_ fun j72 hj72 => ?_
        · intro h8
          refine r_iconst F (v := 0) dX8_sumRead_72 (by decide) ?_
          exact r_zret F hA false rfl rfl rfl trivial dX8_sumRead_73
        refine r_ifeq F (tgt := 65) dX8_sumRead_52 (by decide) ?_ ?_
        · skip
          refine r_aload_n F 0 rfl dX8_sumRead_65 rfl ?_
          refine k_zH (run_V F cvX8_338 (by decide) (c_X8_signs (xG X) _ N h6) rfl rfl ⟨⟨rfl, rfl⟩, Nat.le_of_ble_eq_true rfl, Nat.le_of_ble_eq_true rfl⟩ (Nat.le_of_ble_eq_true rfl) dX8_sumRead_66) fun v10 h9 => ?_
          refine r_ifne F (tgt := 25) dX8_sumRead_69 (by decide) ?_ ?_
          · skip
            exact Wt_pick [0] rfl (ih25 h9)
          exact Wt_pick [] rfl (hj72 h9)
        refine r_aload_n F 0 rfl dX8_sumRead_55 rfl ?_
        refine k_zH (run_V F cvX8_335 (by decide) (c_X8_leafRead (xG X) _ N h6) rfl rfl ⟨⟨rfl, rfl⟩, Nat.le_of_ble_eq_true rfl, Nat.le_of_ble_eq_true rfl⟩ (Nat.le_of_ble_eq_true rfl) dX8_sumRead_56) fun v12 h11 => ?_
        refine r_ifeq F (tgt := 72) dX8_sumRead_59 (by decide) ?_ ?_
        · skip
          exact Wt_pick [] rfl (hj72 h11)
        refine r_goto F (tgt := 25) dX8_sumRead_62 (by decide) ?_
        exact Wt_pick [0] rfl (ih25 h11)
      refine r_ifeq F (tgt := 48) dX8_sumRead_31 (by decide) ?_ ?_
      · skip
        exact Wt_pick [0] rfl (hj48)
      refine r_aload_n F 0 rfl dX8_sumRead_34 rfl ?_
      refine r_getZ F frX8_329 (by decide) dX8_sumRead_35 ?_
      refine r_ifne F (tgt := 48) dX8_sumRead_38 (by decide) ?_ ?_
      · skip
        exact Wt_pick [0] rfl (hj48)
      refine r_aload_n F 0 rfl dX8_sumRead_41 rfl ?_
      refine r_getI F frX8_309 (by decide) dX8_sumRead_42 ?_
      refine r_ifle F (tgt := 74) dX8_sumRead_45 (by decide) ?_ ?_
      · skip
        refine r_aload_n F 0 rfl dX8_sumRead_74 rfl ?_
        refine r_iconst F (v := 1) dX8_sumRead_75 (by decide) ?_
        refine k_vH (run_V F cvX8_332 (by decide) (c_X8_bind (xG X) _ N h6 1) rfl rfl ⟨⟨rfl, rfl⟩, Nat.le_of_ble_eq_true rfl, Nat.le_of_ble_eq_true rfl⟩ (Nat.le_of_ble_eq_true rfl) dX8_sumRead_76) fun h13 => ?_
        refine r_iconst F (v := 1) dX8_sumRead_79 (by decide) ?_
        exact r_zret F hA true rfl rfl rfl trivial dX8_sumRead_80
      exact Wt_pick [0] rfl (hj48)
  exact Wt_pick [0] rfl (hl25 N h5)
theorem c_X8_sumRead (G : Gx) (l : Launch) (N : Nat) (h : Hp) : Ctr G l yX8_sumRead (.code yX8_sumRead cX8_sumRead 1 (some .boolean) :: GT) rmX8_sumRead [.ref (adr G 8 0 0)] h (f_X8_sumRead N h) (fun v => some (.int (b2i v.1))) (fun v => v.2) (fun _ => True) :=
  ctr_of (by decide) (Nat.le_of_ble_eq_true rfl) ⟨rfl, rfl⟩ fun X _ e2 hA hL F => by subst e2; exact w_X8_sumRead X F hA hL N h
def f_X8_lineRead (N : Nat) (h : Hp) : Option (Bool × Hp) :=
  jn (
    bd2 (f_X8_wrong h 1) fun v2 h1 =>
    some (v2, h1)) fun (j17 : Option (Bool × Hp)) =>
  if ¬ (gI h 8 0 8) = 1 then
    j17
  else
  if (gI h 8 0 9) ≤ 8 then
    jn (fun (v3 : Bool) (h4 : Hp) =>
      if ¬ (b2i v3) = 0 then
        (f_X8_isSign h4 59).bind fun v5 =>
        if ¬ (b2i v5) = 0 then
          (f_X8_token N h4).bind fun h6 =>
          some (true, h6)
        else
        bd2 (f_X8_wrong h4 1) fun v8 h7 =>
        some (v8, h7)
      else
      some (false, h4)) fun (j268 : Bool → Hp → Option (Bool × Hp)) =>
    if (gI h 8 0 9) = 0 then
      if ¬ (gI h 8 0 17) = 8 then
        (f_X8_token N h).bind fun h9 =>
        bd2 (f_X8_number N h9 0 999) fun v11 h10 =>
        if ¬ (b2i v11) = 0 then
          grd (inb (8 + (gI h10 8 0 17)) 16) <| lt_ (sA h10 8 0 4 (8 + (gI h10 8 0 17)).toNatClampNeg (gI h10 8 0 11)) fun h12 =>
          lt_ (sI h12 8 0 17 ((gI h12 8 0 17) + 1)) fun h13 =>
          j268 true h13
        else
        some (false, h10)
      else
      bd2 (f_X8_wrong h 2) fun v15 h14 =>
      some (v15, h14)
    else
    if (gI h 8 0 9) = 1 then
      bd2 (f_X8_croftLine N h) fun v17 h16 =>
      j268 v17 h16
    else
    if (gI h 8 0 9) = 2 then
      bd2 (f_X8_fieldLine N h) fun v19 h18 =>
      j268 v19 h18
    else
    if (gI h 8 0 9) = 3 then
      bd2 (f_X8_tideLine N h) fun v21 h20 =>
      j268 v21 h20
    else
    if (gI h 8 0 9) = 8 then
      (f_X8_token N h).bind fun h22 =>
      jn (
        bd2 (f_X8_wrong h22 1) fun v24 h23 =>
        some (v24, h23)) fun (j193 : Option (Bool × Hp)) =>
      if ¬ (gI h22 8 0 8) = 1 then
        j193
      else
      if (gI h22 8 0 9) < 12 then
        j193
      else
      if (gI h22 8 0 9) ≤ 15 then
        lt_ (((4 + (gI h22 8 0 9)) - 12)) fun v25 =>
        grd (inb v25 8) <|
        if (b2i (gY h22 8 0 13 v25.toNatClampNeg)) = 0 then
          grd (inb v25 8) <| lt_ (sY h22 8 0 13 v25.toNatClampNeg true) fun h26 =>
          (f_X8_token N h26).bind fun h27 =>
          grd (inb v25 8) <| lt_ (sA h27 8 0 14 v25.toNatClampNeg (gI h27 8 0 21)) fun h28 =>
          bd2 (f_X8_sumRead N h28) fun v30 h29 =>
          grd (inb v25 8) <| lt_ (sA h29 8 0 15 v25.toNatClampNeg (gI h29 8 0 21)) fun h31 =>
          j268 v30 h31
        else
        bd2 (f_X8_wrong h22 3) fun v33 h32 =>
        some (v33, h32)
      else
      j193
    else
    bd2 (f_X8_onceLine N h) fun v35 h34 =>
    j268 v35 h34
  else
  j17
abbrev rmX8_lineRead : Room := { frames := 4, cells := 0, slots := 0, locals := 91 }
set_option maxRecDepth 100000 in
set_option maxHeartbeats 4000000 in
theorem w_X8_lineRead (X : Cx) (F : Fx X cX8_lineRead RX8 (some .boolean) rmX8_lineRead) (hA : xA X = Aw (xG X)) (hL : xL X = 3) (N : Nat) (h : Hp) : Wm X (fun v => some (.int (b2i v.1))) (fun v => v.2) (fun _ => True) 0 [(0, .ref (adr (xG X) 8 0 0))] [] h (f_X8_lineRead N h) := by
  have hS : ∀ i : Nat, i < 3 → i < xL X := fun i z => by rw [hL]; exact z
  unfold f_X8_lineRead
  refine r_aload_n F 0 rfl dX8_lineRead_0 rfl ?_
  refine r_getI F frX8_181 (by decide) dX8_lineRead_1 ?_
  refine r_iconst F (v := 1) dX8_lineRead_4 (by decide) ?_
  refine Wt_jn (fun (j17 : Option (Bool × Hp)) => Wm X (fun v => some (.int (b2i v.1))) (fun v => v.2) (fun _ => True) 17 [(0, .ref (adr (xG X) 8 0 0))] [] h (j17)) ?_ fun j17 hj17 => ?_
  · skip
    refine r_aload_n F 0 rfl dX8_lineRead_17 rfl ?_
    refine r_iconst F (v := 1) dX8_lineRead_18 (by decide) ?_
    refine k_zH (run_V F cvX8_205 (by decide) (c_X8_wrong (xG X) _ h 1) rfl rfl ⟨⟨rfl, rfl⟩, Nat.le_of_ble_eq_true rfl, Nat.le_of_ble_eq_true rfl⟩ (Nat.le_of_ble_eq_true rfl) dX8_lineRead_19) fun v2 h1 => ?_
    exact r_zret F hA v2 rfl rfl rfl trivial dX8_lineRead_22
  refine r_icmpne F (tgt := 17) dX8_lineRead_5 (by decide) ?_ ?_
  · skip
    exact Wt_pick [0] rfl (hj17)
  refine r_aload_n F 0 rfl dX8_lineRead_8 rfl ?_
  refine r_getI F frX8_192 (by decide) dX8_lineRead_9 ?_
  refine r_bipush F (v := 8) dX8_lineRead_12 (by decide) ?_
  refine r_icmple F (tgt := 23) dX8_lineRead_14 (by decide) ?_ ?_
  · skip
    refine r_aload_n F 0 rfl dX8_lineRead_23 rfl ?_
    refine r_getI F frX8_192 (by decide) dX8_lineRead_24 ?_
    refine Wt_jn (fun (j268 : Bool → Hp → Option (Bool × Hp)) => ∀ v3 : Bool, ∀ h4 : Hp, Wm X (fun v => some (.int (b2i v.1))) (fun v => v.2) (fun _ => True) 268 [(0, .ref (adr (xG X) 8 0 0)), (1, .int (b2i v3))] [] h4 (j268 v3 h4)) ?_ fun j268 hj268 => ?_
    · intro v3 h4
      refine r_iload_n F 1 rfl dX8_lineRead_268 rfl ?_
      refine r_ifne F (tgt := 274) dX8_lineRead_269 (by decide) ?_ ?_
      · skip
        refine r_aload_n F 0 rfl dX8_lineRead_274 rfl ?_
        refine r_bipush F (v := 59) dX8_lineRead_275 (by decide) ?_
        refine k_zP (run_V F cvX8_218 (by decide) (c_X8_isSign (xG X) _ h4 59) rfl rfl ⟨⟨rfl, rfl⟩, Nat.le_of_ble_eq_true rfl, Nat.le_of_ble_eq_true rfl⟩ (Nat.le_of_ble_eq_true rfl) dX8_lineRead_277) fun v5 _ => ?_
        refine r_ifne F (tgt := 289) dX8_lineRead_280 (by decide) ?_ ?_
        · skip
          refine r_aload_n F 0 rfl dX8_lineRead_289 rfl ?_
          refine k_vH (run_V F cvX8_215 (by decide) (c_X8_token (xG X) _ N h4) rfl rfl ⟨⟨rfl, rfl⟩, Nat.le_of_ble_eq_true rfl, Nat.le_of_ble_eq_true rfl⟩ (Nat.le_of_ble_eq_true rfl) dX8_lineRead_290) fun h6 => ?_
          refine r_iconst F (v := 1) dX8_lineRead_293 (by decide) ?_
          exact r_zret F hA true rfl rfl rfl trivial dX8_lineRead_294
        refine r_aload_n F 0 rfl dX8_lineRead_283 rfl ?_
        refine r_iconst F (v := 1) dX8_lineRead_284 (by decide) ?_
        refine k_zH (run_V F cvX8_205 (by decide) (c_X8_wrong (xG X) _ h4 1) rfl rfl ⟨⟨rfl, rfl⟩, Nat.le_of_ble_eq_true rfl, Nat.le_of_ble_eq_true rfl⟩ (Nat.le_of_ble_eq_true rfl) dX8_lineRead_285) fun v8 h7 => ?_
        exact r_zret F hA v8 rfl rfl rfl trivial dX8_lineRead_288
      refine r_iconst F (v := 0) dX8_lineRead_272 (by decide) ?_
      exact r_zret F hA false rfl rfl rfl trivial dX8_lineRead_273
    refine r_tsc F (tgt := 76) 0 0 dX8_lineRead_27 rfl (by decide) (by decide) (by decide) ?_ fun n0 => ?_
    · skip
      refine r_aload_n F 0 rfl dX8_lineRead_76 rfl ?_
      refine r_getI F frX8_225 (by decide) dX8_lineRead_77 ?_
      refine r_bipush F (v := 8) dX8_lineRead_80 (by decide) ?_
      refine r_icmpne F (tgt := 91) dX8_lineRead_82 (by decide) ?_ ?_
      · skip
        refine r_aload_n F 0 rfl dX8_lineRead_91 rfl ?_
        refine k_vH (run_V F cvX8_215 (by decide) (c_X8_token (xG X) _ N h) rfl rfl ⟨⟨rfl, rfl⟩, Nat.le_of_ble_eq_true rfl, Nat.le_of_ble_eq_true rfl⟩ (Nat.le_of_ble_eq_true rfl) dX8_lineRead_92) fun h9 => ?_
        refine r_aload_n F 0 rfl dX8_lineRead_95 rfl ?_
        refine r_iconst F (v := 0) dX8_lineRead_96 (by decide) ?_
        refine r_sipush F (v := 999) dX8_lineRead_97 (by decide) ?_
        refine k_zH (run_V F cvX8_221 (by decide) (c_X8_number (xG X) _ N h9 0 999) rfl rfl ⟨⟨rfl, rfl⟩, Nat.le_of_ble_eq_true rfl, Nat.le_of_ble_eq_true rfl⟩ (Nat.le_of_ble_eq_true rfl) dX8_lineRead_100) fun v11 h10 => ?_
        refine r_ifne F (tgt := 108) dX8_lineRead_103 (by decide) ?_ ?_
        · skip
          refine r_aload_n F 0 rfl dX8_lineRead_108 rfl ?_
          refine r_getA F frX8_27 (by decide) dX8_lineRead_109 ?_
          refine r_bipush F (v := 8) dX8_lineRead_112 (by decide) ?_
          refine r_aload_n F 0 rfl dX8_lineRead_114 rfl ?_
          refine r_getI F frX8_225 (by decide) dX8_lineRead_115 ?_
          refine r_iadd F dX8_lineRead_118 ?_
          refine r_aload_n F 0 rfl dX8_lineRead_119 rfl ?_
          refine r_getI F frX8_212 (by decide) dX8_lineRead_120 ?_
          refine r_iastore F (ar_8_4 0 (by decide)) dX8_lineRead_123 fun h12 => ?_
          refine r_aload_n F 0 rfl dX8_lineRead_124 rfl ?_
          refine r_dup F rfl dX8_lineRead_125 ?_
          refine r_getI F frX8_225 (by decide) dX8_lineRead_126 ?_
          refine r_iconst F (v := 1) dX8_lineRead_129 (by decide) ?_
          refine r_iadd F dX8_lineRead_130 ?_
          refine r_putI F frX8_225 (by decide) rfl rfl dX8_lineRead_131 fun h13 => ?_
          refine r_iconst F (v := 1) dX8_lineRead_134 (by decide) ?_
          refine r_istore_n F [(1, .int 1), (0, .ref (adr (xG X) 8 0 0))] rfl dX8_lineRead_135 rfl (hS _ (by decide)) ?_
          refine r_goto F (tgt := 268) dX8_lineRead_136 (by decide) ?_
          exact Wt_pick [1, 0] rfl (hj268 true h13)
        refine r_iconst F (v := 0) dX8_lineRead_106 (by decide) ?_
        exact r_zret F hA false rfl rfl rfl trivial dX8_lineRead_107
      refine r_aload_n F 0 rfl dX8_lineRead_85 rfl ?_
      refine r_iconst F (v := 2) dX8_lineRead_86 (by decide) ?_
      refine k_zH (run_V F cvX8_205 (by decide) (c_X8_wrong (xG X) _ h 2) rfl rfl ⟨⟨rfl, rfl⟩, Nat.le_of_ble_eq_true rfl, Nat.le_of_ble_eq_true rfl⟩ (Nat.le_of_ble_eq_true rfl) dX8_lineRead_87) fun v15 h14 => ?_
      exact r_zret F hA v15 rfl rfl rfl trivial dX8_lineRead_90
    refine r_tsc F (tgt := 139) 1 1 dX8_lineRead_27 rfl (by decide) (by decide) (by decide) ?_ fun n1 => ?_
    · skip
      refine r_aload_n F 0 rfl dX8_lineRead_139 rfl ?_
      refine k_zH (run_V F cvX8_272 (by decide) (c_X8_croftLine (xG X) _ N h) rfl rfl ⟨⟨rfl, rfl⟩, Nat.le_of_ble_eq_true rfl, Nat.le_of_ble_eq_true rfl⟩ (Nat.le_of_ble_eq_true rfl) dX8_lineRead_140) fun v17 h16 => ?_
      refine r_istore_n F [(1, .int (b2i v17)), (0, .ref (adr (xG X) 8 0 0))] rfl dX8_lineRead_143 rfl (hS _ (by decide)) ?_
      refine r_goto F (tgt := 268) dX8_lineRead_144 (by decide) ?_
      exact Wt_pick [1, 0] rfl (hj268 v17 h16)
    refine r_tsc F (tgt := 147) 2 2 dX8_lineRead_27 rfl (by decide) (by decide) (by decide) ?_ fun n2 => ?_
    · skip
      refine r_aload_n F 0 rfl dX8_lineRead_147 rfl ?_
      refine k_zH (run_V F cvX8_276 (by decide) (c_X8_fieldLine (xG X) _ N h) rfl rfl ⟨⟨rfl, rfl⟩, Nat.le_of_ble_eq_true rfl, Nat.le_of_ble_eq_true rfl⟩ (Nat.le_of_ble_eq_true rfl) dX8_lineRead_148) fun v19 h18 => ?_
      refine r_istore_n F [(1, .int (b2i v19)), (0, .ref (adr (xG X) 8 0 0))] rfl dX8_lineRead_151 rfl (hS _ (by decide)) ?_
      refine r_goto F (tgt := 268) dX8_lineRead_152 (by decide) ?_
      exact Wt_pick [1, 0] rfl (hj268 v19 h18)
    refine r_tsc F (tgt := 155) 3 3 dX8_lineRead_27 rfl (by decide) (by decide) (by decide) ?_ fun n3 => ?_
    · skip
      refine r_aload_n F 0 rfl dX8_lineRead_155 rfl ?_
      refine k_zH (run_V F cvX8_279 (by decide) (c_X8_tideLine (xG X) _ N h) rfl rfl ⟨⟨rfl, rfl⟩, Nat.le_of_ble_eq_true rfl, Nat.le_of_ble_eq_true rfl⟩ (Nat.le_of_ble_eq_true rfl) dX8_lineRead_156) fun v21 h20 => ?_
      refine r_istore_n F [(1, .int (b2i v21)), (0, .ref (adr (xG X) 8 0 0))] rfl dX8_lineRead_159 rfl (hS _ (by decide)) ?_
      refine r_goto F (tgt := 268) dX8_lineRead_160 (by decide) ?_
      exact Wt_pick [1, 0] rfl (hj268 v21 h20)
    refine r_tsc F (tgt := 163) 8 8 dX8_lineRead_27 rfl (by decide) (by decide) (by decide) ?_ fun n8 => ?_
    · skip
      refine r_aload_n F 0 rfl dX8_lineRead_163 rfl ?_
      refine k_vH (run_V F cvX8_215 (by decide) (c_X8_token (xG X) _ N h) rfl rfl ⟨⟨rfl, rfl⟩, Nat.le_of_ble_eq_true rfl, Nat.le_of_ble_eq_true rfl⟩ (Nat.le_of_ble_eq_true rfl) dX8_lineRead_164) fun h22 => ?_
      refine r_aload_n F 0 rfl dX8_lineRead_167 rfl ?_
      refine r_getI F frX8_181 (by decide) dX8_lineRead_168 ?_
      refine r_iconst F (v := 1) dX8_lineRead_171 (by decide) ?_
      refine Wt_jn (fun (j193 : Option (Bool × Hp)) => Wm X (fun v => some (.int (b2i v.1))) (fun v => v.2) (fun _ => True) 193 [(0, .ref (adr (xG X) 8 0 0))] [] h22 (j193)) ?_ fun j193 hj193 => ?_
      · skip
        refine r_aload_n F 0 rfl dX8_lineRead_193 rfl ?_
        refine r_iconst F (v := 1) dX8_lineRead_194 (by decide) ?_
        refine k_zH (run_V F cvX8_205 (by decide) (c_X8_wrong (xG X) _ h22 1) rfl rfl ⟨⟨rfl, rfl⟩, Nat.le_of_ble_eq_true rfl, Nat.le_of_ble_eq_true rfl⟩ (Nat.le_of_ble_eq_true rfl) dX8_lineRead_195) fun v24 h23 => ?_
        exact r_zret F hA v24 rfl rfl rfl trivial dX8_lineRead_198
      refine r_icmpne F (tgt := 193) dX8_lineRead_172 (by decide) ?_ ?_
      · skip
        exact Wt_pick [0] rfl (hj193)
      refine r_aload_n F 0 rfl dX8_lineRead_175 rfl ?_
      refine r_getI F frX8_192 (by decide) dX8_lineRead_176 ?_
      refine r_bipush F (v := 12) dX8_lineRead_179 (by decide) ?_
      refine r_icmplt F (tgt := 193) dX8_lineRead_181 (by decide) ?_ ?_
      · skip
        exact Wt_pick [0] rfl (hj193)
      refine r_aload_n F 0 rfl dX8_lineRead_184 rfl ?_
      refine r_getI F frX8_192 (by decide) dX8_lineRead_185 ?_
      refine r_bipush F (v := 15) dX8_lineRead_188 (by decide) ?_
      refine r_icmple F (tgt := 199) dX8_lineRead_190 (by decide) ?_ ?_
      · skip
        refine r_iconst F (v := 4) dX8_lineRead_199 (by decide) ?_
        refine r_aload_n F 0 rfl dX8_lineRead_200 rfl ?_
        refine r_getI F frX8_192 (by decide) dX8_lineRead_201 ?_
        refine r_iadd F dX8_lineRead_204 ?_
        refine r_bipush F (v := 12) dX8_lineRead_205 (by decide) ?_
        refine r_isub F dX8_lineRead_207 ?_
        refine r_nmI fun v25 => ?_
        refine r_istore_n F [(2, .int v25), (0, .ref (adr (xG X) 8 0 0))] rfl dX8_lineRead_208 rfl (hS _ (by decide)) ?_
        refine r_aload_n F 1 rfl dX8_lineRead_209 rfl ?_
        refine r_getA F frX8_54 (by decide) dX8_lineRead_210 ?_
        refine r_iload_n F 0 rfl dX8_lineRead_213 rfl ?_
        refine r_baload F (ar_8_13 0 (by decide)) dX8_lineRead_214 ?_
        refine r_ifeq F (tgt := 224) dX8_lineRead_215 (by decide) ?_ ?_
        · skip
          refine r_aload_n F 1 rfl dX8_lineRead_224 rfl ?_
          refine r_getA F frX8_54 (by decide) dX8_lineRead_225 ?_
          refine r_iload_n F 0 rfl dX8_lineRead_228 rfl ?_
          refine r_iconst F (v := 1) dX8_lineRead_229 (by decide) ?_
          refine r_bastore F true rfl (ar_8_13 0 (by decide)) dX8_lineRead_230 fun h26 => ?_
          refine r_aload_n F 1 rfl dX8_lineRead_231 rfl ?_
          refine k_vH (run_V F cvX8_215 (by decide) (c_X8_token (xG X) _ N h26) rfl rfl ⟨⟨rfl, rfl⟩, Nat.le_of_ble_eq_true rfl, Nat.le_of_ble_eq_true rfl⟩ (Nat.le_of_ble_eq_true rfl) dX8_lineRead_232) fun h27 => ?_
          refine r_aload_n F 1 rfl dX8_lineRead_235 rfl ?_
          refine r_getA F frX8_57 (by decide) dX8_lineRead_236 ?_
          refine r_iload_n F 0 rfl dX8_lineRead_239 rfl ?_
          refine r_aload_n F 1 rfl dX8_lineRead_240 rfl ?_
          refine r_getI F frX8_237 (by decide) dX8_lineRead_241 ?_
          refine r_iastore F (ar_8_14 0 (by decide)) dX8_lineRead_244 fun h28 => ?_
          refine r_aload_n F 1 rfl dX8_lineRead_245 rfl ?_
          refine k_zH (run_V F cvX8_282 (by decide) (c_X8_sumRead (xG X) _ N h28) rfl rfl ⟨⟨rfl, rfl⟩, Nat.le_of_ble_eq_true rfl, Nat.le_of_ble_eq_true rfl⟩ (Nat.le_of_ble_eq_true rfl) dX8_lineRead_246) fun v30 h29 => ?_
          refine r_istore_n F [(1, .int (b2i v30)), (2, .int v25), (0, .ref (adr (xG X) 8 0 0))] rfl dX8_lineRead_249 rfl (hS _ (by decide)) ?_
          refine r_aload_n F 2 rfl dX8_lineRead_250 rfl ?_
          refine r_getA F frX8_60 (by decide) dX8_lineRead_251 ?_
          refine r_iload_n F 1 rfl dX8_lineRead_254 rfl ?_
          refine r_aload_n F 2 rfl dX8_lineRead_255 rfl ?_
          refine r_getI F frX8_237 (by decide) dX8_lineRead_256 ?_
          refine r_iastore F (ar_8_15 0 (by decide)) dX8_lineRead_259 fun h31 => ?_
          refine r_goto F (tgt := 268) dX8_lineRead_260 (by decide) ?_
          exact Wt_pick [2, 0] rfl (hj268 v30 h31)
        refine r_aload_n F 1 rfl dX8_lineRead_218 rfl ?_
        refine r_iconst F (v := 3) dX8_lineRead_219 (by decide) ?_
        refine k_zH (run_V F cvX8_205 (by decide) (c_X8_wrong (xG X) _ h22 3) rfl rfl ⟨⟨rfl, rfl⟩, Nat.le_of_ble_eq_true rfl, Nat.le_of_ble_eq_true rfl⟩ (Nat.le_of_ble_eq_true rfl) dX8_lineRead_220) fun v33 h32 => ?_
        exact r_zret F hA v33 rfl rfl rfl trivial dX8_lineRead_223
      exact Wt_pick [0] rfl (hj193)
    refine r_tsh F (tgt := 263) dX8_lineRead_27 (by
      have e0 := lv_neT n0 (a := 0) (by decide); have e1 := lv_neT n1 (a := 1) (by decide); have e2 := lv_neT n2 (a := 2) (by decide); have e3 := lv_neT n3 (a := 3) (by decide); have e8 := lv_neT n8 (a := 8) (by decide); have hh : ((gI h 8 0 9)).toInt < 0 ∨ 8 < ((gI h 8 0 9)).toInt ∨ ((gI h 8 0 9)).toInt = 4 ∨ ((gI h 8 0 9)).toInt = 5 ∨ ((gI h 8 0 9)).toInt = 6 ∨ ((gI h 8 0 9)).toInt = 7 := by omega
      rcases hh with z | z | z | z | z | z
      · exact Or.inl z
      · exact Or.inr (Or.inl z)
      · exact Or.inr (Or.inr ⟨4, z, by decide, rfl⟩)
      · exact Or.inr (Or.inr ⟨5, z, by decide, rfl⟩)
      · exact Or.inr (Or.inr ⟨6, z, by decide, rfl⟩)
      · exact Or.inr (Or.inr ⟨7, z, by decide, rfl⟩)) (by decide) ?_
    refine r_aload_n F 0 rfl dX8_lineRead_263 rfl ?_
    refine k_zH (run_V F cvX8_285 (by decide) (c_X8_onceLine (xG X) _ N h) rfl rfl ⟨⟨rfl, rfl⟩, Nat.le_of_ble_eq_true rfl, Nat.le_of_ble_eq_true rfl⟩ (Nat.le_of_ble_eq_true rfl) dX8_lineRead_264) fun v35 h34 => ?_
    refine r_istore_n F [(1, .int (b2i v35)), (0, .ref (adr (xG X) 8 0 0))] rfl dX8_lineRead_267 rfl (hS _ (by decide)) ?_
    exact Wt_pick [1, 0] rfl (hj268 v35 h34)
  exact Wt_pick [0] rfl (hj17)
theorem c_X8_lineRead (G : Gx) (l : Launch) (N : Nat) (h : Hp) : Ctr G l yX8_lineRead (.code yX8_lineRead cX8_lineRead 3 (some .boolean) :: GT) rmX8_lineRead [.ref (adr G 8 0 0)] h (f_X8_lineRead N h) (fun v => some (.int (b2i v.1))) (fun v => v.2) (fun _ => True) :=
  ctr_of (by decide) (Nat.le_of_ble_eq_true rfl) ⟨rfl, rfl⟩ fun X _ e2 hA hL F => by subst e2; exact w_X8_lineRead X F hA hL N h
