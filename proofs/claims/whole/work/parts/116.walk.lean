theorem dX8_token_0 : decode cX8_token 0 = .ok (.aload_n 0, 1) := by decide +kernel
theorem dX8_token_1 : decode cX8_token 1 = .ok (.getfield 178, 3) := by decide +kernel
theorem dX8_token_4 : decode cX8_token 4 = .ok (.aload_n 0, 1) := by decide +kernel
theorem dX8_token_5 : decode cX8_token 5 = .ok (.getfield 175, 3) := by decide +kernel
theorem dX8_token_8 : decode cX8_token 8 = .ok (.if_icmp .ge 44, 3) := by decide +kernel
theorem dX8_token_11 : decode cX8_token 11 = .ok (.aload_n 0, 1) := by decide +kernel
theorem dX8_token_12 : decode cX8_token 12 = .ok (.getfield 7, 3) := by decide +kernel
theorem dX8_token_15 : decode cX8_token 15 = .ok (.aload_n 0, 1) := by decide +kernel
theorem dX8_token_16 : decode cX8_token 16 = .ok (.getfield 178, 3) := by decide +kernel
theorem dX8_token_19 : decode cX8_token 19 = .ok (.iaload, 1) := by decide +kernel
theorem dX8_token_20 : decode cX8_token 20 = .ok (.bipush 10, 2) := by decide +kernel
theorem dX8_token_22 : decode cX8_token 22 = .ok (.if_icmp .eq 17, 3) := by decide +kernel
theorem dX8_token_25 : decode cX8_token 25 = .ok (.aload_n 0, 1) := by decide +kernel
theorem dX8_token_26 : decode cX8_token 26 = .ok (.getfield 7, 3) := by decide +kernel
theorem dX8_token_29 : decode cX8_token 29 = .ok (.aload_n 0, 1) := by decide +kernel
theorem dX8_token_30 : decode cX8_token 30 = .ok (.getfield 178, 3) := by decide +kernel
theorem dX8_token_33 : decode cX8_token 33 = .ok (.iaload, 1) := by decide +kernel
theorem dX8_token_34 : decode cX8_token 34 = .ok (.bipush 32, 2) := by decide +kernel
theorem dX8_token_36 : decode cX8_token 36 = .ok (.if_icmp .ne 16, 3) := by decide +kernel
theorem dX8_token_39 : decode cX8_token 39 = .ok (.aload_n 0, 1) := by decide +kernel
theorem dX8_token_40 : decode cX8_token 40 = .ok (.dup, 1) := by decide +kernel
theorem dX8_token_41 : decode cX8_token 41 = .ok (.getfield 178, 3) := by decide +kernel
theorem dX8_token_44 : decode cX8_token 44 = .ok (.iconst 1, 1) := by decide +kernel
theorem dX8_token_45 : decode cX8_token 45 = .ok (.iadd, 1) := by decide +kernel
theorem dX8_token_46 : decode cX8_token 46 = .ok (.putfield 178, 3) := by decide +kernel
theorem dX8_token_49 : decode cX8_token 49 = .ok (.goto (-49), 3) := by decide +kernel
theorem dX8_token_52 : decode cX8_token 52 = .ok (.aload_n 0, 1) := by decide +kernel
theorem dX8_token_53 : decode cX8_token 53 = .ok (.aload_n 0, 1) := by decide +kernel
theorem dX8_token_54 : decode cX8_token 54 = .ok (.getfield 178, 3) := by decide +kernel
theorem dX8_token_57 : decode cX8_token 57 = .ok (.putfield 172, 3) := by decide +kernel
theorem dX8_token_60 : decode cX8_token 60 = .ok (.aload_n 0, 1) := by decide +kernel
theorem dX8_token_61 : decode cX8_token 61 = .ok (.getfield 178, 3) := by decide +kernel
theorem dX8_token_64 : decode cX8_token 64 = .ok (.aload_n 0, 1) := by decide +kernel
theorem dX8_token_65 : decode cX8_token 65 = .ok (.getfield 175, 3) := by decide +kernel
theorem dX8_token_68 : decode cX8_token 68 = .ok (.if_icmp .ne 11, 3) := by decide +kernel
theorem dX8_token_71 : decode cX8_token 71 = .ok (.aload_n 0, 1) := by decide +kernel
theorem dX8_token_72 : decode cX8_token 72 = .ok (.iconst 0, 1) := by decide +kernel
theorem dX8_token_73 : decode cX8_token 73 = .ok (.putfield 181, 3) := by decide +kernel
theorem dX8_token_76 : decode cX8_token 76 = .ok (.goto 205, 3) := by decide +kernel
theorem dX8_token_79 : decode cX8_token 79 = .ok (.aload_n 0, 1) := by decide +kernel
theorem dX8_token_80 : decode cX8_token 80 = .ok (.aload_n 0, 1) := by decide +kernel
theorem dX8_token_81 : decode cX8_token 81 = .ok (.getfield 178, 3) := by decide +kernel
theorem dX8_token_84 : decode cX8_token 84 = .ok (.invokevirtual 184, 3) := by decide +kernel
theorem dX8_token_87 : decode cX8_token 87 = .ok (.ifCond .eq 105, 3) := by decide +kernel
theorem dX8_token_90 : decode cX8_token 90 = .ok (.aload_n 0, 1) := by decide +kernel
theorem dX8_token_91 : decode cX8_token 91 = .ok (.aload_n 0, 1) := by decide +kernel
theorem dX8_token_92 : decode cX8_token 92 = .ok (.getfield 178, 3) := by decide +kernel
theorem dX8_token_95 : decode cX8_token 95 = .ok (.invokevirtual 184, 3) := by decide +kernel
theorem dX8_token_98 : decode cX8_token 98 = .ok (.ifCond .eq 16, 3) := by decide +kernel
theorem dX8_token_101 : decode cX8_token 101 = .ok (.aload_n 0, 1) := by decide +kernel
theorem dX8_token_102 : decode cX8_token 102 = .ok (.dup, 1) := by decide +kernel
theorem dX8_token_103 : decode cX8_token 103 = .ok (.getfield 178, 3) := by decide +kernel
theorem dX8_token_106 : decode cX8_token 106 = .ok (.iconst 1, 1) := by decide +kernel
theorem dX8_token_107 : decode cX8_token 107 = .ok (.iadd, 1) := by decide +kernel
theorem dX8_token_108 : decode cX8_token 108 = .ok (.putfield 178, 3) := by decide +kernel
theorem dX8_token_111 : decode cX8_token 111 = .ok (.goto (-21), 3) := by decide +kernel
theorem dX8_token_114 : decode cX8_token 114 = .ok (.aload_n 0, 1) := by decide +kernel
theorem dX8_token_115 : decode cX8_token 115 = .ok (.aload_n 0, 1) := by decide +kernel
theorem dX8_token_116 : decode cX8_token 116 = .ok (.aload_n 0, 1) := by decide +kernel
theorem dX8_token_117 : decode cX8_token 117 = .ok (.getfield 172, 3) := by decide +kernel
theorem dX8_token_120 : decode cX8_token 120 = .ok (.aload_n 0, 1) := by decide +kernel
theorem dX8_token_121 : decode cX8_token 121 = .ok (.getfield 178, 3) := by decide +kernel
theorem dX8_token_124 : decode cX8_token 124 = .ok (.invokevirtual 188, 3) := by decide +kernel
theorem dX8_token_127 : decode cX8_token 127 = .ok (.putfield 192, 3) := by decide +kernel
theorem dX8_token_130 : decode cX8_token 130 = .ok (.aload_n 0, 1) := by decide +kernel
theorem dX8_token_131 : decode cX8_token 131 = .ok (.aload_n 0, 1) := by decide +kernel
theorem dX8_token_132 : decode cX8_token 132 = .ok (.getfield 192, 3) := by decide +kernel
theorem dX8_token_135 : decode cX8_token 135 = .ok (.ifCond .lt 7, 3) := by decide +kernel
theorem dX8_token_138 : decode cX8_token 138 = .ok (.iconst 1, 1) := by decide +kernel
theorem dX8_token_139 : decode cX8_token 139 = .ok (.goto 23, 3) := by decide +kernel
theorem dX8_token_142 : decode cX8_token 142 = .ok (.aload_n 0, 1) := by decide +kernel
theorem dX8_token_143 : decode cX8_token 143 = .ok (.getfield 178, 3) := by decide +kernel
theorem dX8_token_146 : decode cX8_token 146 = .ok (.aload_n 0, 1) := by decide +kernel
theorem dX8_token_147 : decode cX8_token 147 = .ok (.getfield 172, 3) := by decide +kernel
theorem dX8_token_150 : decode cX8_token 150 = .ok (.isub, 1) := by decide +kernel
theorem dX8_token_151 : decode cX8_token 151 = .ok (.bipush 6, 2) := by decide +kernel
theorem dX8_token_153 : decode cX8_token 153 = .ok (.if_icmp .le 8, 3) := by decide +kernel
theorem dX8_token_156 : decode cX8_token 156 = .ok (.bipush 6, 2) := by decide +kernel
theorem dX8_token_158 : decode cX8_token 158 = .ok (.goto 4, 3) := by decide +kernel
theorem dX8_token_161 : decode cX8_token 161 = .ok (.iconst 2, 1) := by decide +kernel
theorem dX8_token_162 : decode cX8_token 162 = .ok (.putfield 181, 3) := by decide +kernel
theorem dX8_token_165 : decode cX8_token 165 = .ok (.aload_n 0, 1) := by decide +kernel
theorem dX8_token_166 : decode cX8_token 166 = .ok (.getfield 181, 3) := by decide +kernel
theorem dX8_token_169 : decode cX8_token 169 = .ok (.iconst 2, 1) := by decide +kernel
theorem dX8_token_170 : decode cX8_token 170 = .ok (.if_icmp .ne 111, 3) := by decide +kernel
theorem dX8_token_173 : decode cX8_token 173 = .ok (.aload_n 0, 1) := by decide +kernel
theorem dX8_token_174 : decode cX8_token 174 = .ok (.aload_n 0, 1) := by decide +kernel
theorem dX8_token_175 : decode cX8_token 175 = .ok (.aload_n 0, 1) := by decide +kernel
theorem dX8_token_176 : decode cX8_token 176 = .ok (.getfield 172, 3) := by decide +kernel
theorem dX8_token_179 : decode cX8_token 179 = .ok (.aload_n 0, 1) := by decide +kernel
theorem dX8_token_180 : decode cX8_token 180 = .ok (.getfield 178, 3) := by decide +kernel
theorem dX8_token_183 : decode cX8_token 183 = .ok (.invokevirtual 195, 3) := by decide +kernel
theorem dX8_token_186 : decode cX8_token 186 = .ok (.putfield 192, 3) := by decide +kernel
theorem dX8_token_189 : decode cX8_token 189 = .ok (.goto 92, 3) := by decide +kernel
theorem dX8_token_192 : decode cX8_token 192 = .ok (.aload_n 0, 1) := by decide +kernel
theorem dX8_token_193 : decode cX8_token 193 = .ok (.aload_n 0, 1) := by decide +kernel
theorem dX8_token_194 : decode cX8_token 194 = .ok (.getfield 178, 3) := by decide +kernel
theorem dX8_token_197 : decode cX8_token 197 = .ok (.invokevirtual 198, 3) := by decide +kernel
theorem dX8_token_200 : decode cX8_token 200 = .ok (.ifCond .eq 77, 3) := by decide +kernel
theorem dX8_token_203 : decode cX8_token 203 = .ok (.aload_n 0, 1) := by decide +kernel
theorem dX8_token_204 : decode cX8_token 204 = .ok (.iconst 3, 1) := by decide +kernel
theorem dX8_token_205 : decode cX8_token 205 = .ok (.putfield 181, 3) := by decide +kernel
theorem dX8_token_208 : decode cX8_token 208 = .ok (.aload_n 0, 1) := by decide +kernel
theorem dX8_token_209 : decode cX8_token 209 = .ok (.iconst 0, 1) := by decide +kernel
theorem dX8_token_210 : decode cX8_token 210 = .ok (.putfield 192, 3) := by decide +kernel
theorem dX8_token_213 : decode cX8_token 213 = .ok (.aload_n 0, 1) := by decide +kernel
theorem dX8_token_214 : decode cX8_token 214 = .ok (.aload_n 0, 1) := by decide +kernel
theorem dX8_token_215 : decode cX8_token 215 = .ok (.getfield 178, 3) := by decide +kernel
theorem dX8_token_218 : decode cX8_token 218 = .ok (.invokevirtual 198, 3) := by decide +kernel
theorem dX8_token_221 : decode cX8_token 221 = .ok (.ifCond .eq 60, 3) := by decide +kernel
theorem dX8_token_224 : decode cX8_token 224 = .ok (.aload_n 0, 1) := by decide +kernel
theorem dX8_token_225 : decode cX8_token 225 = .ok (.aload_n 0, 1) := by decide +kernel
theorem dX8_token_226 : decode cX8_token 226 = .ok (.getfield 192, 3) := by decide +kernel
theorem dX8_token_229 : decode cX8_token 229 = .ok (.ldc 201, 2) := by decide +kernel
theorem dX8_token_231 : decode cX8_token 231 = .ok (.if_icmp .le 10, 3) := by decide +kernel
theorem dX8_token_234 : decode cX8_token 234 = .ok (.aload_n 0, 1) := by decide +kernel
theorem dX8_token_235 : decode cX8_token 235 = .ok (.getfield 192, 3) := by decide +kernel
theorem dX8_token_238 : decode cX8_token 238 = .ok (.goto 23, 3) := by decide +kernel
theorem dX8_token_241 : decode cX8_token 241 = .ok (.bipush 10, 2) := by decide +kernel
theorem dX8_token_243 : decode cX8_token 243 = .ok (.aload_n 0, 1) := by decide +kernel
theorem dX8_token_244 : decode cX8_token 244 = .ok (.getfield 192, 3) := by decide +kernel
theorem dX8_token_247 : decode cX8_token 247 = .ok (.imul, 1) := by decide +kernel
theorem dX8_token_248 : decode cX8_token 248 = .ok (.aload_n 0, 1) := by decide +kernel
theorem dX8_token_249 : decode cX8_token 249 = .ok (.getfield 7, 3) := by decide +kernel
theorem dX8_token_252 : decode cX8_token 252 = .ok (.aload_n 0, 1) := by decide +kernel
theorem dX8_token_253 : decode cX8_token 253 = .ok (.getfield 178, 3) := by decide +kernel
theorem dX8_token_256 : decode cX8_token 256 = .ok (.iaload, 1) := by decide +kernel
theorem dX8_token_257 : decode cX8_token 257 = .ok (.iadd, 1) := by decide +kernel
theorem dX8_token_258 : decode cX8_token 258 = .ok (.bipush 48, 2) := by decide +kernel
theorem dX8_token_260 : decode cX8_token 260 = .ok (.isub, 1) := by decide +kernel
theorem dX8_token_261 : decode cX8_token 261 = .ok (.putfield 192, 3) := by decide +kernel
theorem dX8_token_264 : decode cX8_token 264 = .ok (.aload_n 0, 1) := by decide +kernel
theorem dX8_token_265 : decode cX8_token 265 = .ok (.dup, 1) := by decide +kernel
theorem dX8_token_266 : decode cX8_token 266 = .ok (.getfield 178, 3) := by decide +kernel
theorem dX8_token_269 : decode cX8_token 269 = .ok (.iconst 1, 1) := by decide +kernel
theorem dX8_token_270 : decode cX8_token 270 = .ok (.iadd, 1) := by decide +kernel
theorem dX8_token_271 : decode cX8_token 271 = .ok (.putfield 178, 3) := by decide +kernel
theorem dX8_token_274 : decode cX8_token 274 = .ok (.goto (-61), 3) := by decide +kernel
theorem dX8_token_277 : decode cX8_token 277 = .ok (.aload_n 0, 1) := by decide +kernel
theorem dX8_token_278 : decode cX8_token 278 = .ok (.invokevirtual 202, 3) := by decide +kernel
theorem dX8_token_281 : decode cX8_token 281 = .ok (.return_, 1) := by decide +kernel
theorem dX8_isKey_0 : decode cX8_isKey 0 = .ok (.aload_n 0, 1) := by decide +kernel
theorem dX8_isKey_1 : decode cX8_isKey 1 = .ok (.getfield 181, 3) := by decide +kernel
theorem dX8_isKey_4 : decode cX8_isKey 4 = .ok (.iconst 1, 1) := by decide +kernel
theorem dX8_isKey_5 : decode cX8_isKey 5 = .ok (.if_icmp .ne 15, 3) := by decide +kernel
theorem dX8_isKey_8 : decode cX8_isKey 8 = .ok (.aload_n 0, 1) := by decide +kernel
theorem dX8_isKey_9 : decode cX8_isKey 9 = .ok (.getfield 192, 3) := by decide +kernel
theorem dX8_isKey_12 : decode cX8_isKey 12 = .ok (.iload_n 1, 1) := by decide +kernel
theorem dX8_isKey_13 : decode cX8_isKey 13 = .ok (.if_icmp .ne 7, 3) := by decide +kernel
theorem dX8_isKey_16 : decode cX8_isKey 16 = .ok (.iconst 1, 1) := by decide +kernel
theorem dX8_isKey_17 : decode cX8_isKey 17 = .ok (.goto 4, 3) := by decide +kernel
theorem dX8_isKey_20 : decode cX8_isKey 20 = .ok (.iconst 0, 1) := by decide +kernel
theorem dX8_isKey_21 : decode cX8_isKey 21 = .ok (.ireturn, 1) := by decide +kernel
theorem dX8_isSign_0 : decode cX8_isSign 0 = .ok (.aload_n 0, 1) := by decide +kernel
theorem dX8_isSign_1 : decode cX8_isSign 1 = .ok (.getfield 181, 3) := by decide +kernel
theorem dX8_isSign_4 : decode cX8_isSign 4 = .ok (.iconst 4, 1) := by decide +kernel
theorem dX8_isSign_5 : decode cX8_isSign 5 = .ok (.if_icmp .ne 15, 3) := by decide +kernel
theorem dX8_isSign_8 : decode cX8_isSign 8 = .ok (.aload_n 0, 1) := by decide +kernel
theorem dX8_isSign_9 : decode cX8_isSign 9 = .ok (.getfield 192, 3) := by decide +kernel
theorem dX8_isSign_12 : decode cX8_isSign 12 = .ok (.iload_n 1, 1) := by decide +kernel
theorem dX8_isSign_13 : decode cX8_isSign 13 = .ok (.if_icmp .ne 7, 3) := by decide +kernel
theorem dX8_isSign_16 : decode cX8_isSign 16 = .ok (.iconst 1, 1) := by decide +kernel
theorem dX8_isSign_17 : decode cX8_isSign 17 = .ok (.goto 4, 3) := by decide +kernel
theorem dX8_isSign_20 : decode cX8_isSign 20 = .ok (.iconst 0, 1) := by decide +kernel
theorem dX8_isSign_21 : decode cX8_isSign 21 = .ok (.ireturn, 1) := by decide +kernel
theorem dX8_number_0 : decode cX8_number 0 = .ok (.aload_n 0, 1) := by decide +kernel
theorem dX8_number_1 : decode cX8_number 1 = .ok (.getfield 181, 3) := by decide +kernel
theorem dX8_number_4 : decode cX8_number 4 = .ok (.iconst 3, 1) := by decide +kernel
theorem dX8_number_5 : decode cX8_number 5 = .ok (.if_icmp .eq 9, 3) := by decide +kernel
theorem dX8_number_8 : decode cX8_number 8 = .ok (.aload_n 0, 1) := by decide +kernel
theorem dX8_number_9 : decode cX8_number 9 = .ok (.iconst 1, 1) := by decide +kernel
theorem dX8_number_10 : decode cX8_number 10 = .ok (.invokevirtual 205, 3) := by decide +kernel
theorem dX8_number_13 : decode cX8_number 13 = .ok (.ireturn, 1) := by decide +kernel
theorem dX8_number_14 : decode cX8_number 14 = .ok (.aload_n 0, 1) := by decide +kernel
theorem dX8_number_15 : decode cX8_number 15 = .ok (.getfield 192, 3) := by decide +kernel
theorem dX8_number_18 : decode cX8_number 18 = .ok (.iload_n 1, 1) := by decide +kernel
theorem dX8_number_19 : decode cX8_number 19 = .ok (.iload_n 2, 1) := by decide +kernel
theorem dX8_number_20 : decode cX8_number 20 = .ok (.invokestatic 208, 3) := by decide +kernel
theorem dX8_number_23 : decode cX8_number 23 = .ok (.ifCond .ne 9, 3) := by decide +kernel
theorem dX8_number_26 : decode cX8_number 26 = .ok (.aload_n 0, 1) := by decide +kernel
theorem dX8_number_27 : decode cX8_number 27 = .ok (.iconst 2, 1) := by decide +kernel
theorem dX8_number_28 : decode cX8_number 28 = .ok (.invokevirtual 205, 3) := by decide +kernel
theorem dX8_number_31 : decode cX8_number 31 = .ok (.ireturn, 1) := by decide +kernel
theorem dX8_number_32 : decode cX8_number 32 = .ok (.aload_n 0, 1) := by decide +kernel
theorem dX8_number_33 : decode cX8_number 33 = .ok (.aload_n 0, 1) := by decide +kernel
theorem dX8_number_34 : decode cX8_number 34 = .ok (.getfield 192, 3) := by decide +kernel
theorem dX8_number_37 : decode cX8_number 37 = .ok (.putfield 212, 3) := by decide +kernel
theorem dX8_number_40 : decode cX8_number 40 = .ok (.aload_n 0, 1) := by decide +kernel
theorem dX8_number_41 : decode cX8_number 41 = .ok (.invokevirtual 215, 3) := by decide +kernel
theorem dX8_number_44 : decode cX8_number 44 = .ok (.iconst 1, 1) := by decide +kernel
theorem dX8_number_45 : decode cX8_number 45 = .ok (.ireturn, 1) := by decide +kernel
theorem dX8_plain_0 : decode cX8_plain 0 = .ok (.aload_n 0, 1) := by decide +kernel
theorem dX8_plain_1 : decode cX8_plain 1 = .ok (.iconst 0, 1) := by decide +kernel
theorem dX8_plain_2 : decode cX8_plain 2 = .ok (.putfield 225, 3) := by decide +kernel
theorem dX8_plain_5 : decode cX8_plain 5 = .ok (.aload_n 0, 1) := by decide +kernel
theorem dX8_plain_6 : decode cX8_plain 6 = .ok (.iconst 0, 1) := by decide +kernel
theorem dX8_plain_7 : decode cX8_plain 7 = .ok (.putfield 228, 3) := by decide +kernel
theorem dX8_plain_10 : decode cX8_plain 10 = .ok (.aload_n 0, 1) := by decide +kernel
theorem dX8_plain_11 : decode cX8_plain 11 = .ok (.iconst 0, 1) := by decide +kernel
theorem dX8_plain_12 : decode cX8_plain 12 = .ok (.putfield 231, 3) := by decide +kernel
theorem dX8_plain_15 : decode cX8_plain 15 = .ok (.aload_n 0, 1) := by decide +kernel
theorem dX8_plain_16 : decode cX8_plain 16 = .ok (.iconst 0, 1) := by decide +kernel
theorem dX8_plain_17 : decode cX8_plain 17 = .ok (.putfield 234, 3) := by decide +kernel
theorem dX8_plain_20 : decode cX8_plain 20 = .ok (.aload_n 0, 1) := by decide +kernel
theorem dX8_plain_21 : decode cX8_plain 21 = .ok (.iconst 0, 1) := by decide +kernel
theorem dX8_plain_22 : decode cX8_plain 22 = .ok (.putfield 237, 3) := by decide +kernel
theorem dX8_plain_25 : decode cX8_plain 25 = .ok (.aload_n 0, 1) := by decide +kernel
theorem dX8_plain_26 : decode cX8_plain 26 = .ok (.iconst 0, 1) := by decide +kernel
theorem dX8_plain_27 : decode cX8_plain 27 = .ok (.putfield 240, 3) := by decide +kernel
theorem dX8_plain_30 : decode cX8_plain 30 = .ok (.iconst 0, 1) := by decide +kernel
theorem dX8_plain_31 : decode cX8_plain 31 = .ok (.istore_n 1, 1) := by decide +kernel
theorem dX8_plain_32 : decode cX8_plain 32 = .ok (.iload_n 1, 1) := by decide +kernel
theorem dX8_plain_33 : decode cX8_plain 33 = .ok (.iconst 4, 1) := by decide +kernel
theorem dX8_plain_34 : decode cX8_plain 34 = .ok (.if_icmp .ge 16, 3) := by decide +kernel
theorem dX8_plain_37 : decode cX8_plain 37 = .ok (.aload_n 0, 1) := by decide +kernel
theorem dX8_plain_38 : decode cX8_plain 38 = .ok (.getfield 20, 3) := by decide +kernel
theorem dX8_plain_41 : decode cX8_plain 41 = .ok (.iload_n 1, 1) := by decide +kernel
theorem dX8_plain_42 : decode cX8_plain 42 = .ok (.iconst 0, 1) := by decide +kernel
theorem dX8_plain_43 : decode cX8_plain 43 = .ok (.bastore, 1) := by decide +kernel
theorem dX8_plain_44 : decode cX8_plain 44 = .ok (.iinc 1 1, 3) := by decide +kernel
theorem dX8_plain_47 : decode cX8_plain 47 = .ok (.goto (-15), 3) := by decide +kernel
theorem dX8_plain_50 : decode cX8_plain 50 = .ok (.iconst 5, 1) := by decide +kernel
theorem dX8_plain_51 : decode cX8_plain 51 = .ok (.istore_n 1, 1) := by decide +kernel
theorem dX8_plain_52 : decode cX8_plain 52 = .ok (.iload_n 1, 1) := by decide +kernel
theorem dX8_plain_53 : decode cX8_plain 53 = .ok (.bipush 10, 2) := by decide +kernel
theorem dX8_plain_55 : decode cX8_plain 55 = .ok (.if_icmp .ge 16, 3) := by decide +kernel
theorem dX8_plain_58 : decode cX8_plain 58 = .ok (.aload_n 0, 1) := by decide +kernel
theorem dX8_plain_59 : decode cX8_plain 59 = .ok (.getfield 24, 3) := by decide +kernel
theorem dX8_plain_62 : decode cX8_plain 62 = .ok (.iload_n 1, 1) := by decide +kernel
theorem dX8_plain_63 : decode cX8_plain 63 = .ok (.iconst 0, 1) := by decide +kernel
theorem dX8_plain_64 : decode cX8_plain 64 = .ok (.iastore, 1) := by decide +kernel
theorem dX8_plain_65 : decode cX8_plain 65 = .ok (.iinc 1 1, 3) := by decide +kernel
theorem dX8_plain_68 : decode cX8_plain 68 = .ok (.goto (-16), 3) := by decide +kernel
theorem dX8_plain_71 : decode cX8_plain 71 = .ok (.iconst 4, 1) := by decide +kernel
theorem dX8_plain_72 : decode cX8_plain 72 = .ok (.istore_n 1, 1) := by decide +kernel
theorem dX8_plain_73 : decode cX8_plain 73 = .ok (.iload_n 1, 1) := by decide +kernel
theorem dX8_plain_74 : decode cX8_plain 74 = .ok (.bipush 8, 2) := by decide +kernel
theorem dX8_plain_76 : decode cX8_plain 76 = .ok (.if_icmp .ge 16, 3) := by decide +kernel
theorem dX8_plain_79 : decode cX8_plain 79 = .ok (.aload_n 0, 1) := by decide +kernel
theorem dX8_plain_80 : decode cX8_plain 80 = .ok (.getfield 54, 3) := by decide +kernel
theorem dX8_plain_83 : decode cX8_plain 83 = .ok (.iload_n 1, 1) := by decide +kernel
theorem dX8_plain_84 : decode cX8_plain 84 = .ok (.iconst 0, 1) := by decide +kernel
theorem dX8_plain_85 : decode cX8_plain 85 = .ok (.bastore, 1) := by decide +kernel
theorem dX8_plain_86 : decode cX8_plain 86 = .ok (.iinc 1 1, 3) := by decide +kernel
theorem dX8_plain_89 : decode cX8_plain 89 = .ok (.goto (-16), 3) := by decide +kernel
theorem dX8_plain_92 : decode cX8_plain 92 = .ok (.return_, 1) := by decide +kernel
theorem dX8_copies_0 : decode cX8_copies 0 = .ok (.iconst 0, 1) := by decide +kernel
theorem dX8_copies_1 : decode cX8_copies 1 = .ok (.istore_n 2, 1) := by decide +kernel
theorem dX8_copies_2 : decode cX8_copies 2 = .ok (.iload_n 2, 1) := by decide +kernel
theorem dX8_copies_3 : decode cX8_copies 3 = .ok (.iload_n 1, 1) := by decide +kernel
theorem dX8_copies_4 : decode cX8_copies 4 = .ok (.if_icmp .ge 17, 3) := by decide +kernel
theorem dX8_copies_7 : decode cX8_copies 7 = .ok (.aload_n 0, 1) := by decide +kernel
theorem dX8_copies_8 : decode cX8_copies 8 = .ok (.iload_n 2, 1) := by decide +kernel
theorem dX8_copies_9 : decode cX8_copies 9 = .ok (.aload_n 0, 1) := by decide +kernel
theorem dX8_copies_10 : decode cX8_copies 10 = .ok (.iload_n 1, 1) := by decide +kernel
theorem dX8_copies_11 : decode cX8_copies 11 = .ok (.iload_n 2, 1) := by decide +kernel
theorem dX8_copies_12 : decode cX8_copies 12 = .ok (.iadd, 1) := by decide +kernel
theorem dX8_copies_13 : decode cX8_copies 13 = .ok (.iaload, 1) := by decide +kernel
theorem dX8_copies_14 : decode cX8_copies 14 = .ok (.iastore, 1) := by decide +kernel
theorem dX8_copies_15 : decode cX8_copies 15 = .ok (.iinc 2 1, 3) := by decide +kernel
theorem dX8_copies_18 : decode cX8_copies 18 = .ok (.goto (-16), 3) := by decide +kernel
theorem dX8_copies_21 : decode cX8_copies 21 = .ok (.return_, 1) := by decide +kernel
theorem dX8_atFirst_0 : decode cX8_atFirst 0 = .ok (.iconst 0, 1) := by decide +kernel
theorem dX8_atFirst_1 : decode cX8_atFirst 1 = .ok (.istore_n 2, 1) := by decide +kernel
theorem dX8_atFirst_2 : decode cX8_atFirst 2 = .ok (.iload_n 2, 1) := by decide +kernel
theorem dX8_atFirst_3 : decode cX8_atFirst 3 = .ok (.bipush 8, 2) := by decide +kernel
theorem dX8_atFirst_5 : decode cX8_atFirst 5 = .ok (.if_icmp .ge 54, 3) := by decide +kernel
theorem dX8_atFirst_8 : decode cX8_atFirst 8 = .ok (.aload_n 0, 1) := by decide +kernel
theorem dX8_atFirst_9 : decode cX8_atFirst 9 = .ok (.getfield 85, 3) := by decide +kernel
theorem dX8_atFirst_12 : decode cX8_atFirst 12 = .ok (.bipush 8, 2) := by decide +kernel
theorem dX8_atFirst_14 : decode cX8_atFirst 14 = .ok (.iload_n 1, 1) := by decide +kernel
theorem dX8_atFirst_15 : decode cX8_atFirst 15 = .ok (.imul, 1) := by decide +kernel
theorem dX8_atFirst_16 : decode cX8_atFirst 16 = .ok (.iload_n 2, 1) := by decide +kernel
theorem dX8_atFirst_17 : decode cX8_atFirst 17 = .ok (.iadd, 1) := by decide +kernel
theorem dX8_atFirst_18 : decode cX8_atFirst 18 = .ok (.aload_n 0, 1) := by decide +kernel
theorem dX8_atFirst_19 : decode cX8_atFirst 19 = .ok (.getfield 27, 3) := by decide +kernel
theorem dX8_atFirst_22 : decode cX8_atFirst 22 = .ok (.iload_n 2, 1) := by decide +kernel
theorem dX8_atFirst_23 : decode cX8_atFirst 23 = .ok (.iaload, 1) := by decide +kernel
theorem dX8_atFirst_24 : decode cX8_atFirst 24 = .ok (.iastore, 1) := by decide +kernel
theorem dX8_atFirst_25 : decode cX8_atFirst 25 = .ok (.aload_n 0, 1) := by decide +kernel
theorem dX8_atFirst_26 : decode cX8_atFirst 26 = .ok (.getfield 88, 3) := by decide +kernel
theorem dX8_atFirst_29 : decode cX8_atFirst 29 = .ok (.bipush 8, 2) := by decide +kernel
theorem dX8_atFirst_31 : decode cX8_atFirst 31 = .ok (.iload_n 1, 1) := by decide +kernel
theorem dX8_atFirst_32 : decode cX8_atFirst 32 = .ok (.imul, 1) := by decide +kernel
theorem dX8_atFirst_33 : decode cX8_atFirst 33 = .ok (.iload_n 2, 1) := by decide +kernel
theorem dX8_atFirst_34 : decode cX8_atFirst 34 = .ok (.iadd, 1) := by decide +kernel
theorem dX8_atFirst_35 : decode cX8_atFirst 35 = .ok (.aload_n 0, 1) := by decide +kernel
theorem dX8_atFirst_36 : decode cX8_atFirst 36 = .ok (.getfield 246, 3) := by decide +kernel
theorem dX8_atFirst_39 : decode cX8_atFirst 39 = .ok (.ifCond .ne 7, 3) := by decide +kernel
theorem dX8_atFirst_42 : decode cX8_atFirst 42 = .ok (.iconst (-1), 1) := by decide +kernel
theorem dX8_atFirst_43 : decode cX8_atFirst 43 = .ok (.goto 9, 3) := by decide +kernel
theorem dX8_atFirst_46 : decode cX8_atFirst 46 = .ok (.iload_n 2, 1) := by decide +kernel
theorem dX8_atFirst_47 : decode cX8_atFirst 47 = .ok (.aload_n 0, 1) := by decide +kernel
theorem dX8_atFirst_48 : decode cX8_atFirst 48 = .ok (.getfield 246, 3) := by decide +kernel
theorem dX8_atFirst_51 : decode cX8_atFirst 51 = .ok (.irem, 1) := by decide +kernel
theorem dX8_atFirst_52 : decode cX8_atFirst 52 = .ok (.iastore, 1) := by decide +kernel
theorem dX8_atFirst_53 : decode cX8_atFirst 53 = .ok (.iinc 2 1, 3) := by decide +kernel
theorem dX8_atFirst_56 : decode cX8_atFirst 56 = .ok (.goto (-54), 3) := by decide +kernel
theorem dX8_atFirst_59 : decode cX8_atFirst 59 = .ok (.iconst 0, 1) := by decide +kernel
theorem dX8_atFirst_60 : decode cX8_atFirst 60 = .ok (.istore_n 2, 1) := by decide +kernel
theorem dX8_atFirst_61 : decode cX8_atFirst 61 = .ok (.iload_n 2, 1) := by decide +kernel
theorem dX8_atFirst_62 : decode cX8_atFirst 62 = .ok (.iconst 4, 1) := by decide +kernel
theorem dX8_atFirst_63 : decode cX8_atFirst 63 = .ok (.if_icmp .ge 74, 3) := by decide +kernel
theorem dX8_atFirst_66 : decode cX8_atFirst 66 = .ok (.aload_n 0, 1) := by decide +kernel
theorem dX8_atFirst_67 : decode cX8_atFirst 67 = .ok (.getfield 91, 3) := by decide +kernel
theorem dX8_atFirst_70 : decode cX8_atFirst 70 = .ok (.iconst 4, 1) := by decide +kernel
theorem dX8_atFirst_71 : decode cX8_atFirst 71 = .ok (.iload_n 1, 1) := by decide +kernel
theorem dX8_atFirst_72 : decode cX8_atFirst 72 = .ok (.imul, 1) := by decide +kernel
theorem dX8_atFirst_73 : decode cX8_atFirst 73 = .ok (.iload_n 2, 1) := by decide +kernel
theorem dX8_atFirst_74 : decode cX8_atFirst 74 = .ok (.iadd, 1) := by decide +kernel
theorem dX8_atFirst_75 : decode cX8_atFirst 75 = .ok (.aload_n 0, 1) := by decide +kernel
theorem dX8_atFirst_76 : decode cX8_atFirst 76 = .ok (.getfield 33, 3) := by decide +kernel
theorem dX8_atFirst_79 : decode cX8_atFirst 79 = .ok (.iload_n 2, 1) := by decide +kernel
theorem dX8_atFirst_80 : decode cX8_atFirst 80 = .ok (.iaload, 1) := by decide +kernel
theorem dX8_atFirst_81 : decode cX8_atFirst 81 = .ok (.iastore, 1) := by decide +kernel
theorem dX8_atFirst_82 : decode cX8_atFirst 82 = .ok (.aload_n 0, 1) := by decide +kernel
theorem dX8_atFirst_83 : decode cX8_atFirst 83 = .ok (.getfield 94, 3) := by decide +kernel
theorem dX8_atFirst_86 : decode cX8_atFirst 86 = .ok (.iconst 4, 1) := by decide +kernel
theorem dX8_atFirst_87 : decode cX8_atFirst 87 = .ok (.iload_n 1, 1) := by decide +kernel
theorem dX8_atFirst_88 : decode cX8_atFirst 88 = .ok (.imul, 1) := by decide +kernel
theorem dX8_atFirst_89 : decode cX8_atFirst 89 = .ok (.iload_n 2, 1) := by decide +kernel
theorem dX8_atFirst_90 : decode cX8_atFirst 90 = .ok (.iadd, 1) := by decide +kernel
theorem dX8_atFirst_91 : decode cX8_atFirst 91 = .ok (.aload_n 0, 1) := by decide +kernel
theorem dX8_atFirst_92 : decode cX8_atFirst 92 = .ok (.getfield 39, 3) := by decide +kernel
theorem dX8_atFirst_95 : decode cX8_atFirst 95 = .ok (.iload_n 2, 1) := by decide +kernel
theorem dX8_atFirst_96 : decode cX8_atFirst 96 = .ok (.iaload, 1) := by decide +kernel
theorem dX8_atFirst_97 : decode cX8_atFirst 97 = .ok (.iastore, 1) := by decide +kernel
theorem dX8_atFirst_98 : decode cX8_atFirst 98 = .ok (.aload_n 0, 1) := by decide +kernel
theorem dX8_atFirst_99 : decode cX8_atFirst 99 = .ok (.getfield 97, 3) := by decide +kernel
theorem dX8_atFirst_102 : decode cX8_atFirst 102 = .ok (.iconst 4, 1) := by decide +kernel
theorem dX8_atFirst_103 : decode cX8_atFirst 103 = .ok (.iload_n 1, 1) := by decide +kernel
theorem dX8_atFirst_104 : decode cX8_atFirst 104 = .ok (.imul, 1) := by decide +kernel
theorem dX8_atFirst_105 : decode cX8_atFirst 105 = .ok (.iload_n 2, 1) := by decide +kernel
theorem dX8_atFirst_106 : decode cX8_atFirst 106 = .ok (.iadd, 1) := by decide +kernel
theorem dX8_atFirst_107 : decode cX8_atFirst 107 = .ok (.iconst 0, 1) := by decide +kernel
theorem dX8_atFirst_108 : decode cX8_atFirst 108 = .ok (.iastore, 1) := by decide +kernel
theorem dX8_atFirst_109 : decode cX8_atFirst 109 = .ok (.aload_n 0, 1) := by decide +kernel
theorem dX8_atFirst_110 : decode cX8_atFirst 110 = .ok (.getfield 100, 3) := by decide +kernel
theorem dX8_atFirst_113 : decode cX8_atFirst 113 = .ok (.iconst 4, 1) := by decide +kernel
theorem dX8_atFirst_114 : decode cX8_atFirst 114 = .ok (.iload_n 1, 1) := by decide +kernel
theorem dX8_atFirst_115 : decode cX8_atFirst 115 = .ok (.imul, 1) := by decide +kernel
theorem dX8_atFirst_116 : decode cX8_atFirst 116 = .ok (.iload_n 2, 1) := by decide +kernel
theorem dX8_atFirst_117 : decode cX8_atFirst 117 = .ok (.iadd, 1) := by decide +kernel
theorem dX8_atFirst_118 : decode cX8_atFirst 118 = .ok (.iconst 0, 1) := by decide +kernel
theorem dX8_atFirst_119 : decode cX8_atFirst 119 = .ok (.iastore, 1) := by decide +kernel
theorem dX8_atFirst_120 : decode cX8_atFirst 120 = .ok (.aload_n 0, 1) := by decide +kernel
theorem dX8_atFirst_121 : decode cX8_atFirst 121 = .ok (.getfield 103, 3) := by decide +kernel
theorem dX8_atFirst_124 : decode cX8_atFirst 124 = .ok (.iconst 4, 1) := by decide +kernel
theorem dX8_atFirst_125 : decode cX8_atFirst 125 = .ok (.iload_n 1, 1) := by decide +kernel
theorem dX8_atFirst_126 : decode cX8_atFirst 126 = .ok (.imul, 1) := by decide +kernel
theorem dX8_atFirst_127 : decode cX8_atFirst 127 = .ok (.iload_n 2, 1) := by decide +kernel
theorem dX8_atFirst_128 : decode cX8_atFirst 128 = .ok (.iadd, 1) := by decide +kernel
theorem dX8_atFirst_129 : decode cX8_atFirst 129 = .ok (.iconst 0, 1) := by decide +kernel
theorem dX8_atFirst_130 : decode cX8_atFirst 130 = .ok (.iastore, 1) := by decide +kernel
theorem dX8_atFirst_131 : decode cX8_atFirst 131 = .ok (.iinc 2 1, 3) := by decide +kernel
theorem dX8_atFirst_134 : decode cX8_atFirst 134 = .ok (.goto (-73), 3) := by decide +kernel
theorem dX8_atFirst_137 : decode cX8_atFirst 137 = .ok (.iconst 0, 1) := by decide +kernel
theorem dX8_atFirst_138 : decode cX8_atFirst 138 = .ok (.istore_n 2, 1) := by decide +kernel
theorem dX8_atFirst_139 : decode cX8_atFirst 139 = .ok (.iload_n 2, 1) := by decide +kernel
theorem dX8_atFirst_140 : decode cX8_atFirst 140 = .ok (.bipush 6, 2) := by decide +kernel
theorem dX8_atFirst_142 : decode cX8_atFirst 142 = .ok (.if_icmp .ge 21, 3) := by decide +kernel
theorem dX8_atFirst_145 : decode cX8_atFirst 145 = .ok (.aload_n 0, 1) := by decide +kernel
theorem dX8_atFirst_146 : decode cX8_atFirst 146 = .ok (.getfield 106, 3) := by decide +kernel
theorem dX8_atFirst_149 : decode cX8_atFirst 149 = .ok (.bipush 6, 2) := by decide +kernel
theorem dX8_atFirst_151 : decode cX8_atFirst 151 = .ok (.iload_n 1, 1) := by decide +kernel
theorem dX8_atFirst_152 : decode cX8_atFirst 152 = .ok (.imul, 1) := by decide +kernel
theorem dX8_atFirst_153 : decode cX8_atFirst 153 = .ok (.iload_n 2, 1) := by decide +kernel
theorem dX8_atFirst_154 : decode cX8_atFirst 154 = .ok (.iadd, 1) := by decide +kernel
theorem dX8_atFirst_155 : decode cX8_atFirst 155 = .ok (.iconst 0, 1) := by decide +kernel
theorem dX8_atFirst_156 : decode cX8_atFirst 156 = .ok (.iastore, 1) := by decide +kernel
theorem dX8_atFirst_157 : decode cX8_atFirst 157 = .ok (.iinc 2 1, 3) := by decide +kernel
theorem dX8_atFirst_160 : decode cX8_atFirst 160 = .ok (.goto (-21), 3) := by decide +kernel
theorem dX8_atFirst_163 : decode cX8_atFirst 163 = .ok (.aload_n 0, 1) := by decide +kernel
theorem dX8_atFirst_164 : decode cX8_atFirst 164 = .ok (.getfield 109, 3) := by decide +kernel
theorem dX8_atFirst_167 : decode cX8_atFirst 167 = .ok (.iload_n 1, 1) := by decide +kernel
theorem dX8_atFirst_168 : decode cX8_atFirst 168 = .ok (.aload_n 0, 1) := by decide +kernel
theorem dX8_atFirst_169 : decode cX8_atFirst 169 = .ok (.getfield 24, 3) := by decide +kernel
theorem dX8_atFirst_172 : decode cX8_atFirst 172 = .ok (.iconst 0, 1) := by decide +kernel
theorem dX8_atFirst_173 : decode cX8_atFirst 173 = .ok (.iaload, 1) := by decide +kernel
theorem dX8_atFirst_174 : decode cX8_atFirst 174 = .ok (.iastore, 1) := by decide +kernel
theorem dX8_atFirst_175 : decode cX8_atFirst 175 = .ok (.aload_n 0, 1) := by decide +kernel
theorem dX8_atFirst_176 : decode cX8_atFirst 176 = .ok (.getfield 112, 3) := by decide +kernel
theorem dX8_atFirst_179 : decode cX8_atFirst 179 = .ok (.iload_n 1, 1) := by decide +kernel
theorem dX8_atFirst_180 : decode cX8_atFirst 180 = .ok (.iconst 0, 1) := by decide +kernel
theorem dX8_atFirst_181 : decode cX8_atFirst 181 = .ok (.iastore, 1) := by decide +kernel
theorem dX8_atFirst_182 : decode cX8_atFirst 182 = .ok (.aload_n 0, 1) := by decide +kernel
theorem dX8_atFirst_183 : decode cX8_atFirst 183 = .ok (.getfield 115, 3) := by decide +kernel
theorem dX8_atFirst_186 : decode cX8_atFirst 186 = .ok (.iload_n 1, 1) := by decide +kernel
theorem dX8_atFirst_187 : decode cX8_atFirst 187 = .ok (.iconst 0, 1) := by decide +kernel
theorem dX8_atFirst_188 : decode cX8_atFirst 188 = .ok (.iastore, 1) := by decide +kernel
theorem dX8_atFirst_189 : decode cX8_atFirst 189 = .ok (.return_, 1) := by decide +kernel
def f_X8_token_213 (j281 : Hp → Option Hp) (r213 : Hp → Option Hp) (h9 : Hp) : Option Hp :=
  (f_X8_isDigit h9 (gI h9 8 0 7)).bind fun v10 =>
  if (b2i v10) = 0 then
    j281 h9
  else
  jn (fun (v11 : Int32) =>
    lt_ (sI h9 8 0 9 v11) fun h12 =>
    lt_ (sI h12 8 0 7 ((gI h12 8 0 7) + 1)) fun h13 =>
    r213 h13) fun (j261 : Int32 → Option Hp) =>
  if (gI h9 8 0 9) ≤ 99999 then
    grd (inb (gI h9 8 0 7) 700) <|
    j261 (((10 * (gI h9 8 0 9)) + (gA h9 8 0 0 (gI h9 8 0 7).toNatClampNeg)) - 48)
  else
  j261 (gI h9 8 0 9)
def f_X8_token_90 (N : Nat) (j281 : Hp → Option Hp) (r90 : Hp → Option Hp) (h14 : Hp) : Option Hp :=
  (f_X8_isSmall h14 (gI h14 8 0 7)).bind fun v15 =>
  if (b2i v15) = 0 then
    (f_X8_wordAt N h14 (gI h14 8 0 10) (gI h14 8 0 7)).bind fun v16 =>
    lt_ (sI h14 8 0 9 v16) fun h17 =>
    jn (fun (v18 : Int32) =>
      lt_ (sI h17 8 0 8 v18) fun h19 =>
      if ¬ (gI h19 8 0 8) = 2 then
        j281 h19
      else
      (f_X8_packed N h19 (gI h19 8 0 10) (gI h19 8 0 7)).bind fun v20 =>
      lt_ (sI h19 8 0 9 v20) fun h21 =>
      j281 h21) fun (j162 : Int32 → Option Hp) =>
    if (gI h17 8 0 9) < 0 then
      if ((gI h17 8 0 7) - (gI h17 8 0 10)) ≤ 6 then
        j162 2
      else
      j162 6
    else
    j162 1
  else
  lt_ (sI h14 8 0 7 ((gI h14 8 0 7) + 1)) fun h22 =>
  r90 h22
def f_X8_token_0 (N : Nat) (r0 : Hp → Option Hp) (h1 : Hp) : Option Hp :=
  jn (
    lt_ (sI h1 8 0 10 (gI h1 8 0 7)) fun h2 =>
    jn (fun (h3 : Hp) =>
      some h3) fun (j281 : Hp → Option Hp) =>
    if ¬ (gI h2 8 0 7) = (gI h2 8 0 6) then
      (f_X8_isSmall h2 (gI h2 8 0 7)).bind fun v4 =>
      if (b2i v4) = 0 then
        (f_X8_isDigit h2 (gI h2 8 0 7)).bind fun v5 =>
        if (b2i v5) = 0 then
          (f_X8_signToken h2).bind fun h6 =>
          j281 h6
        else
        lt_ (sI h2 8 0 8 3) fun h7 =>
        lt_ (sI h7 8 0 9 0) fun h8 =>
        iter (fun _ => none) (f_X8_token_213 j281) N h8
      else
      iter (fun _ => none) (f_X8_token_90 N j281) N h2
    else
    lt_ (sI h2 8 0 8 0) fun h23 =>
    j281 h23) fun (j52 : Option Hp) =>
  if (gI h1 8 0 6) ≤ (gI h1 8 0 7) then
    j52
  else
  grd (inb (gI h1 8 0 7) 700) <|
  jn (
    lt_ (sI h1 8 0 7 ((gI h1 8 0 7) + 1)) fun h24 =>
    r0 h24) fun (j39 : Option Hp) =>
  if (gA h1 8 0 0 (gI h1 8 0 7).toNatClampNeg) = 10 then
    j39
  else
  grd (inb (gI h1 8 0 7) 700) <|
  if ¬ (gA h1 8 0 0 (gI h1 8 0 7).toNatClampNeg) = 32 then
    j52
  else
  j39
def f_X8_token (N : Nat) (h : Hp) : Option Hp :=
  iter (fun _ => none) (f_X8_token_0 N) N h
abbrev rmX8_token : Room := { frames := 1, cells := 0, slots := 0, locals := 27 }
set_option maxRecDepth 100000 in
set_option maxHeartbeats 4000000 in
theorem w_X8_token (X : Cx) (F : Fx X cX8_token RX8 none rmX8_token) (hA : xA X = Aw (xG X)) (hL : xL X = 1) (N : Nat) (h : Hp) : Wm X (fun _ => none) (fun v => v) (fun _ => True) 0 [(0, .ref (adr (xG X) 8 0 0))] [] h (f_X8_token N h) := by
  have hS : ∀ i : Nat, i < 1 → i < xL X := fun i z => by rw [hL]; exact z
  unfold f_X8_token
  have hl0 : ∀ n : Nat, ∀ h1 : Hp, Wm X (fun _ => none) (fun v => v) (fun _ => True) 0 [(0, .ref (adr (xG X) 8 0 0))] [] h1 (iter (fun _ => none) (f_X8_token_0 N) n h1) := by
    intro n
    induction n with
    | zero => intro h1; exact Wt_none
    | succ n ih =>
      revert ih
      show (∀ h1 : Hp, Wm X (fun _ => none) (fun v => v) (fun _ => True) 0 [(0, .ref (adr (xG X) 8 0 0))] [] h1 (iter (fun _ => none) (f_X8_token_0 N) n h1)) → _
      intro ih0 h1
      show Wm X (fun _ => none) (fun v => v) (fun _ => True) 0 [(0, .ref (adr (xG X) 8 0 0))] [] h1 (f_X8_token_0 N (iter (fun _ => none) (f_X8_token_0 N) n) h1)
      revert ih0
      generalize iter (fun _ => none) (f_X8_token_0 N) n = r0
      intro ih0
      unfold f_X8_token_0
      refine r_aload_n F 0 rfl dX8_token_0 rfl ?_
      refine r_getI F frX8_178 (by decide) dX8_token_1 ?_
      refine r_aload_n F 0 rfl dX8_token_4 rfl ?_
      refine r_getI F frX8_175 (by decide) dX8_token_5 ?_
      refine Wt_jn (fun (j52 : Option Hp) => Wm X (fun _ => none) (fun v => v) (fun _ => True) 52 [(0, .ref (adr (xG X) 8 0 0))] [] h1 (j52)) ?_ fun j52 hj52 => ?_
      · skip
        refine r_aload_n F 0 rfl dX8_token_52 rfl ?_
        refine r_aload_n F 0 rfl dX8_token_53 rfl ?_
        refine r_getI F frX8_178 (by decide) dX8_token_54 ?_
        refine r_putI F frX8_172 (by decide) rfl rfl dX8_token_57 fun h2 => ?_
        refine r_aload_n F 0 rfl dX8_token_60 rfl ?_
        refine r_getI F frX8_178 (by decide) dX8_token_61 ?_
        refine r_aload_n F 0 rfl dX8_token_64 rfl ?_
        refine r_getI F frX8_175 (by decide) dX8_token_65 ?_
        refine Wt_jn (fun (j281 : Hp → Option Hp) => ∀ h3 : Hp, Wm X (fun _ => none) (fun v => v) (fun _ => True) 281 [] [] h3 (j281 h3)) ?_ fun j281 hj281 => ?_
        · intro h3
          exact r_vret F hA rfl rfl trivial dX8_token_281
        refine r_icmpne F (tgt := 79) dX8_token_68 (by decide) ?_ ?_
        · skip
          refine r_aload_n F 0 rfl dX8_token_79 rfl ?_
          refine r_aload_n F 0 rfl dX8_token_80 rfl ?_
          refine r_getI F frX8_178 (by decide) dX8_token_81 ?_
          refine k_zP (run_V F cvX8_184 (by decide) (c_X8_isSmall (xG X) _ h2 (gI h2 8 0 7)) rfl rfl ⟨⟨rfl, rfl⟩, Nat.le_of_ble_eq_true rfl, Nat.le_of_ble_eq_true rfl⟩ (Nat.le_of_ble_eq_true rfl) dX8_token_84) fun v4 _ => ?_
          refine r_ifeq F (tgt := 192) dX8_token_87 (by decide) ?_ ?_
          · skip
            refine r_aload_n F 0 rfl dX8_token_192 rfl ?_
            refine r_aload_n F 0 rfl dX8_token_193 rfl ?_
            refine r_getI F frX8_178 (by decide) dX8_token_194 ?_
            refine k_zP (run_V F cvX8_198 (by decide) (c_X8_isDigit (xG X) _ h2 (gI h2 8 0 7)) rfl rfl ⟨⟨rfl, rfl⟩, Nat.le_of_ble_eq_true rfl, Nat.le_of_ble_eq_true rfl⟩ (Nat.le_of_ble_eq_true rfl) dX8_token_197) fun v5 _ => ?_
            refine r_ifeq F (tgt := 277) dX8_token_200 (by decide) ?_ ?_
            · skip
              refine r_aload_n F 0 rfl dX8_token_277 rfl ?_
              refine k_vH (run_V F cvX8_202 (by decide) (c_X8_signToken (xG X) _ h2) rfl rfl ⟨⟨rfl, rfl⟩, Nat.le_of_ble_eq_true rfl, Nat.le_of_ble_eq_true rfl⟩ (Nat.le_of_ble_eq_true rfl) dX8_token_278) fun h6 => ?_
              exact Wt_pick [] rfl (hj281 h6)
            refine r_aload_n F 0 rfl dX8_token_203 rfl ?_
            refine r_iconst F (v := 3) dX8_token_204 (by decide) ?_
            refine r_putI F frX8_181 (by decide) rfl rfl dX8_token_205 fun h7 => ?_
            refine r_aload_n F 0 rfl dX8_token_208 rfl ?_
            refine r_iconst F (v := 0) dX8_token_209 (by decide) ?_
            refine r_putI F frX8_192 (by decide) rfl rfl dX8_token_210 fun h8 => ?_
            have hl213 : ∀ n : Nat, ∀ h9 : Hp, Wm X (fun _ => none) (fun v => v) (fun _ => True) 213 [(0, .ref (adr (xG X) 8 0 0))] [] h9 (iter (fun _ => none) (f_X8_token_213 j281) n h9) := by
              intro n
              induction n with
              | zero => intro h9; exact Wt_none
              | succ n ih =>
                revert ih
                show (∀ h9 : Hp, Wm X (fun _ => none) (fun v => v) (fun _ => True) 213 [(0, .ref (adr (xG X) 8 0 0))] [] h9 (iter (fun _ => none) (f_X8_token_213 j281) n h9)) → _
                intro ih213 h9
                show Wm X (fun _ => none) (fun v => v) (fun _ => True) 213 [(0, .ref (adr (xG X) 8 0 0))] [] h9 (f_X8_token_213 j281 (iter (fun _ => none) (f_X8_token_213 j281) n) h9)
                revert ih213
                generalize iter (fun _ => none) (f_X8_token_213 j281) n = r213
                intro ih213
                unfold f_X8_token_213
                refine r_aload_n F 0 rfl dX8_token_213 rfl ?_
                refine r_aload_n F 0 rfl dX8_token_214 rfl ?_
                refine r_getI F frX8_178 (by decide) dX8_token_215 ?_
                refine k_zP (run_V F cvX8_198 (by decide) (c_X8_isDigit (xG X) _ h9 (gI h9 8 0 7)) rfl rfl ⟨⟨rfl, rfl⟩, Nat.le_of_ble_eq_true rfl, Nat.le_of_ble_eq_true rfl⟩ (Nat.le_of_ble_eq_true rfl) dX8_token_218) fun v10 _ => ?_
                refine r_ifeq F (tgt := 281) dX8_token_221 (by decide) ?_ ?_
                · skip
                  exact Wt_pick [] rfl (hj281 h9)
                refine r_aload_n F 0 rfl dX8_token_224 rfl ?_
                refine r_aload_n F 0 rfl dX8_token_225 rfl ?_
                refine r_getI F frX8_192 (by decide) dX8_token_226 ?_
                refine r_ldc F wd_1589 dX8_token_229 ?_
                refine Wt_jn (fun (j261 : Int32 → Option Hp) => ∀ v11 : Int32, Wm X (fun _ => none) (fun v => v) (fun _ => True) 261 [(0, .ref (adr (xG X) 8 0 0))] [.int v11, .ref (adr (xG X) 8 0 0)] h9 (j261 v11)) ?_ fun j261 hj261 => ?_
                · intro v11
                  refine r_putI F frX8_192 (by decide) rfl rfl dX8_token_261 fun h12 => ?_
                  refine r_aload_n F 0 rfl dX8_token_264 rfl ?_
                  refine r_dup F rfl dX8_token_265 ?_
                  refine r_getI F frX8_178 (by decide) dX8_token_266 ?_
                  refine r_iconst F (v := 1) dX8_token_269 (by decide) ?_
                  refine r_iadd F dX8_token_270 ?_
                  refine r_putI F frX8_178 (by decide) rfl rfl dX8_token_271 fun h13 => ?_
                  refine r_goto F (tgt := 213) dX8_token_274 (by decide) ?_
                  exact Wt_pick [0] rfl (ih213 h13)
                refine r_icmple F (tgt := 241) dX8_token_231 (by decide) ?_ ?_
                · skip
                  refine r_bipush F (v := 10) dX8_token_241 (by decide) ?_
                  refine r_aload_n F 0 rfl dX8_token_243 rfl ?_
                  refine r_getI F frX8_192 (by decide) dX8_token_244 ?_
                  refine r_imul F dX8_token_247 ?_
                  refine r_aload_n F 0 rfl dX8_token_248 rfl ?_
                  refine r_getA F frX8_7 (by decide) dX8_token_249 ?_
                  refine r_aload_n F 0 rfl dX8_token_252 rfl ?_
                  refine r_getI F frX8_178 (by decide) dX8_token_253 ?_
                  refine r_iaload F (ar_8_0 0 (by decide)) dX8_token_256 ?_
                  refine r_iadd F dX8_token_257 ?_
                  refine r_bipush F (v := 48) dX8_token_258 (by decide) ?_
                  refine r_isub F dX8_token_260 ?_
                  exact Wt_pick [0] rfl (hj261 (((10 * (gI h9 8 0 9)) + (gA h9 8 0 0 (gI h9 8 0 7).toNatClampNeg)) - 48))
                refine r_aload_n F 0 rfl dX8_token_234 rfl ?_
                refine r_getI F frX8_192 (by decide) dX8_token_235 ?_
                refine r_goto F (tgt := 261) dX8_token_238 (by decide) ?_
                exact Wt_pick [0] rfl (hj261 (gI h9 8 0 9))
            exact Wt_pick [0] rfl (hl213 N h8)
          have hl90 : ∀ n : Nat, ∀ h14 : Hp, Wm X (fun _ => none) (fun v => v) (fun _ => True) 90 [(0, .ref (adr (xG X) 8 0 0))] [] h14 (iter (fun _ => none) (f_X8_token_90 N j281) n h14) := by
            intro n
            induction n with
            | zero => intro h14; exact Wt_none
            | succ n ih =>
              revert ih
              show (∀ h14 : Hp, Wm X (fun _ => none) (fun v => v) (fun _ => True) 90 [(0, .ref (adr (xG X) 8 0 0))] [] h14 (iter (fun _ => none) (f_X8_token_90 N j281) n h14)) → _
              intro ih90 h14
              show Wm X (fun _ => none) (fun v => v) (fun _ => True) 90 [(0, .ref (adr (xG X) 8 0 0))] [] h14 (f_X8_token_90 N j281 (iter (fun _ => none) (f_X8_token_90 N j281) n) h14)
              revert ih90
              generalize iter (fun _ => none) (f_X8_token_90 N j281) n = r90
              intro ih90
              unfold f_X8_token_90
              refine r_aload_n F 0 rfl dX8_token_90 rfl ?_
              refine r_aload_n F 0 rfl dX8_token_91 rfl ?_
              refine r_getI F frX8_178 (by decide) dX8_token_92 ?_
              refine k_zP (run_V F cvX8_184 (by decide) (c_X8_isSmall (xG X) _ h14 (gI h14 8 0 7)) rfl rfl ⟨⟨rfl, rfl⟩, Nat.le_of_ble_eq_true rfl, Nat.le_of_ble_eq_true rfl⟩ (Nat.le_of_ble_eq_true rfl) dX8_token_95) fun v15 _ => ?_
              refine r_ifeq F (tgt := 114) dX8_token_98 (by decide) ?_ ?_
              · skip
                refine r_aload_n F 0 rfl dX8_token_114 rfl ?_
                refine r_aload_n F 0 rfl dX8_token_115 rfl ?_
                refine r_aload_n F 0 rfl dX8_token_116 rfl ?_
                refine r_getI F frX8_172 (by decide) dX8_token_117 ?_
                refine r_aload_n F 0 rfl dX8_token_120 rfl ?_
                refine r_getI F frX8_178 (by decide) dX8_token_121 ?_
                refine k_iP (run_V F cvX8_188 (by decide) (c_X8_wordAt (xG X) _ N h14 (gI h14 8 0 10) (gI h14 8 0 7)) rfl rfl ⟨⟨rfl, rfl⟩, Nat.le_of_ble_eq_true rfl, Nat.le_of_ble_eq_true rfl⟩ (Nat.le_of_ble_eq_true rfl) dX8_token_124) fun v16 _ => ?_
                refine r_putI F frX8_192 (by decide) rfl rfl dX8_token_127 fun h17 => ?_
                refine r_aload_n F 0 rfl dX8_token_130 rfl ?_
                refine r_aload_n F 0 rfl dX8_token_131 rfl ?_
                refine r_getI F frX8_192 (by decide) dX8_token_132 ?_
                refine Wt_jn (fun (j162 : Int32 → Option Hp) => ∀ v18 : Int32, Wm X (fun _ => none) (fun v => v) (fun _ => True) 162 [(0, .ref (adr (xG X) 8 0 0))] [.int v18, .ref (adr (xG X) 8 0 0)] h17 (j162 v18)) ?_ fun j162 hj162 => ?_
                · intro v18
                  refine r_putI F frX8_181 (by decide) rfl rfl dX8_token_162 fun h19 => ?_
                  refine r_aload_n F 0 rfl dX8_token_165 rfl ?_
                  refine r_getI F frX8_181 (by decide) dX8_token_166 ?_
                  refine r_iconst F (v := 2) dX8_token_169 (by decide) ?_
                  refine r_icmpne F (tgt := 281) dX8_token_170 (by decide) ?_ ?_
                  · skip
                    exact Wt_pick [] rfl (hj281 h19)
                  refine r_aload_n F 0 rfl dX8_token_173 rfl ?_
                  refine r_aload_n F 0 rfl dX8_token_174 rfl ?_
                  refine r_aload_n F 0 rfl dX8_token_175 rfl ?_
                  refine r_getI F frX8_172 (by decide) dX8_token_176 ?_
                  refine r_aload_n F 0 rfl dX8_token_179 rfl ?_
                  refine r_getI F frX8_178 (by decide) dX8_token_180 ?_
                  refine k_iP (run_V F cvX8_195 (by decide) (c_X8_packed (xG X) _ N h19 (gI h19 8 0 10) (gI h19 8 0 7)) rfl rfl ⟨⟨rfl, rfl⟩, Nat.le_of_ble_eq_true rfl, Nat.le_of_ble_eq_true rfl⟩ (Nat.le_of_ble_eq_true rfl) dX8_token_183) fun v20 _ => ?_
                  refine r_putI F frX8_192 (by decide) rfl rfl dX8_token_186 fun h21 => ?_
                  refine r_goto F (tgt := 281) dX8_token_189 (by decide) ?_
                  exact Wt_pick [] rfl (hj281 h21)
                refine r_iflt F (tgt := 142) dX8_token_135 (by decide) ?_ ?_
                · skip
                  refine r_aload_n F 0 rfl dX8_token_142 rfl ?_
                  refine r_getI F frX8_178 (by decide) dX8_token_143 ?_
                  refine r_aload_n F 0 rfl dX8_token_146 rfl ?_
                  refine r_getI F frX8_172 (by decide) dX8_token_147 ?_
                  refine r_isub F dX8_token_150 ?_
                  refine r_bipush F (v := 6) dX8_token_151 (by decide) ?_
                  refine r_icmple F (tgt := 161) dX8_token_153 (by decide) ?_ ?_
                  · skip
                    refine r_iconst F (v := 2) dX8_token_161 (by decide) ?_
                    exact Wt_pick [0] rfl (hj162 2)
                  refine r_bipush F (v := 6) dX8_token_156 (by decide) ?_
                  refine r_goto F (tgt := 162) dX8_token_158 (by decide) ?_
                  exact Wt_pick [0] rfl (hj162 6)
                refine r_iconst F (v := 1) dX8_token_138 (by decide) ?_
                refine r_goto F (tgt := 162) dX8_token_139 (by decide) ?_
                exact Wt_pick [0] rfl (hj162 1)
              refine r_aload_n F 0 rfl dX8_token_101 rfl ?_
              refine r_dup F rfl dX8_token_102 ?_
              refine r_getI F frX8_178 (by decide) dX8_token_103 ?_
              refine r_iconst F (v := 1) dX8_token_106 (by decide) ?_
              refine r_iadd F dX8_token_107 ?_
              refine r_putI F frX8_178 (by decide) rfl rfl dX8_token_108 fun h22 => ?_
              refine r_goto F (tgt := 90) dX8_token_111 (by decide) ?_
              exact Wt_pick [0] rfl (ih90 h22)
          exact Wt_pick [0] rfl (hl90 N h2)
        refine r_aload_n F 0 rfl dX8_token_71 rfl ?_
        refine r_iconst F (v := 0) dX8_token_72 (by decide) ?_
        refine r_putI F frX8_181 (by decide) rfl rfl dX8_token_73 fun h23 => ?_
        refine r_goto F (tgt := 281) dX8_token_76 (by decide) ?_
        exact Wt_pick [] rfl (hj281 h23)
      refine r_icmpge F (tgt := 52) dX8_token_8 (by decide) ?_ ?_
      · skip
        exact Wt_pick [0] rfl (hj52)
      refine r_aload_n F 0 rfl dX8_token_11 rfl ?_
      refine r_getA F frX8_7 (by decide) dX8_token_12 ?_
      refine r_aload_n F 0 rfl dX8_token_15 rfl ?_
      refine r_getI F frX8_178 (by decide) dX8_token_16 ?_
      refine r_iaload F (ar_8_0 0 (by decide)) dX8_token_19 ?_
      refine r_bipush F (v := 10) dX8_token_20 (by decide) ?_
      refine Wt_jn (fun (j39 : Option Hp) => Wm X (fun _ => none) (fun v => v) (fun _ => True) 39 [(0, .ref (adr (xG X) 8 0 0))] [] h1 (j39)) ?_ fun j39 hj39 => ?_
      · skip
        refine r_aload_n F 0 rfl dX8_token_39 rfl ?_
        refine r_dup F rfl dX8_token_40 ?_
        refine r_getI F frX8_178 (by decide) dX8_token_41 ?_
        refine r_iconst F (v := 1) dX8_token_44 (by decide) ?_
        refine r_iadd F dX8_token_45 ?_
        refine r_putI F frX8_178 (by decide) rfl rfl dX8_token_46 fun h24 => ?_
        refine r_goto F (tgt := 0) dX8_token_49 (by decide) ?_
        exact Wt_pick [0] rfl (ih0 h24)
      refine r_icmpeq F (tgt := 39) dX8_token_22 (by decide) ?_ ?_
      · skip
        exact Wt_pick [0] rfl (hj39)
      refine r_aload_n F 0 rfl dX8_token_25 rfl ?_
      refine r_getA F frX8_7 (by decide) dX8_token_26 ?_
      refine r_aload_n F 0 rfl dX8_token_29 rfl ?_
      refine r_getI F frX8_178 (by decide) dX8_token_30 ?_
      refine r_iaload F (ar_8_0 0 (by decide)) dX8_token_33 ?_
      refine r_bipush F (v := 32) dX8_token_34 (by decide) ?_
      refine r_icmpne F (tgt := 52) dX8_token_36 (by decide) ?_ ?_
      · skip
        exact Wt_pick [0] rfl (hj52)
      exact Wt_pick [0] rfl (hj39)
  exact Wt_pick [0] rfl (hl0 N h)
theorem c_X8_token (G : Gx) (l : Launch) (N : Nat) (h : Hp) : Ctr G l yX8_token (.code yX8_token cX8_token 1 none :: GT) rmX8_token [.ref (adr G 8 0 0)] h (f_X8_token N h) (fun _ => none) (fun v => v) (fun _ => True) :=
  ctr_of (by decide) (Nat.le_of_ble_eq_true rfl) ⟨rfl, rfl⟩ fun X _ e2 hA hL F => by subst e2; exact w_X8_token X F hA hL N h
def f_X8_isKey (h : Hp) (p1 : Int32) : Option Bool :=
  jn (fun (v1 : Bool) =>
    some v1) fun (j21 : Bool → Option Bool) =>
  jn (
    j21 false) fun (j20 : Option Bool) =>
  if ¬ (gI h 8 0 8) = 1 then
    j20
  else
  if ¬ (gI h 8 0 9) = p1 then
    j20
  else
  j21 true
abbrev rmX8_isKey : Room := { frames := 0, cells := 0, slots := 0, locals := 0 }
set_option maxRecDepth 100000 in
set_option maxHeartbeats 4000000 in
theorem w_X8_isKey (X : Cx) (F : Fx X cX8_isKey RX8 (some .boolean) rmX8_isKey) (hA : xA X = Aw (xG X)) (hL : xL X = 2) (h : Hp) (p1 : Int32) : Wm X (fun v => some (.int (b2i v))) (fun _ => h) (fun _ => True) 0 [(0, .ref (adr (xG X) 8 0 0)), (1, .int p1)] [] h (f_X8_isKey h p1) := by
  have hS : ∀ i : Nat, i < 2 → i < xL X := fun i z => by rw [hL]; exact z
  unfold f_X8_isKey
  refine r_aload_n F 0 rfl dX8_isKey_0 rfl ?_
  refine r_getI F frX8_181 (by decide) dX8_isKey_1 ?_
  refine r_iconst F (v := 1) dX8_isKey_4 (by decide) ?_
  refine Wt_jn (fun (j21 : Bool → Option Bool) => ∀ v1 : Bool, Wm X (fun v => some (.int (b2i v))) (fun _ => h) (fun _ => True) 21 [] [.int (b2i v1)] h (j21 v1)) ?_ fun j21 hj21 => ?_
  · intro v1
    exact r_zret F hA v1 rfl rfl rfl trivial dX8_isKey_21
  refine Wt_jn (fun (j20 : Option Bool) => Wm X (fun v => some (.int (b2i v))) (fun _ => h) (fun _ => True) 20 [] [] h (j20)) ?_ fun j20 hj20 => ?_
  · skip
    refine r_iconst F (v := 0) dX8_isKey_20 (by decide) ?_
    exact Wt_pick [] rfl (hj21 false)
  refine r_icmpne F (tgt := 20) dX8_isKey_5 (by decide) ?_ ?_
  · skip
    exact Wt_pick [] rfl (hj20)
  refine r_aload_n F 0 rfl dX8_isKey_8 rfl ?_
  refine r_getI F frX8_192 (by decide) dX8_isKey_9 ?_
  refine r_iload_n F 1 rfl dX8_isKey_12 rfl ?_
  refine r_icmpne F (tgt := 20) dX8_isKey_13 (by decide) ?_ ?_
  · skip
    exact Wt_pick [] rfl (hj20)
  refine r_iconst F (v := 1) dX8_isKey_16 (by decide) ?_
  refine r_goto F (tgt := 21) dX8_isKey_17 (by decide) ?_
  exact Wt_pick [] rfl (hj21 true)
theorem c_X8_isKey (G : Gx) (l : Launch) (h : Hp) (p1 : Int32) : Ctr G l yX8_isKey (.code yX8_isKey cX8_isKey 2 (some .boolean) :: GT) rmX8_isKey [.ref (adr G 8 0 0), .int p1] h (f_X8_isKey h p1) (fun v => some (.int (b2i v))) (fun _ => h) (fun _ => True) :=
  ctr_of (by decide) (Nat.le_of_ble_eq_true rfl) ⟨rfl, rfl⟩ fun X _ e2 hA hL F => by subst e2; exact w_X8_isKey X F hA hL h p1
def f_X8_isSign (h : Hp) (p1 : Int32) : Option Bool :=
  jn (fun (v1 : Bool) =>
    some v1) fun (j21 : Bool → Option Bool) =>
  jn (
    j21 false) fun (j20 : Option Bool) =>
  if ¬ (gI h 8 0 8) = 4 then
    j20
  else
  if ¬ (gI h 8 0 9) = p1 then
    j20
  else
  j21 true
abbrev rmX8_isSign : Room := { frames := 0, cells := 0, slots := 0, locals := 0 }
set_option maxRecDepth 100000 in
set_option maxHeartbeats 4000000 in
theorem w_X8_isSign (X : Cx) (F : Fx X cX8_isSign RX8 (some .boolean) rmX8_isSign) (hA : xA X = Aw (xG X)) (hL : xL X = 2) (h : Hp) (p1 : Int32) : Wm X (fun v => some (.int (b2i v))) (fun _ => h) (fun _ => True) 0 [(0, .ref (adr (xG X) 8 0 0)), (1, .int p1)] [] h (f_X8_isSign h p1) := by
  have hS : ∀ i : Nat, i < 2 → i < xL X := fun i z => by rw [hL]; exact z
  unfold f_X8_isSign
  refine r_aload_n F 0 rfl dX8_isSign_0 rfl ?_
  refine r_getI F frX8_181 (by decide) dX8_isSign_1 ?_
  refine r_iconst F (v := 4) dX8_isSign_4 (by decide) ?_
  refine Wt_jn (fun (j21 : Bool → Option Bool) => ∀ v1 : Bool, Wm X (fun v => some (.int (b2i v))) (fun _ => h) (fun _ => True) 21 [] [.int (b2i v1)] h (j21 v1)) ?_ fun j21 hj21 => ?_
  · intro v1
    exact r_zret F hA v1 rfl rfl rfl trivial dX8_isSign_21
  refine Wt_jn (fun (j20 : Option Bool) => Wm X (fun v => some (.int (b2i v))) (fun _ => h) (fun _ => True) 20 [] [] h (j20)) ?_ fun j20 hj20 => ?_
  · skip
    refine r_iconst F (v := 0) dX8_isSign_20 (by decide) ?_
    exact Wt_pick [] rfl (hj21 false)
  refine r_icmpne F (tgt := 20) dX8_isSign_5 (by decide) ?_ ?_
  · skip
    exact Wt_pick [] rfl (hj20)
  refine r_aload_n F 0 rfl dX8_isSign_8 rfl ?_
  refine r_getI F frX8_192 (by decide) dX8_isSign_9 ?_
  refine r_iload_n F 1 rfl dX8_isSign_12 rfl ?_
  refine r_icmpne F (tgt := 20) dX8_isSign_13 (by decide) ?_ ?_
  · skip
    exact Wt_pick [] rfl (hj20)
  refine r_iconst F (v := 1) dX8_isSign_16 (by decide) ?_
  refine r_goto F (tgt := 21) dX8_isSign_17 (by decide) ?_
  exact Wt_pick [] rfl (hj21 true)
theorem c_X8_isSign (G : Gx) (l : Launch) (h : Hp) (p1 : Int32) : Ctr G l yX8_isSign (.code yX8_isSign cX8_isSign 2 (some .boolean) :: GT) rmX8_isSign [.ref (adr G 8 0 0), .int p1] h (f_X8_isSign h p1) (fun v => some (.int (b2i v))) (fun _ => h) (fun _ => True) :=
  ctr_of (by decide) (Nat.le_of_ble_eq_true rfl) ⟨rfl, rfl⟩ fun X _ e2 hA hL F => by subst e2; exact w_X8_isSign X F hA hL h p1
def f_X8_number (N : Nat) (h : Hp) (p1 : Int32) (p2 : Int32) : Option (Bool × Hp) :=
  if (gI h 8 0 8) = 3 then
    (f_X8_isIn (gI h 8 0 9) p1 p2).bind fun v1 =>
    if ¬ (b2i v1) = 0 then
      lt_ (sI h 8 0 11 (gI h 8 0 9)) fun h2 =>
      (f_X8_token N h2).bind fun h3 =>
      some (true, h3)
    else
    bd2 (f_X8_wrong h 2) fun v5 h4 =>
    some (v5, h4)
  else
  bd2 (f_X8_wrong h 1) fun v7 h6 =>
  some (v7, h6)
abbrev rmX8_number : Room := { frames := 2, cells := 0, slots := 0, locals := 47 }
set_option maxRecDepth 100000 in
set_option maxHeartbeats 4000000 in
theorem w_X8_number (X : Cx) (F : Fx X cX8_number RX8 (some .boolean) rmX8_number) (hA : xA X = Aw (xG X)) (hL : xL X = 3) (N : Nat) (h : Hp) (p1 : Int32) (p2 : Int32) : Wm X (fun v => some (.int (b2i v.1))) (fun v => v.2) (fun _ => True) 0 [(0, .ref (adr (xG X) 8 0 0)), (1, .int p1), (2, .int p2)] [] h (f_X8_number N h p1 p2) := by
  have hS : ∀ i : Nat, i < 3 → i < xL X := fun i z => by rw [hL]; exact z
  unfold f_X8_number
  refine r_aload_n F 0 rfl dX8_number_0 rfl ?_
  refine r_getI F frX8_181 (by decide) dX8_number_1 ?_
  refine r_iconst F (v := 3) dX8_number_4 (by decide) ?_
  refine r_icmpeq F (tgt := 14) dX8_number_5 (by decide) ?_ ?_
  · skip
    refine r_aload_n F 0 rfl dX8_number_14 rfl ?_
    refine r_getI F frX8_192 (by decide) dX8_number_15 ?_
    refine r_iload_n F 1 rfl dX8_number_18 rfl ?_
    refine r_iload_n F 2 rfl dX8_number_19 rfl ?_
    refine k_zP (run_S F csX8_208 (c_X8_isIn (xG X) _ h (gI h 8 0 9) p1 p2) rfl rfl ⟨⟨rfl, rfl⟩, Nat.le_of_ble_eq_true rfl, Nat.le_of_ble_eq_true rfl⟩ (Nat.le_of_ble_eq_true rfl) dX8_number_20) fun v1 _ => ?_
    refine r_ifne F (tgt := 32) dX8_number_23 (by decide) ?_ ?_
    · skip
      refine r_aload_n F 0 rfl dX8_number_32 rfl ?_
      refine r_aload_n F 0 rfl dX8_number_33 rfl ?_
      refine r_getI F frX8_192 (by decide) dX8_number_34 ?_
      refine r_putI F frX8_212 (by decide) rfl rfl dX8_number_37 fun h2 => ?_
      refine r_aload_n F 0 rfl dX8_number_40 rfl ?_
      refine k_vH (run_V F cvX8_215 (by decide) (c_X8_token (xG X) _ N h2) rfl rfl ⟨⟨rfl, rfl⟩, Nat.le_of_ble_eq_true rfl, Nat.le_of_ble_eq_true rfl⟩ (Nat.le_of_ble_eq_true rfl) dX8_number_41) fun h3 => ?_
      refine r_iconst F (v := 1) dX8_number_44 (by decide) ?_
      exact r_zret F hA true rfl rfl rfl trivial dX8_number_45
    refine r_aload_n F 0 rfl dX8_number_26 rfl ?_
    refine r_iconst F (v := 2) dX8_number_27 (by decide) ?_
    refine k_zH (run_V F cvX8_205 (by decide) (c_X8_wrong (xG X) _ h 2) rfl rfl ⟨⟨rfl, rfl⟩, Nat.le_of_ble_eq_true rfl, Nat.le_of_ble_eq_true rfl⟩ (Nat.le_of_ble_eq_true rfl) dX8_number_28) fun v5 h4 => ?_
    exact r_zret F hA v5 rfl rfl rfl trivial dX8_number_31
  refine r_aload_n F 0 rfl dX8_number_8 rfl ?_
  refine r_iconst F (v := 1) dX8_number_9 (by decide) ?_
  refine k_zH (run_V F cvX8_205 (by decide) (c_X8_wrong (xG X) _ h 1) rfl rfl ⟨⟨rfl, rfl⟩, Nat.le_of_ble_eq_true rfl, Nat.le_of_ble_eq_true rfl⟩ (Nat.le_of_ble_eq_true rfl) dX8_number_10) fun v7 h6 => ?_
  exact r_zret F hA v7 rfl rfl rfl trivial dX8_number_13
theorem c_X8_number (G : Gx) (l : Launch) (N : Nat) (h : Hp) (p1 : Int32) (p2 : Int32) : Ctr G l yX8_number (.code yX8_number cX8_number 3 (some .boolean) :: GT) rmX8_number [.ref (adr G 8 0 0), .int p1, .int p2] h (f_X8_number N h p1 p2) (fun v => some (.int (b2i v.1))) (fun v => v.2) (fun _ => True) :=
  ctr_of (by decide) (Nat.le_of_ble_eq_true rfl) ⟨rfl, rfl⟩ fun X _ e2 hA hL F => by subst e2; exact w_X8_number X F hA hL N h p1 p2
def f_X8_plain_73 (r73 : Int32 → Hp → Option Hp) (v11 : Int32) (h12 : Hp) : Option Hp :=
  if 8 ≤ v11 then
    some h12
  else
  grd (inb v11 8) <| lt_ (sY h12 8 0 13 v11.toNatClampNeg false) fun h13 =>
  lt_ (v11 + 1) fun v14 =>
  r73 v14 h13
def f_X8_plain_52 (N : Nat) (r52 : Int32 → Hp → Option Hp) (v9 : Int32) (h10 : Hp) : Option Hp :=
  if 10 ≤ v9 then
    iter (fun _ _ => none) f_X8_plain_73 N 4 h10
  else
  grd (inb v9 10) <| lt_ (sA h10 8 0 3 v9.toNatClampNeg 0) fun h15 =>
  lt_ (v9 + 1) fun v16 =>
  r52 v16 h15
def f_X8_plain_32 (N : Nat) (r32 : Int32 → Hp → Option Hp) (v7 : Int32) (h8 : Hp) : Option Hp :=
  if 4 ≤ v7 then
    iter (fun _ _ => none) (f_X8_plain_52 N) N 5 h8
  else
  grd (inb v7 4) <| lt_ (sY h8 8 0 2 v7.toNatClampNeg false) fun h17 =>
  lt_ (v7 + 1) fun v18 =>
  r32 v18 h17
def f_X8_plain (N : Nat) (h : Hp) : Option Hp :=
  lt_ (sI h 8 0 17 0) fun h1 =>
  lt_ (sI h1 8 0 18 0) fun h2 =>
  lt_ (sI h2 8 0 19 0) fun h3 =>
  lt_ (sI h3 8 0 20 0) fun h4 =>
  lt_ (sI h4 8 0 21 0) fun h5 =>
  lt_ (sI h5 8 0 44 0) fun h6 =>
  iter (fun _ _ => none) (f_X8_plain_32 N) N 0 h6
abbrev rmX8_plain : Room := { frames := 0, cells := 0, slots := 0, locals := 0 }
set_option maxRecDepth 100000 in
set_option maxHeartbeats 4000000 in
theorem w_X8_plain (X : Cx) (F : Fx X cX8_plain RX8 none rmX8_plain) (hA : xA X = Aw (xG X)) (hL : xL X = 2) (N : Nat) (h : Hp) : Wm X (fun _ => none) (fun v => v) (fun _ => True) 0 [(0, .ref (adr (xG X) 8 0 0))] [] h (f_X8_plain N h) := by
  have hS : ∀ i : Nat, i < 2 → i < xL X := fun i z => by rw [hL]; exact z
  unfold f_X8_plain
  refine r_aload_n F 0 rfl dX8_plain_0 rfl ?_
  refine r_iconst F (v := 0) dX8_plain_1 (by decide) ?_
  refine r_putI F frX8_225 (by decide) rfl rfl dX8_plain_2 fun h1 => ?_
  refine r_aload_n F 0 rfl dX8_plain_5 rfl ?_
  refine r_iconst F (v := 0) dX8_plain_6 (by decide) ?_
  refine r_putI F frX8_228 (by decide) rfl rfl dX8_plain_7 fun h2 => ?_
  refine r_aload_n F 0 rfl dX8_plain_10 rfl ?_
  refine r_iconst F (v := 0) dX8_plain_11 (by decide) ?_
  refine r_putI F frX8_231 (by decide) rfl rfl dX8_plain_12 fun h3 => ?_
  refine r_aload_n F 0 rfl dX8_plain_15 rfl ?_
  refine r_iconst F (v := 0) dX8_plain_16 (by decide) ?_
  refine r_putI F frX8_234 (by decide) rfl rfl dX8_plain_17 fun h4 => ?_
  refine r_aload_n F 0 rfl dX8_plain_20 rfl ?_
  refine r_iconst F (v := 0) dX8_plain_21 (by decide) ?_
  refine r_putI F frX8_237 (by decide) rfl rfl dX8_plain_22 fun h5 => ?_
  refine r_aload_n F 0 rfl dX8_plain_25 rfl ?_
  refine r_iconst F (v := 0) dX8_plain_26 (by decide) ?_
  refine r_putI F frX8_240 (by decide) rfl rfl dX8_plain_27 fun h6 => ?_
  refine r_iconst F (v := 0) dX8_plain_30 (by decide) ?_
  refine r_istore_n F [(1, .int 0), (0, .ref (adr (xG X) 8 0 0))] rfl dX8_plain_31 rfl (hS _ (by decide)) ?_
  have hl32 : ∀ n : Nat, ∀ v7 : Int32, ∀ h8 : Hp, Wm X (fun _ => none) (fun v => v) (fun _ => True) 32 [(0, .ref (adr (xG X) 8 0 0)), (1, .int v7)] [] h8 (iter (fun _ _ => none) (f_X8_plain_32 N) n v7 h8) := by
    intro n
    induction n with
    | zero => intro v7 h8; exact Wt_none
    | succ n ih =>
      revert ih
      show (∀ v7 : Int32, ∀ h8 : Hp, Wm X (fun _ => none) (fun v => v) (fun _ => True) 32 [(0, .ref (adr (xG X) 8 0 0)), (1, .int v7)] [] h8 (iter (fun _ _ => none) (f_X8_plain_32 N) n v7 h8)) → _
      intro ih32 v7 h8
      show Wm X (fun _ => none) (fun v => v) (fun _ => True) 32 [(0, .ref (adr (xG X) 8 0 0)), (1, .int v7)] [] h8 (f_X8_plain_32 N (iter (fun _ _ => none) (f_X8_plain_32 N) n) v7 h8)
      revert ih32
      generalize iter (fun _ _ => none) (f_X8_plain_32 N) n = r32
      intro ih32
      unfold f_X8_plain_32
      refine r_iload_n F 1 rfl dX8_plain_32 rfl ?_
      refine r_iconst F (v := 4) dX8_plain_33 (by decide) ?_
      refine r_icmpge F (tgt := 50) dX8_plain_34 (by decide) ?_ ?_
      · skip
        refine r_iconst F (v := 5) dX8_plain_50 (by decide) ?_
        refine r_istore_n F [(1, .int 5), (0, .ref (adr (xG X) 8 0 0))] rfl dX8_plain_51 rfl (hS _ (by decide)) ?_
        have hl52 : ∀ n : Nat, ∀ v9 : Int32, ∀ h10 : Hp, Wm X (fun _ => none) (fun v => v) (fun _ => True) 52 [(0, .ref (adr (xG X) 8 0 0)), (1, .int v9)] [] h10 (iter (fun _ _ => none) (f_X8_plain_52 N) n v9 h10) := by
          intro n
          induction n with
          | zero => intro v9 h10; exact Wt_none
          | succ n ih =>
            revert ih
            show (∀ v9 : Int32, ∀ h10 : Hp, Wm X (fun _ => none) (fun v => v) (fun _ => True) 52 [(0, .ref (adr (xG X) 8 0 0)), (1, .int v9)] [] h10 (iter (fun _ _ => none) (f_X8_plain_52 N) n v9 h10)) → _
            intro ih52 v9 h10
            show Wm X (fun _ => none) (fun v => v) (fun _ => True) 52 [(0, .ref (adr (xG X) 8 0 0)), (1, .int v9)] [] h10 (f_X8_plain_52 N (iter (fun _ _ => none) (f_X8_plain_52 N) n) v9 h10)
            revert ih52
            generalize iter (fun _ _ => none) (f_X8_plain_52 N) n = r52
            intro ih52
            unfold f_X8_plain_52
            refine r_iload_n F 1 rfl dX8_plain_52 rfl ?_
            refine r_bipush F (v := 10) dX8_plain_53 (by decide) ?_
            refine r_icmpge F (tgt := 71) dX8_plain_55 (by decide) ?_ ?_
            · skip
              refine r_iconst F (v := 4) dX8_plain_71 (by decide) ?_
              refine r_istore_n F [(1, .int 4), (0, .ref (adr (xG X) 8 0 0))] rfl dX8_plain_72 rfl (hS _ (by decide)) ?_
              have hl73 : ∀ n : Nat, ∀ v11 : Int32, ∀ h12 : Hp, Wm X (fun _ => none) (fun v => v) (fun _ => True) 73 [(0, .ref (adr (xG X) 8 0 0)), (1, .int v11)] [] h12 (iter (fun _ _ => none) f_X8_plain_73 n v11 h12) := by
                intro n
                induction n with
                | zero => intro v11 h12; exact Wt_none
                | succ n ih =>
                  revert ih
                  show (∀ v11 : Int32, ∀ h12 : Hp, Wm X (fun _ => none) (fun v => v) (fun _ => True) 73 [(0, .ref (adr (xG X) 8 0 0)), (1, .int v11)] [] h12 (iter (fun _ _ => none) f_X8_plain_73 n v11 h12)) → _
                  intro ih73 v11 h12
                  show Wm X (fun _ => none) (fun v => v) (fun _ => True) 73 [(0, .ref (adr (xG X) 8 0 0)), (1, .int v11)] [] h12 (f_X8_plain_73 (iter (fun _ _ => none) f_X8_plain_73 n) v11 h12)
                  revert ih73
                  generalize iter (fun _ _ => none) f_X8_plain_73 n = r73
                  intro ih73
                  unfold f_X8_plain_73
                  refine r_iload_n F 1 rfl dX8_plain_73 rfl ?_
                  refine r_bipush F (v := 8) dX8_plain_74 (by decide) ?_
                  refine r_icmpge F (tgt := 92) dX8_plain_76 (by decide) ?_ ?_
                  · skip
                    exact r_vret F hA rfl rfl trivial dX8_plain_92
                  refine r_aload_n F 0 rfl dX8_plain_79 rfl ?_
                  refine r_getA F frX8_54 (by decide) dX8_plain_80 ?_
                  refine r_iload_n F 1 rfl dX8_plain_83 rfl ?_
                  refine r_iconst F (v := 0) dX8_plain_84 (by decide) ?_
                  refine r_bastore F false rfl (ar_8_13 0 (by decide)) dX8_plain_85 fun h13 => ?_
                  refine r_iinc F (v := 1) 1 rfl (by decide) (fun v14 => [(1, .int v14), (0, .ref (adr (xG X) 8 0 0))]) (fun _ => rfl) dX8_plain_86 (hS _ (by decide)) fun v14 => ?_
                  refine r_goto F (tgt := 73) dX8_plain_89 (by decide) ?_
                  exact Wt_pick [1, 0] rfl (ih73 v14 h13)
              exact Wt_pick [1, 0] rfl (hl73 N 4 h10)
            refine r_aload_n F 0 rfl dX8_plain_58 rfl ?_
            refine r_getA F frX8_24 (by decide) dX8_plain_59 ?_
            refine r_iload_n F 1 rfl dX8_plain_62 rfl ?_
            refine r_iconst F (v := 0) dX8_plain_63 (by decide) ?_
            refine r_iastore F (ar_8_3 0 (by decide)) dX8_plain_64 fun h15 => ?_
            refine r_iinc F (v := 1) 1 rfl (by decide) (fun v16 => [(1, .int v16), (0, .ref (adr (xG X) 8 0 0))]) (fun _ => rfl) dX8_plain_65 (hS _ (by decide)) fun v16 => ?_
            refine r_goto F (tgt := 52) dX8_plain_68 (by decide) ?_
            exact Wt_pick [1, 0] rfl (ih52 v16 h15)
        exact Wt_pick [1, 0] rfl (hl52 N 5 h8)
      refine r_aload_n F 0 rfl dX8_plain_37 rfl ?_
      refine r_getA F frX8_20 (by decide) dX8_plain_38 ?_
      refine r_iload_n F 1 rfl dX8_plain_41 rfl ?_
      refine r_iconst F (v := 0) dX8_plain_42 (by decide) ?_
      refine r_bastore F false rfl (ar_8_2 0 (by decide)) dX8_plain_43 fun h17 => ?_
      refine r_iinc F (v := 1) 1 rfl (by decide) (fun v18 => [(1, .int v18), (0, .ref (adr (xG X) 8 0 0))]) (fun _ => rfl) dX8_plain_44 (hS _ (by decide)) fun v18 => ?_
      refine r_goto F (tgt := 32) dX8_plain_47 (by decide) ?_
      exact Wt_pick [1, 0] rfl (ih32 v18 h17)
  exact Wt_pick [1, 0] rfl (hl32 N 0 h6)
theorem c_X8_plain (G : Gx) (l : Launch) (N : Nat) (h : Hp) : Ctr G l yX8_plain (.code yX8_plain cX8_plain 2 none :: GT) rmX8_plain [.ref (adr G 8 0 0)] h (f_X8_plain N h) (fun _ => none) (fun v => v) (fun _ => True) :=
  ctr_of (by decide) (Nat.le_of_ble_eq_true rfl) ⟨rfl, rfl⟩ fun X _ e2 hA hL F => by subst e2; exact w_X8_plain X F hA hL N h
def f_X8_copies_2 (p0c : Nat) (p0o : Nat) (p0a : Nat) (p1 : Int32) (r2 : Int32 → Hp → Option Hp) (v1 : Int32) (h2 : Hp) : Option Hp :=
  if p1 ≤ v1 then
    some h2
  else
  grd (inb (p1 + v1) (ak p0c p0a).2) <|
  grd (inb v1 (ak p0c p0a).2) <| lt_ (sA h2 p0c p0o p0a v1.toNatClampNeg (gA h2 p0c p0o p0a (p1 + v1).toNatClampNeg)) fun h3 =>
  lt_ (v1 + 1) fun v4 =>
  r2 v4 h3
def f_X8_copies (N : Nat) (h : Hp) (p0c p0o p0a : Nat) (p1 : Int32) : Option Hp :=
  iter (fun _ _ => none) (f_X8_copies_2 p0c p0o p0a p1) N 0 h
abbrev rmX8_copies : Room := { frames := 0, cells := 0, slots := 0, locals := 0 }
set_option maxRecDepth 100000 in
set_option maxHeartbeats 4000000 in
theorem w_X8_copies (X : Cx) (F : Fx X cX8_copies RX8 none rmX8_copies) (hA : xA X = Aw (xG X)) (hL : xL X = 3) (N : Nat) (h : Hp) (p0c p0o p0a : Nat) (h_p0 : AR p0c p0o p0a 0 (ak p0c p0a).2) (p1 : Int32) : Wm X (fun _ => none) (fun v => v) (fun _ => True) 0 [(0, .ref (adr (xG X) p0c p0o (p0a + 1))), (1, .int p1)] [] h (f_X8_copies N h p0c p0o p0a p1) := by
  have hS : ∀ i : Nat, i < 3 → i < xL X := fun i z => by rw [hL]; exact z
  unfold f_X8_copies
  refine r_iconst F (v := 0) dX8_copies_0 (by decide) ?_
  refine r_istore_n F [(2, .int 0), (0, .ref (adr (xG X) p0c p0o (p0a + 1))), (1, .int p1)] rfl dX8_copies_1 rfl (hS _ (by decide)) ?_
  have hl2 : ∀ n : Nat, ∀ v1 : Int32, ∀ h2 : Hp, Wm X (fun _ => none) (fun v => v) (fun _ => True) 2 [(0, .ref (adr (xG X) p0c p0o (p0a + 1))), (1, .int p1), (2, .int v1)] [] h2 (iter (fun _ _ => none) (f_X8_copies_2 p0c p0o p0a p1) n v1 h2) := by
    intro n
    induction n with
    | zero => intro v1 h2; exact Wt_none
    | succ n ih =>
      revert ih
      show (∀ v1 : Int32, ∀ h2 : Hp, Wm X (fun _ => none) (fun v => v) (fun _ => True) 2 [(0, .ref (adr (xG X) p0c p0o (p0a + 1))), (1, .int p1), (2, .int v1)] [] h2 (iter (fun _ _ => none) (f_X8_copies_2 p0c p0o p0a p1) n v1 h2)) → _
      intro ih2 v1 h2
      show Wm X (fun _ => none) (fun v => v) (fun _ => True) 2 [(0, .ref (adr (xG X) p0c p0o (p0a + 1))), (1, .int p1), (2, .int v1)] [] h2 (f_X8_copies_2 p0c p0o p0a p1 (iter (fun _ _ => none) (f_X8_copies_2 p0c p0o p0a p1) n) v1 h2)
      revert ih2
      generalize iter (fun _ _ => none) (f_X8_copies_2 p0c p0o p0a p1) n = r2
      intro ih2
      unfold f_X8_copies_2
      refine r_iload_n F 2 rfl dX8_copies_2 rfl ?_
      refine r_iload_n F 1 rfl dX8_copies_3 rfl ?_
      refine r_icmpge F (tgt := 21) dX8_copies_4 (by decide) ?_ ?_
      · skip
        exact r_vret F hA rfl rfl trivial dX8_copies_21
      refine r_aload_n F 0 rfl dX8_copies_7 rfl ?_
      refine r_iload_n F 2 rfl dX8_copies_8 rfl ?_
      refine r_aload_n F 0 rfl dX8_copies_9 rfl ?_
      refine r_iload_n F 1 rfl dX8_copies_10 rfl ?_
      refine r_iload_n F 2 rfl dX8_copies_11 rfl ?_
      refine r_iadd F dX8_copies_12 ?_
      refine r_iaload F h_p0 dX8_copies_13 ?_
      refine r_iastore F h_p0 dX8_copies_14 fun h3 => ?_
      refine r_iinc F (v := 1) 2 rfl (by decide) (fun v4 => [(2, .int v4), (0, .ref (adr (xG X) p0c p0o (p0a + 1))), (1, .int p1)]) (fun _ => rfl) dX8_copies_15 (hS _ (by decide)) fun v4 => ?_
      refine r_goto F (tgt := 2) dX8_copies_18 (by decide) ?_
      exact Wt_pick [1, 2, 0] rfl (ih2 v4 h3)
  exact Wt_pick [1, 2, 0] rfl (hl2 N 0 h)
theorem c_X8_copies (G : Gx) (l : Launch) (N : Nat) (h : Hp) (p0c p0o p0a : Nat) (h_p0 : AR p0c p0o p0a 0 (ak p0c p0a).2) (p1 : Int32) : Ctr G l yX8_copies (.code yX8_copies cX8_copies 3 none :: GT) rmX8_copies [.ref (adr G p0c p0o (p0a + 1)), .int p1] h (f_X8_copies N h p0c p0o p0a p1) (fun _ => none) (fun v => v) (fun _ => True) :=
  ctr_of (by decide) (Nat.le_of_ble_eq_true rfl) ⟨rfl, rfl⟩ fun X _ e2 hA hL F => by subst e2; exact w_X8_copies X F hA hL N h p0c p0o p0a h_p0 p1
def f_X8_atFirst_139 (p1 : Int32) (r139 : Int32 → Hp → Option Hp) (v5 : Int32) (h6 : Hp) : Option Hp :=
  if 6 ≤ v5 then
    grd (inb 0 10) <|
    grd (inb p1 2) <| lt_ (sA h6 8 0 31 p1.toNatClampNeg (gA h6 8 0 3 (0 : Int32).toNatClampNeg)) fun h7 =>
    grd (inb p1 2) <| lt_ (sA h7 8 0 32 p1.toNatClampNeg 0) fun h8 =>
    grd (inb p1 2) <| lt_ (sA h8 8 0 33 p1.toNatClampNeg 0) fun h9 =>
    some h9
  else
  grd (inb ((6 * p1) + v5) 12) <| lt_ (sA h6 8 0 30 ((6 * p1) + v5).toNatClampNeg 0) fun h10 =>
  lt_ (v5 + 1) fun v11 =>
  r139 v11 h10
def f_X8_atFirst_61 (N : Nat) (p1 : Int32) (r61 : Int32 → Hp → Option Hp) (v3 : Int32) (h4 : Hp) : Option Hp :=
  if 4 ≤ v3 then
    iter (fun _ _ => none) (f_X8_atFirst_139 p1) N 0 h4
  else
  grd (inb v3 8) <|
  grd (inb ((4 * p1) + v3) 8) <| lt_ (sA h4 8 0 25 ((4 * p1) + v3).toNatClampNeg (gA h4 8 0 6 v3.toNatClampNeg)) fun h12 =>
  grd (inb v3 8) <|
  grd (inb ((4 * p1) + v3) 8) <| lt_ (sA h12 8 0 26 ((4 * p1) + v3).toNatClampNeg (gA h12 8 0 8 v3.toNatClampNeg)) fun h13 =>
  grd (inb ((4 * p1) + v3) 8) <| lt_ (sA h13 8 0 27 ((4 * p1) + v3).toNatClampNeg 0) fun h14 =>
  grd (inb ((4 * p1) + v3) 8) <| lt_ (sA h14 8 0 28 ((4 * p1) + v3).toNatClampNeg 0) fun h15 =>
  grd (inb ((4 * p1) + v3) 8) <| lt_ (sA h15 8 0 29 ((4 * p1) + v3).toNatClampNeg 0) fun h16 =>
  lt_ (v3 + 1) fun v17 =>
  r61 v17 h16
def f_X8_atFirst_2 (N : Nat) (p1 : Int32) (r2 : Int32 → Hp → Option Hp) (v1 : Int32) (h2 : Hp) : Option Hp :=
  if 8 ≤ v1 then
    iter (fun _ _ => none) (f_X8_atFirst_61 N p1) N 0 h2
  else
  grd (inb v1 16) <|
  grd (inb ((8 * p1) + v1) 16) <| lt_ (sA h2 8 0 23 ((8 * p1) + v1).toNatClampNeg (gA h2 8 0 4 v1.toNatClampNeg)) fun h18 =>
  jn (fun (v19 : Int32) =>
    grd (inb ((8 * p1) + v1) 16) <| lt_ (sA h18 8 0 24 ((8 * p1) + v1).toNatClampNeg v19) fun h20 =>
    lt_ (v1 + 1) fun v21 =>
    r2 v21 h20) fun (j52 : Int32 → Option Hp) =>
  if ¬ (gI h18 8 0 13) = 0 then
    grd (¬ (gI h18 8 0 13) = 0) <|
    j52 (v1 - v1 / (gI h18 8 0 13) * (gI h18 8 0 13))
  else
  j52 (-1)
def f_X8_atFirst (N : Nat) (h : Hp) (p1 : Int32) : Option Hp :=
  iter (fun _ _ => none) (f_X8_atFirst_2 N p1) N 0 h
abbrev rmX8_atFirst : Room := { frames := 0, cells := 0, slots := 0, locals := 0 }
set_option maxRecDepth 100000 in
set_option maxHeartbeats 4000000 in
theorem w_X8_atFirst (X : Cx) (F : Fx X cX8_atFirst RX8 none rmX8_atFirst) (hA : xA X = Aw (xG X)) (hL : xL X = 3) (N : Nat) (h : Hp) (p1 : Int32) : Wm X (fun _ => none) (fun v => v) (fun _ => True) 0 [(0, .ref (adr (xG X) 8 0 0)), (1, .int p1)] [] h (f_X8_atFirst N h p1) := by
  have hS : ∀ i : Nat, i < 3 → i < xL X := fun i z => by rw [hL]; exact z
  unfold f_X8_atFirst
  refine r_iconst F (v := 0) dX8_atFirst_0 (by decide) ?_
  refine r_istore_n F [(2, .int 0), (0, .ref (adr (xG X) 8 0 0)), (1, .int p1)] rfl dX8_atFirst_1 rfl (hS _ (by decide)) ?_
  have hl2 : ∀ n : Nat, ∀ v1 : Int32, ∀ h2 : Hp, Wm X (fun _ => none) (fun v => v) (fun _ => True) 2 [(0, .ref (adr (xG X) 8 0 0)), (1, .int p1), (2, .int v1)] [] h2 (iter (fun _ _ => none) (f_X8_atFirst_2 N p1) n v1 h2) := by
    intro n
    induction n with
    | zero => intro v1 h2; exact Wt_none
    | succ n ih =>
      revert ih
      show (∀ v1 : Int32, ∀ h2 : Hp, Wm X (fun _ => none) (fun v => v) (fun _ => True) 2 [(0, .ref (adr (xG X) 8 0 0)), (1, .int p1), (2, .int v1)] [] h2 (iter (fun _ _ => none) (f_X8_atFirst_2 N p1) n v1 h2)) → _
      intro ih2 v1 h2
      show Wm X (fun _ => none) (fun v => v) (fun _ => True) 2 [(0, .ref (adr (xG X) 8 0 0)), (1, .int p1), (2, .int v1)] [] h2 (f_X8_atFirst_2 N p1 (iter (fun _ _ => none) (f_X8_atFirst_2 N p1) n) v1 h2)
      revert ih2
      generalize iter (fun _ _ => none) (f_X8_atFirst_2 N p1) n = r2
      intro ih2
      unfold f_X8_atFirst_2
      refine r_iload_n F 2 rfl dX8_atFirst_2 rfl ?_
      refine r_bipush F (v := 8) dX8_atFirst_3 (by decide) ?_
      refine r_icmpge F (tgt := 59) dX8_atFirst_5 (by decide) ?_ ?_
      · skip
        refine r_iconst F (v := 0) dX8_atFirst_59 (by decide) ?_
        refine r_istore_n F [(2, .int 0), (0, .ref (adr (xG X) 8 0 0)), (1, .int p1)] rfl dX8_atFirst_60 rfl (hS _ (by decide)) ?_
        have hl61 : ∀ n : Nat, ∀ v3 : Int32, ∀ h4 : Hp, Wm X (fun _ => none) (fun v => v) (fun _ => True) 61 [(0, .ref (adr (xG X) 8 0 0)), (1, .int p1), (2, .int v3)] [] h4 (iter (fun _ _ => none) (f_X8_atFirst_61 N p1) n v3 h4) := by
          intro n
          induction n with
          | zero => intro v3 h4; exact Wt_none
          | succ n ih =>
            revert ih
            show (∀ v3 : Int32, ∀ h4 : Hp, Wm X (fun _ => none) (fun v => v) (fun _ => True) 61 [(0, .ref (adr (xG X) 8 0 0)), (1, .int p1), (2, .int v3)] [] h4 (iter (fun _ _ => none) (f_X8_atFirst_61 N p1) n v3 h4)) → _
            intro ih61 v3 h4
            show Wm X (fun _ => none) (fun v => v) (fun _ => True) 61 [(0, .ref (adr (xG X) 8 0 0)), (1, .int p1), (2, .int v3)] [] h4 (f_X8_atFirst_61 N p1 (iter (fun _ _ => none) (f_X8_atFirst_61 N p1) n) v3 h4)
            revert ih61
            generalize iter (fun _ _ => none) (f_X8_atFirst_61 N p1) n = r61
            intro ih61
            unfold f_X8_atFirst_61
            refine r_iload_n F 2 rfl dX8_atFirst_61 rfl ?_
            refine r_iconst F (v := 4) dX8_atFirst_62 (by decide) ?_
            refine r_icmpge F (tgt := 137) dX8_atFirst_63 (by decide) ?_ ?_
            · skip
              refine r_iconst F (v := 0) dX8_atFirst_137 (by decide) ?_
              refine r_istore_n F [(2, .int 0), (0, .ref (adr (xG X) 8 0 0)), (1, .int p1)] rfl dX8_atFirst_138 rfl (hS _ (by decide)) ?_
              have hl139 : ∀ n : Nat, ∀ v5 : Int32, ∀ h6 : Hp, Wm X (fun _ => none) (fun v => v) (fun _ => True) 139 [(0, .ref (adr (xG X) 8 0 0)), (1, .int p1), (2, .int v5)] [] h6 (iter (fun _ _ => none) (f_X8_atFirst_139 p1) n v5 h6) := by
                intro n
                induction n with
                | zero => intro v5 h6; exact Wt_none
                | succ n ih =>
                  revert ih
                  show (∀ v5 : Int32, ∀ h6 : Hp, Wm X (fun _ => none) (fun v => v) (fun _ => True) 139 [(0, .ref (adr (xG X) 8 0 0)), (1, .int p1), (2, .int v5)] [] h6 (iter (fun _ _ => none) (f_X8_atFirst_139 p1) n v5 h6)) → _
                  intro ih139 v5 h6
                  show Wm X (fun _ => none) (fun v => v) (fun _ => True) 139 [(0, .ref (adr (xG X) 8 0 0)), (1, .int p1), (2, .int v5)] [] h6 (f_X8_atFirst_139 p1 (iter (fun _ _ => none) (f_X8_atFirst_139 p1) n) v5 h6)
                  revert ih139
                  generalize iter (fun _ _ => none) (f_X8_atFirst_139 p1) n = r139
                  intro ih139
                  unfold f_X8_atFirst_139
                  refine r_iload_n F 2 rfl dX8_atFirst_139 rfl ?_
                  refine r_bipush F (v := 6) dX8_atFirst_140 (by decide) ?_
                  refine r_icmpge F (tgt := 163) dX8_atFirst_142 (by decide) ?_ ?_
                  · skip
                    refine r_aload_n F 0 rfl dX8_atFirst_163 rfl ?_
                    refine r_getA F frX8_109 (by decide) dX8_atFirst_164 ?_
                    refine r_iload_n F 1 rfl dX8_atFirst_167 rfl ?_
                    refine r_aload_n F 0 rfl dX8_atFirst_168 rfl ?_
                    refine r_getA F frX8_24 (by decide) dX8_atFirst_169 ?_
                    refine r_iconst F (v := 0) dX8_atFirst_172 (by decide) ?_
                    refine r_iaload F (ar_8_3 0 (by decide)) dX8_atFirst_173 ?_
                    refine r_iastore F (ar_8_31 0 (by decide)) dX8_atFirst_174 fun h7 => ?_
                    refine r_aload_n F 0 rfl dX8_atFirst_175 rfl ?_
                    refine r_getA F frX8_112 (by decide) dX8_atFirst_176 ?_
                    refine r_iload_n F 1 rfl dX8_atFirst_179 rfl ?_
                    refine r_iconst F (v := 0) dX8_atFirst_180 (by decide) ?_
                    refine r_iastore F (ar_8_32 0 (by decide)) dX8_atFirst_181 fun h8 => ?_
                    refine r_aload_n F 0 rfl dX8_atFirst_182 rfl ?_
                    refine r_getA F frX8_115 (by decide) dX8_atFirst_183 ?_
                    refine r_iload_n F 1 rfl dX8_atFirst_186 rfl ?_
                    refine r_iconst F (v := 0) dX8_atFirst_187 (by decide) ?_
                    refine r_iastore F (ar_8_33 0 (by decide)) dX8_atFirst_188 fun h9 => ?_
                    exact r_vret F hA rfl rfl trivial dX8_atFirst_189
                  refine r_aload_n F 0 rfl dX8_atFirst_145 rfl ?_
                  refine r_getA F frX8_106 (by decide) dX8_atFirst_146 ?_
                  refine r_bipush F (v := 6) dX8_atFirst_149 (by decide) ?_
                  refine r_iload_n F 1 rfl dX8_atFirst_151 rfl ?_
                  refine r_imul F dX8_atFirst_152 ?_
                  refine r_iload_n F 2 rfl dX8_atFirst_153 rfl ?_
                  refine r_iadd F dX8_atFirst_154 ?_
                  refine r_iconst F (v := 0) dX8_atFirst_155 (by decide) ?_
                  refine r_iastore F (ar_8_30 0 (by decide)) dX8_atFirst_156 fun h10 => ?_
                  refine r_iinc F (v := 1) 2 rfl (by decide) (fun v11 => [(2, .int v11), (0, .ref (adr (xG X) 8 0 0)), (1, .int p1)]) (fun _ => rfl) dX8_atFirst_157 (hS _ (by decide)) fun v11 => ?_
                  refine r_goto F (tgt := 139) dX8_atFirst_160 (by decide) ?_
                  exact Wt_pick [1, 2, 0] rfl (ih139 v11 h10)
              exact Wt_pick [1, 2, 0] rfl (hl139 N 0 h4)
            refine r_aload_n F 0 rfl dX8_atFirst_66 rfl ?_
            refine r_getA F frX8_91 (by decide) dX8_atFirst_67 ?_
            refine r_iconst F (v := 4) dX8_atFirst_70 (by decide) ?_
            refine r_iload_n F 1 rfl dX8_atFirst_71 rfl ?_
            refine r_imul F dX8_atFirst_72 ?_
            refine r_iload_n F 2 rfl dX8_atFirst_73 rfl ?_
            refine r_iadd F dX8_atFirst_74 ?_
            refine r_aload_n F 0 rfl dX8_atFirst_75 rfl ?_
            refine r_getA F frX8_33 (by decide) dX8_atFirst_76 ?_
            refine r_iload_n F 2 rfl dX8_atFirst_79 rfl ?_
            refine r_iaload F (ar_8_6 0 (by decide)) dX8_atFirst_80 ?_
            refine r_iastore F (ar_8_25 0 (by decide)) dX8_atFirst_81 fun h12 => ?_
            refine r_aload_n F 0 rfl dX8_atFirst_82 rfl ?_
            refine r_getA F frX8_94 (by decide) dX8_atFirst_83 ?_
            refine r_iconst F (v := 4) dX8_atFirst_86 (by decide) ?_
            refine r_iload_n F 1 rfl dX8_atFirst_87 rfl ?_
            refine r_imul F dX8_atFirst_88 ?_
            refine r_iload_n F 2 rfl dX8_atFirst_89 rfl ?_
            refine r_iadd F dX8_atFirst_90 ?_
            refine r_aload_n F 0 rfl dX8_atFirst_91 rfl ?_
            refine r_getA F frX8_39 (by decide) dX8_atFirst_92 ?_
            refine r_iload_n F 2 rfl dX8_atFirst_95 rfl ?_
            refine r_iaload F (ar_8_8 0 (by decide)) dX8_atFirst_96 ?_
            refine r_iastore F (ar_8_26 0 (by decide)) dX8_atFirst_97 fun h13 => ?_
            refine r_aload_n F 0 rfl dX8_atFirst_98 rfl ?_
            refine r_getA F frX8_97 (by decide) dX8_atFirst_99 ?_
            refine r_iconst F (v := 4) dX8_atFirst_102 (by decide) ?_
            refine r_iload_n F 1 rfl dX8_atFirst_103 rfl ?_
            refine r_imul F dX8_atFirst_104 ?_
            refine r_iload_n F 2 rfl dX8_atFirst_105 rfl ?_
            refine r_iadd F dX8_atFirst_106 ?_
            refine r_iconst F (v := 0) dX8_atFirst_107 (by decide) ?_
            refine r_iastore F (ar_8_27 0 (by decide)) dX8_atFirst_108 fun h14 => ?_
            refine r_aload_n F 0 rfl dX8_atFirst_109 rfl ?_
            refine r_getA F frX8_100 (by decide) dX8_atFirst_110 ?_
            refine r_iconst F (v := 4) dX8_atFirst_113 (by decide) ?_
            refine r_iload_n F 1 rfl dX8_atFirst_114 rfl ?_
            refine r_imul F dX8_atFirst_115 ?_
            refine r_iload_n F 2 rfl dX8_atFirst_116 rfl ?_
            refine r_iadd F dX8_atFirst_117 ?_
            refine r_iconst F (v := 0) dX8_atFirst_118 (by decide) ?_
            refine r_iastore F (ar_8_28 0 (by decide)) dX8_atFirst_119 fun h15 => ?_
            refine r_aload_n F 0 rfl dX8_atFirst_120 rfl ?_
            refine r_getA F frX8_103 (by decide) dX8_atFirst_121 ?_
            refine r_iconst F (v := 4) dX8_atFirst_124 (by decide) ?_
            refine r_iload_n F 1 rfl dX8_atFirst_125 rfl ?_
            refine r_imul F dX8_atFirst_126 ?_
            refine r_iload_n F 2 rfl dX8_atFirst_127 rfl ?_
            refine r_iadd F dX8_atFirst_128 ?_
            refine r_iconst F (v := 0) dX8_atFirst_129 (by decide) ?_
            refine r_iastore F (ar_8_29 0 (by decide)) dX8_atFirst_130 fun h16 => ?_
            refine r_iinc F (v := 1) 2 rfl (by decide) (fun v17 => [(2, .int v17), (0, .ref (adr (xG X) 8 0 0)), (1, .int p1)]) (fun _ => rfl) dX8_atFirst_131 (hS _ (by decide)) fun v17 => ?_
            refine r_goto F (tgt := 61) dX8_atFirst_134 (by decide) ?_
            exact Wt_pick [1, 2, 0] rfl (ih61 v17 h16)
        exact Wt_pick [1, 2, 0] rfl (hl61 N 0 h2)
      refine r_aload_n F 0 rfl dX8_atFirst_8 rfl ?_
      refine r_getA F frX8_85 (by decide) dX8_atFirst_9 ?_
      refine r_bipush F (v := 8) dX8_atFirst_12 (by decide) ?_
      refine r_iload_n F 1 rfl dX8_atFirst_14 rfl ?_
      refine r_imul F dX8_atFirst_15 ?_
      refine r_iload_n F 2 rfl dX8_atFirst_16 rfl ?_
      refine r_iadd F dX8_atFirst_17 ?_
      refine r_aload_n F 0 rfl dX8_atFirst_18 rfl ?_
      refine r_getA F frX8_27 (by decide) dX8_atFirst_19 ?_
      refine r_iload_n F 2 rfl dX8_atFirst_22 rfl ?_
      refine r_iaload F (ar_8_4 0 (by decide)) dX8_atFirst_23 ?_
      refine r_iastore F (ar_8_23 0 (by decide)) dX8_atFirst_24 fun h18 => ?_
      refine r_aload_n F 0 rfl dX8_atFirst_25 rfl ?_
      refine r_getA F frX8_88 (by decide) dX8_atFirst_26 ?_
      refine r_bipush F (v := 8) dX8_atFirst_29 (by decide) ?_
      refine r_iload_n F 1 rfl dX8_atFirst_31 rfl ?_
      refine r_imul F dX8_atFirst_32 ?_
      refine r_iload_n F 2 rfl dX8_atFirst_33 rfl ?_
      refine r_iadd F dX8_atFirst_34 ?_
      refine r_aload_n F 0 rfl dX8_atFirst_35 rfl ?_
      refine r_getI F frX8_246 (by decide) dX8_atFirst_36 ?_
      refine Wt_jn (fun (j52 : Int32 → Option Hp) => ∀ v19 : Int32, Wm X (fun _ => none) (fun v => v) (fun _ => True) 52 [(0, .ref (adr (xG X) 8 0 0)), (1, .int p1), (2, .int v1)] [.int v19, .int ((8 * p1) + v1), .ref (adr (xG X) 8 0 25)] h18 (j52 v19)) ?_ fun j52 hj52 => ?_
      · intro v19
        refine r_iastore F (ar_8_24 0 (by decide)) dX8_atFirst_52 fun h20 => ?_
        refine r_iinc F (v := 1) 2 rfl (by decide) (fun v21 => [(2, .int v21), (0, .ref (adr (xG X) 8 0 0)), (1, .int p1)]) (fun _ => rfl) dX8_atFirst_53 (hS _ (by decide)) fun v21 => ?_
        refine r_goto F (tgt := 2) dX8_atFirst_56 (by decide) ?_
        exact Wt_pick [1, 2, 0] rfl (ih2 v21 h20)
      refine r_ifne F (tgt := 46) dX8_atFirst_39 (by decide) ?_ ?_
      · skip
        refine r_iload_n F 2 rfl dX8_atFirst_46 rfl ?_
        refine r_aload_n F 0 rfl dX8_atFirst_47 rfl ?_
        refine r_getI F frX8_246 (by decide) dX8_atFirst_48 ?_
        refine r_irem F dX8_atFirst_51 ?_
        exact Wt_pick [0, 1, 2] rfl (hj52 (v1 - v1 / (gI h18 8 0 13) * (gI h18 8 0 13)))
      refine r_iconst F (v := (-1)) dX8_atFirst_42 (by decide) ?_
      refine r_goto F (tgt := 52) dX8_atFirst_43 (by decide) ?_
      exact Wt_pick [0, 1, 2] rfl (hj52 (-1))
  exact Wt_pick [1, 2, 0] rfl (hl2 N 0 h)
theorem c_X8_atFirst (G : Gx) (l : Launch) (N : Nat) (h : Hp) (p1 : Int32) : Ctr G l yX8_atFirst (.code yX8_atFirst cX8_atFirst 3 none :: GT) rmX8_atFirst [.ref (adr G 8 0 0), .int p1] h (f_X8_atFirst N h p1) (fun _ => none) (fun v => v) (fun _ => True) :=
  ctr_of (by decide) (Nat.le_of_ble_eq_true rfl) ⟨rfl, rfl⟩ fun X _ e2 hA hL F => by subst e2; exact w_X8_atFirst X F hA hL N h p1
