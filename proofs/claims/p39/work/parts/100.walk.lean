theorem dX0_clear_0 : decode cX0_clear 0 = .ok (.aload_n 0, 1) := by decide +kernel
theorem dX0_clear_1 : decode cX0_clear 1 = .ok (.iconst 0, 1) := by decide +kernel
theorem dX0_clear_2 : decode cX0_clear 2 = .ok (.putfield 31, 3) := by decide +kernel
theorem dX0_clear_5 : decode cX0_clear 5 = .ok (.iconst 0, 1) := by decide +kernel
theorem dX0_clear_6 : decode cX0_clear 6 = .ok (.istore_n 1, 1) := by decide +kernel
theorem dX0_clear_7 : decode cX0_clear 7 = .ok (.iload_n 1, 1) := by decide +kernel
theorem dX0_clear_8 : decode cX0_clear 8 = .ok (.iconst 4, 1) := by decide +kernel
theorem dX0_clear_9 : decode cX0_clear 9 = .ok (.if_icmp .ge 23, 3) := by decide +kernel
theorem dX0_clear_12 : decode cX0_clear 12 = .ok (.aload_n 0, 1) := by decide +kernel
theorem dX0_clear_13 : decode cX0_clear 13 = .ok (.getfield 18, 3) := by decide +kernel
theorem dX0_clear_16 : decode cX0_clear 16 = .ok (.iload_n 1, 1) := by decide +kernel
theorem dX0_clear_17 : decode cX0_clear 17 = .ok (.iconst 0, 1) := by decide +kernel
theorem dX0_clear_18 : decode cX0_clear 18 = .ok (.iastore, 1) := by decide +kernel
theorem dX0_clear_19 : decode cX0_clear 19 = .ok (.aload_n 0, 1) := by decide +kernel
theorem dX0_clear_20 : decode cX0_clear 20 = .ok (.getfield 21, 3) := by decide +kernel
theorem dX0_clear_23 : decode cX0_clear 23 = .ok (.iload_n 1, 1) := by decide +kernel
theorem dX0_clear_24 : decode cX0_clear 24 = .ok (.iconst 0, 1) := by decide +kernel
theorem dX0_clear_25 : decode cX0_clear 25 = .ok (.iastore, 1) := by decide +kernel
theorem dX0_clear_26 : decode cX0_clear 26 = .ok (.iinc 1 1, 3) := by decide +kernel
theorem dX0_clear_29 : decode cX0_clear 29 = .ok (.goto (-22), 3) := by decide +kernel
theorem dX0_clear_32 : decode cX0_clear 32 = .ok (.return_, 1) := by decide +kernel
theorem dX0_isTold_0 : decode cX0_isTold 0 = .ok (.iload_n 1, 1) := by decide +kernel
theorem dX0_isTold_1 : decode cX0_isTold 1 = .ok (.ifCond .lt 27, 3) := by decide +kernel
theorem dX0_isTold_4 : decode cX0_isTold 4 = .ok (.iload_n 1, 1) := by decide +kernel
theorem dX0_isTold_5 : decode cX0_isTold 5 = .ok (.iconst 4, 1) := by decide +kernel
theorem dX0_isTold_6 : decode cX0_isTold 6 = .ok (.if_icmp .ge 22, 3) := by decide +kernel
theorem dX0_isTold_9 : decode cX0_isTold 9 = .ok (.aload_n 0, 1) := by decide +kernel
theorem dX0_isTold_10 : decode cX0_isTold 10 = .ok (.getfield 18, 3) := by decide +kernel
theorem dX0_isTold_13 : decode cX0_isTold 13 = .ok (.iload_n 1, 1) := by decide +kernel
theorem dX0_isTold_14 : decode cX0_isTold 14 = .ok (.iaload, 1) := by decide +kernel
theorem dX0_isTold_15 : decode cX0_isTold 15 = .ok (.aload_n 0, 1) := by decide +kernel
theorem dX0_isTold_16 : decode cX0_isTold 16 = .ok (.getfield 21, 3) := by decide +kernel
theorem dX0_isTold_19 : decode cX0_isTold 19 = .ok (.iload_n 1, 1) := by decide +kernel
theorem dX0_isTold_20 : decode cX0_isTold 20 = .ok (.iaload, 1) := by decide +kernel
theorem dX0_isTold_21 : decode cX0_isTold 21 = .ok (.if_icmp .ge 7, 3) := by decide +kernel
theorem dX0_isTold_24 : decode cX0_isTold 24 = .ok (.iconst 1, 1) := by decide +kernel
theorem dX0_isTold_25 : decode cX0_isTold 25 = .ok (.goto 4, 3) := by decide +kernel
theorem dX0_isTold_28 : decode cX0_isTold 28 = .ok (.iconst 0, 1) := by decide +kernel
theorem dX0_isTold_29 : decode cX0_isTold 29 = .ok (.ireturn, 1) := by decide +kernel
theorem dX0_begin_0 : decode cX0_begin 0 = .ok (.iload_n 1, 1) := by decide +kernel
theorem dX0_begin_1 : decode cX0_begin 1 = .ok (.ifCond .lt 18, 3) := by decide +kernel
theorem dX0_begin_4 : decode cX0_begin 4 = .ok (.iload_n 1, 1) := by decide +kernel
theorem dX0_begin_5 : decode cX0_begin 5 = .ok (.iconst 4, 1) := by decide +kernel
theorem dX0_begin_6 : decode cX0_begin 6 = .ok (.if_icmp .ge 13, 3) := by decide +kernel
theorem dX0_begin_9 : decode cX0_begin 9 = .ok (.aload_n 0, 1) := by decide +kernel
theorem dX0_begin_10 : decode cX0_begin 10 = .ok (.getfield 18, 3) := by decide +kernel
theorem dX0_begin_13 : decode cX0_begin 13 = .ok (.iload_n 1, 1) := by decide +kernel
theorem dX0_begin_14 : decode cX0_begin 14 = .ok (.aload_n 0, 1) := by decide +kernel
theorem dX0_begin_15 : decode cX0_begin 15 = .ok (.getfield 31, 3) := by decide +kernel
theorem dX0_begin_18 : decode cX0_begin 18 = .ok (.iastore, 1) := by decide +kernel
theorem dX0_begin_19 : decode cX0_begin 19 = .ok (.return_, 1) := by decide +kernel
theorem dX0_put_0 : decode cX0_put 0 = .ok (.aload_n 0, 1) := by decide +kernel
theorem dX0_put_1 : decode cX0_put 1 = .ok (.getfield 31, 3) := by decide +kernel
theorem dX0_put_4 : decode cX0_put 4 = .ok (.bipush 64, 2) := by decide +kernel
theorem dX0_put_6 : decode cX0_put 6 = .ok (.if_icmp .ge 33, 3) := by decide +kernel
theorem dX0_put_9 : decode cX0_put 9 = .ok (.aload_n 0, 1) := by decide +kernel
theorem dX0_put_10 : decode cX0_put 10 = .ok (.getfield 11, 3) := by decide +kernel
theorem dX0_put_13 : decode cX0_put 13 = .ok (.aload_n 0, 1) := by decide +kernel
theorem dX0_put_14 : decode cX0_put 14 = .ok (.getfield 31, 3) := by decide +kernel
theorem dX0_put_17 : decode cX0_put 17 = .ok (.iload_n 1, 1) := by decide +kernel
theorem dX0_put_18 : decode cX0_put 18 = .ok (.iastore, 1) := by decide +kernel
theorem dX0_put_19 : decode cX0_put 19 = .ok (.aload_n 0, 1) := by decide +kernel
theorem dX0_put_20 : decode cX0_put 20 = .ok (.getfield 15, 3) := by decide +kernel
theorem dX0_put_23 : decode cX0_put 23 = .ok (.aload_n 0, 1) := by decide +kernel
theorem dX0_put_24 : decode cX0_put 24 = .ok (.getfield 31, 3) := by decide +kernel
theorem dX0_put_27 : decode cX0_put 27 = .ok (.iload_n 2, 1) := by decide +kernel
theorem dX0_put_28 : decode cX0_put 28 = .ok (.iastore, 1) := by decide +kernel
theorem dX0_put_29 : decode cX0_put 29 = .ok (.aload_n 0, 1) := by decide +kernel
theorem dX0_put_30 : decode cX0_put 30 = .ok (.dup, 1) := by decide +kernel
theorem dX0_put_31 : decode cX0_put 31 = .ok (.getfield 31, 3) := by decide +kernel
theorem dX0_put_34 : decode cX0_put 34 = .ok (.iconst 1, 1) := by decide +kernel
theorem dX0_put_35 : decode cX0_put 35 = .ok (.iadd, 1) := by decide +kernel
theorem dX0_put_36 : decode cX0_put 36 = .ok (.putfield 31, 3) := by decide +kernel
theorem dX0_put_39 : decode cX0_put 39 = .ok (.return_, 1) := by decide +kernel
theorem dX0_end_0 : decode cX0_end 0 = .ok (.iload_n 1, 1) := by decide +kernel
theorem dX0_end_1 : decode cX0_end 1 = .ok (.ifCond .lt 18, 3) := by decide +kernel
theorem dX0_end_4 : decode cX0_end 4 = .ok (.iload_n 1, 1) := by decide +kernel
theorem dX0_end_5 : decode cX0_end 5 = .ok (.iconst 4, 1) := by decide +kernel
theorem dX0_end_6 : decode cX0_end 6 = .ok (.if_icmp .ge 13, 3) := by decide +kernel
theorem dX0_end_9 : decode cX0_end 9 = .ok (.aload_n 0, 1) := by decide +kernel
theorem dX0_end_10 : decode cX0_end 10 = .ok (.getfield 21, 3) := by decide +kernel
theorem dX0_end_13 : decode cX0_end 13 = .ok (.iload_n 1, 1) := by decide +kernel
theorem dX0_end_14 : decode cX0_end 14 = .ok (.aload_n 0, 1) := by decide +kernel
theorem dX0_end_15 : decode cX0_end 15 = .ok (.getfield 31, 3) := by decide +kernel
theorem dX0_end_18 : decode cX0_end 18 = .ok (.iastore, 1) := by decide +kernel
theorem dX0_end_19 : decode cX0_end 19 = .ok (.return_, 1) := by decide +kernel
theorem dX0_joined_0 : decode cX0_joined 0 = .ok (.iload_n 0, 1) := by decide +kernel
theorem dX0_joined_1 : decode cX0_joined 1 = .ok (.lookupswitch 296 #[(4, 224), (5, 236), (6, 248), (42, 115), (43, 107), (45, 111), (47, 172), (60, 188), (61, 200), (62, 212), (280, 260), (281, 278)], 107) := by decide +kernel
theorem dX0_joined_108 : decode cX0_joined 108 = .ok (.lload_n 1, 1) := by decide +kernel
theorem dX0_joined_109 : decode cX0_joined 109 = .ok (.lload_n 3, 1) := by decide +kernel
theorem dX0_joined_110 : decode cX0_joined 110 = .ok (.ladd, 1) := by decide +kernel
theorem dX0_joined_111 : decode cX0_joined 111 = .ok (.lreturn, 1) := by decide +kernel
theorem dX0_joined_112 : decode cX0_joined 112 = .ok (.lload_n 1, 1) := by decide +kernel
theorem dX0_joined_113 : decode cX0_joined 113 = .ok (.lload_n 3, 1) := by decide +kernel
theorem dX0_joined_114 : decode cX0_joined 114 = .ok (.lsub, 1) := by decide +kernel
theorem dX0_joined_115 : decode cX0_joined 115 = .ok (.lreturn, 1) := by decide +kernel
theorem dX0_joined_116 : decode cX0_joined 116 = .ok (.lload_n 1, 1) := by decide +kernel
theorem dX0_joined_117 : decode cX0_joined 117 = .ok (.lconst 0, 1) := by decide +kernel
theorem dX0_joined_118 : decode cX0_joined 118 = .ok (.lcmp, 1) := by decide +kernel
theorem dX0_joined_119 : decode cX0_joined 119 = .ok (.ifCond .ge 8, 3) := by decide +kernel
theorem dX0_joined_122 : decode cX0_joined 122 = .ok (.lload_n 1, 1) := by decide +kernel
theorem dX0_joined_123 : decode cX0_joined 123 = .ok (.lneg, 1) := by decide +kernel
theorem dX0_joined_124 : decode cX0_joined 124 = .ok (.goto 4, 3) := by decide +kernel
theorem dX0_joined_127 : decode cX0_joined 127 = .ok (.lload_n 1, 1) := by decide +kernel
theorem dX0_joined_128 : decode cX0_joined 128 = .ok (.lstore 5, 2) := by decide +kernel
theorem dX0_joined_130 : decode cX0_joined 130 = .ok (.lload_n 3, 1) := by decide +kernel
theorem dX0_joined_131 : decode cX0_joined 131 = .ok (.lconst 0, 1) := by decide +kernel
theorem dX0_joined_132 : decode cX0_joined 132 = .ok (.lcmp, 1) := by decide +kernel
theorem dX0_joined_133 : decode cX0_joined 133 = .ok (.ifCond .ge 8, 3) := by decide +kernel
theorem dX0_joined_136 : decode cX0_joined 136 = .ok (.lload_n 3, 1) := by decide +kernel
theorem dX0_joined_137 : decode cX0_joined 137 = .ok (.lneg, 1) := by decide +kernel
theorem dX0_joined_138 : decode cX0_joined 138 = .ok (.goto 4, 3) := by decide +kernel
theorem dX0_joined_141 : decode cX0_joined 141 = .ok (.lload_n 3, 1) := by decide +kernel
theorem dX0_joined_142 : decode cX0_joined 142 = .ok (.lstore 7, 2) := by decide +kernel
theorem dX0_joined_144 : decode cX0_joined 144 = .ok (.lload 5, 2) := by decide +kernel
theorem dX0_joined_146 : decode cX0_joined 146 = .ok (.lconst 0, 1) := by decide +kernel
theorem dX0_joined_147 : decode cX0_joined 147 = .ok (.lcmp, 1) := by decide +kernel
theorem dX0_joined_148 : decode cX0_joined 148 = .ok (.ifCond .eq 21, 3) := by decide +kernel
theorem dX0_joined_151 : decode cX0_joined 151 = .ok (.lload 7, 2) := by decide +kernel
theorem dX0_joined_153 : decode cX0_joined 153 = .ok (.ldc2_w 47, 3) := by decide +kernel
theorem dX0_joined_156 : decode cX0_joined 156 = .ok (.lload 5, 2) := by decide +kernel
theorem dX0_joined_158 : decode cX0_joined 158 = .ok (.ldiv, 1) := by decide +kernel
theorem dX0_joined_159 : decode cX0_joined 159 = .ok (.lcmp, 1) := by decide +kernel
theorem dX0_joined_160 : decode cX0_joined 160 = .ok (.ifCond .le 9, 3) := by decide +kernel
theorem dX0_joined_163 : decode cX0_joined 163 = .ok (.ldc2_w 39, 3) := by decide +kernel
theorem dX0_joined_166 : decode cX0_joined 166 = .ok (.goto 6, 3) := by decide +kernel
theorem dX0_joined_169 : decode cX0_joined 169 = .ok (.lload_n 1, 1) := by decide +kernel
theorem dX0_joined_170 : decode cX0_joined 170 = .ok (.lload_n 3, 1) := by decide +kernel
theorem dX0_joined_171 : decode cX0_joined 171 = .ok (.lmul, 1) := by decide +kernel
theorem dX0_joined_172 : decode cX0_joined 172 = .ok (.lreturn, 1) := by decide +kernel
theorem dX0_joined_173 : decode cX0_joined 173 = .ok (.lload_n 3, 1) := by decide +kernel
theorem dX0_joined_174 : decode cX0_joined 174 = .ok (.lconst 0, 1) := by decide +kernel
theorem dX0_joined_175 : decode cX0_joined 175 = .ok (.lcmp, 1) := by decide +kernel
theorem dX0_joined_176 : decode cX0_joined 176 = .ok (.ifCond .ne 9, 3) := by decide +kernel
theorem dX0_joined_179 : decode cX0_joined 179 = .ok (.ldc2_w 39, 3) := by decide +kernel
theorem dX0_joined_182 : decode cX0_joined 182 = .ok (.goto 6, 3) := by decide +kernel
theorem dX0_joined_185 : decode cX0_joined 185 = .ok (.lload_n 1, 1) := by decide +kernel
theorem dX0_joined_186 : decode cX0_joined 186 = .ok (.lload_n 3, 1) := by decide +kernel
theorem dX0_joined_187 : decode cX0_joined 187 = .ok (.ldiv, 1) := by decide +kernel
theorem dX0_joined_188 : decode cX0_joined 188 = .ok (.lreturn, 1) := by decide +kernel
theorem dX0_joined_189 : decode cX0_joined 189 = .ok (.lload_n 1, 1) := by decide +kernel
theorem dX0_joined_190 : decode cX0_joined 190 = .ok (.lload_n 3, 1) := by decide +kernel
theorem dX0_joined_191 : decode cX0_joined 191 = .ok (.lcmp, 1) := by decide +kernel
theorem dX0_joined_192 : decode cX0_joined 192 = .ok (.ifCond .ge 7, 3) := by decide +kernel
theorem dX0_joined_195 : decode cX0_joined 195 = .ok (.lconst 1, 1) := by decide +kernel
theorem dX0_joined_196 : decode cX0_joined 196 = .ok (.goto 4, 3) := by decide +kernel
theorem dX0_joined_199 : decode cX0_joined 199 = .ok (.lconst 0, 1) := by decide +kernel
theorem dX0_joined_200 : decode cX0_joined 200 = .ok (.lreturn, 1) := by decide +kernel
theorem dX0_joined_201 : decode cX0_joined 201 = .ok (.lload_n 1, 1) := by decide +kernel
theorem dX0_joined_202 : decode cX0_joined 202 = .ok (.lload_n 3, 1) := by decide +kernel
theorem dX0_joined_203 : decode cX0_joined 203 = .ok (.lcmp, 1) := by decide +kernel
theorem dX0_joined_204 : decode cX0_joined 204 = .ok (.ifCond .ne 7, 3) := by decide +kernel
theorem dX0_joined_207 : decode cX0_joined 207 = .ok (.lconst 1, 1) := by decide +kernel
theorem dX0_joined_208 : decode cX0_joined 208 = .ok (.goto 4, 3) := by decide +kernel
theorem dX0_joined_211 : decode cX0_joined 211 = .ok (.lconst 0, 1) := by decide +kernel
theorem dX0_joined_212 : decode cX0_joined 212 = .ok (.lreturn, 1) := by decide +kernel
theorem dX0_joined_213 : decode cX0_joined 213 = .ok (.lload_n 1, 1) := by decide +kernel
theorem dX0_joined_214 : decode cX0_joined 214 = .ok (.lload_n 3, 1) := by decide +kernel
theorem dX0_joined_215 : decode cX0_joined 215 = .ok (.lcmp, 1) := by decide +kernel
theorem dX0_joined_216 : decode cX0_joined 216 = .ok (.ifCond .le 7, 3) := by decide +kernel
theorem dX0_joined_219 : decode cX0_joined 219 = .ok (.lconst 1, 1) := by decide +kernel
theorem dX0_joined_220 : decode cX0_joined 220 = .ok (.goto 4, 3) := by decide +kernel
theorem dX0_joined_223 : decode cX0_joined 223 = .ok (.lconst 0, 1) := by decide +kernel
theorem dX0_joined_224 : decode cX0_joined 224 = .ok (.lreturn, 1) := by decide +kernel
theorem dX0_joined_225 : decode cX0_joined 225 = .ok (.lload_n 1, 1) := by decide +kernel
theorem dX0_joined_226 : decode cX0_joined 226 = .ok (.lload_n 3, 1) := by decide +kernel
theorem dX0_joined_227 : decode cX0_joined 227 = .ok (.lcmp, 1) := by decide +kernel
theorem dX0_joined_228 : decode cX0_joined 228 = .ok (.ifCond .gt 7, 3) := by decide +kernel
theorem dX0_joined_231 : decode cX0_joined 231 = .ok (.lconst 1, 1) := by decide +kernel
theorem dX0_joined_232 : decode cX0_joined 232 = .ok (.goto 4, 3) := by decide +kernel
theorem dX0_joined_235 : decode cX0_joined 235 = .ok (.lconst 0, 1) := by decide +kernel
theorem dX0_joined_236 : decode cX0_joined 236 = .ok (.lreturn, 1) := by decide +kernel
theorem dX0_joined_237 : decode cX0_joined 237 = .ok (.lload_n 1, 1) := by decide +kernel
theorem dX0_joined_238 : decode cX0_joined 238 = .ok (.lload_n 3, 1) := by decide +kernel
theorem dX0_joined_239 : decode cX0_joined 239 = .ok (.lcmp, 1) := by decide +kernel
theorem dX0_joined_240 : decode cX0_joined 240 = .ok (.ifCond .eq 7, 3) := by decide +kernel
theorem dX0_joined_243 : decode cX0_joined 243 = .ok (.lconst 1, 1) := by decide +kernel
theorem dX0_joined_244 : decode cX0_joined 244 = .ok (.goto 4, 3) := by decide +kernel
theorem dX0_joined_247 : decode cX0_joined 247 = .ok (.lconst 0, 1) := by decide +kernel
theorem dX0_joined_248 : decode cX0_joined 248 = .ok (.lreturn, 1) := by decide +kernel
theorem dX0_joined_249 : decode cX0_joined 249 = .ok (.lload_n 1, 1) := by decide +kernel
theorem dX0_joined_250 : decode cX0_joined 250 = .ok (.lload_n 3, 1) := by decide +kernel
theorem dX0_joined_251 : decode cX0_joined 251 = .ok (.lcmp, 1) := by decide +kernel
theorem dX0_joined_252 : decode cX0_joined 252 = .ok (.ifCond .lt 7, 3) := by decide +kernel
theorem dX0_joined_255 : decode cX0_joined 255 = .ok (.lconst 1, 1) := by decide +kernel
theorem dX0_joined_256 : decode cX0_joined 256 = .ok (.goto 4, 3) := by decide +kernel
theorem dX0_joined_259 : decode cX0_joined 259 = .ok (.lconst 0, 1) := by decide +kernel
theorem dX0_joined_260 : decode cX0_joined 260 = .ok (.lreturn, 1) := by decide +kernel
theorem dX0_joined_261 : decode cX0_joined 261 = .ok (.lload_n 1, 1) := by decide +kernel
theorem dX0_joined_262 : decode cX0_joined 262 = .ok (.lconst 0, 1) := by decide +kernel
theorem dX0_joined_263 : decode cX0_joined 263 = .ok (.lcmp, 1) := by decide +kernel
theorem dX0_joined_264 : decode cX0_joined 264 = .ok (.ifCond .eq 13, 3) := by decide +kernel
theorem dX0_joined_267 : decode cX0_joined 267 = .ok (.lload_n 3, 1) := by decide +kernel
theorem dX0_joined_268 : decode cX0_joined 268 = .ok (.lconst 0, 1) := by decide +kernel
theorem dX0_joined_269 : decode cX0_joined 269 = .ok (.lcmp, 1) := by decide +kernel
theorem dX0_joined_270 : decode cX0_joined 270 = .ok (.ifCond .eq 7, 3) := by decide +kernel
theorem dX0_joined_273 : decode cX0_joined 273 = .ok (.lconst 1, 1) := by decide +kernel
theorem dX0_joined_274 : decode cX0_joined 274 = .ok (.goto 4, 3) := by decide +kernel
theorem dX0_joined_277 : decode cX0_joined 277 = .ok (.lconst 0, 1) := by decide +kernel
theorem dX0_joined_278 : decode cX0_joined 278 = .ok (.lreturn, 1) := by decide +kernel
theorem dX0_joined_279 : decode cX0_joined 279 = .ok (.lload_n 1, 1) := by decide +kernel
theorem dX0_joined_280 : decode cX0_joined 280 = .ok (.lconst 0, 1) := by decide +kernel
theorem dX0_joined_281 : decode cX0_joined 281 = .ok (.lcmp, 1) := by decide +kernel
theorem dX0_joined_282 : decode cX0_joined 282 = .ok (.ifCond .ne 9, 3) := by decide +kernel
theorem dX0_joined_285 : decode cX0_joined 285 = .ok (.lload_n 3, 1) := by decide +kernel
theorem dX0_joined_286 : decode cX0_joined 286 = .ok (.lconst 0, 1) := by decide +kernel
theorem dX0_joined_287 : decode cX0_joined 287 = .ok (.lcmp, 1) := by decide +kernel
theorem dX0_joined_288 : decode cX0_joined 288 = .ok (.ifCond .eq 7, 3) := by decide +kernel
theorem dX0_joined_291 : decode cX0_joined 291 = .ok (.lconst 1, 1) := by decide +kernel
theorem dX0_joined_292 : decode cX0_joined 292 = .ok (.goto 4, 3) := by decide +kernel
theorem dX0_joined_295 : decode cX0_joined 295 = .ok (.lconst 0, 1) := by decide +kernel
theorem dX0_joined_296 : decode cX0_joined 296 = .ok (.lreturn, 1) := by decide +kernel
theorem dX0_joined_297 : decode cX0_joined 297 = .ok (.ldc2_w 39, 3) := by decide +kernel
theorem dX0_joined_300 : decode cX0_joined 300 = .ok (.lreturn, 1) := by decide +kernel
theorem dX0_value_0 : decode cX0_value 0 = .ok (.aload_n 0, 1) := by decide +kernel
theorem dX0_value_1 : decode cX0_value 1 = .ok (.iload_n 1, 1) := by decide +kernel
theorem dX0_value_2 : decode cX0_value 2 = .ok (.invokevirtual 35, 3) := by decide +kernel
theorem dX0_value_5 : decode cX0_value 5 = .ok (.ifCond .ne 7, 3) := by decide +kernel
theorem dX0_value_8 : decode cX0_value 8 = .ok (.ldc2_w 39, 3) := by decide +kernel
theorem dX0_value_11 : decode cX0_value 11 = .ok (.lreturn, 1) := by decide +kernel
theorem dX0_value_12 : decode cX0_value 12 = .ok (.iconst 0, 1) := by decide +kernel
theorem dX0_value_13 : decode cX0_value 13 = .ok (.istore_n 2, 1) := by decide +kernel
theorem dX0_value_14 : decode cX0_value 14 = .ok (.aload_n 0, 1) := by decide +kernel
theorem dX0_value_15 : decode cX0_value 15 = .ok (.getfield 18, 3) := by decide +kernel
theorem dX0_value_18 : decode cX0_value 18 = .ok (.iload_n 1, 1) := by decide +kernel
theorem dX0_value_19 : decode cX0_value 19 = .ok (.iaload, 1) := by decide +kernel
theorem dX0_value_20 : decode cX0_value 20 = .ok (.istore_n 3, 1) := by decide +kernel
theorem dX0_value_21 : decode cX0_value 21 = .ok (.iload_n 3, 1) := by decide +kernel
theorem dX0_value_22 : decode cX0_value 22 = .ok (.aload_n 0, 1) := by decide +kernel
theorem dX0_value_23 : decode cX0_value 23 = .ok (.getfield 21, 3) := by decide +kernel
theorem dX0_value_26 : decode cX0_value 26 = .ok (.iload_n 1, 1) := by decide +kernel
theorem dX0_value_27 : decode cX0_value 27 = .ok (.iaload, 1) := by decide +kernel
theorem dX0_value_28 : decode cX0_value 28 = .ok (.if_icmp .ge 173, 3) := by decide +kernel
theorem dX0_value_31 : decode cX0_value 31 = .ok (.aload_n 0, 1) := by decide +kernel
theorem dX0_value_32 : decode cX0_value 32 = .ok (.getfield 11, 3) := by decide +kernel
theorem dX0_value_35 : decode cX0_value 35 = .ok (.iload_n 3, 1) := by decide +kernel
theorem dX0_value_36 : decode cX0_value 36 = .ok (.iaload, 1) := by decide +kernel
theorem dX0_value_37 : decode cX0_value 37 = .ok (.istore 4, 2) := by decide +kernel
theorem dX0_value_39 : decode cX0_value 39 = .ok (.iload 4, 2) := by decide +kernel
theorem dX0_value_41 : decode cX0_value 41 = .ok (.iconst 2, 1) := by decide +kernel
theorem dX0_value_42 : decode cX0_value 42 = .ok (.if_icmp .ne 15, 3) := by decide +kernel
theorem dX0_value_45 : decode cX0_value 45 = .ok (.aload_n 0, 1) := by decide +kernel
theorem dX0_value_46 : decode cX0_value 46 = .ok (.getfield 15, 3) := by decide +kernel
theorem dX0_value_49 : decode cX0_value 49 = .ok (.iload_n 3, 1) := by decide +kernel
theorem dX0_value_50 : decode cX0_value 50 = .ok (.iaload, 1) := by decide +kernel
theorem dX0_value_51 : decode cX0_value 51 = .ok (.i2l, 1) := by decide +kernel
theorem dX0_value_52 : decode cX0_value 52 = .ok (.lstore 5, 2) := by decide +kernel
theorem dX0_value_54 : decode cX0_value 54 = .ok (.goto 108, 3) := by decide +kernel
theorem dX0_value_57 : decode cX0_value 57 = .ok (.iload 4, 2) := by decide +kernel
theorem dX0_value_59 : decode cX0_value 59 = .ok (.sipush 272, 3) := by decide +kernel
theorem dX0_value_62 : decode cX0_value 62 = .ok (.if_icmp .lt 27, 3) := by decide +kernel
theorem dX0_value_65 : decode cX0_value 65 = .ok (.iload 4, 2) := by decide +kernel
theorem dX0_value_67 : decode cX0_value 67 = .ok (.sipush 278, 3) := by decide +kernel
theorem dX0_value_70 : decode cX0_value 70 = .ok (.if_icmp .gt 19, 3) := by decide +kernel
theorem dX0_value_73 : decode cX0_value 73 = .ok (.aload_n 0, 1) := by decide +kernel
theorem dX0_value_74 : decode cX0_value 74 = .ok (.getfield 24, 3) := by decide +kernel
theorem dX0_value_77 : decode cX0_value 77 = .ok (.iload 4, 2) := by decide +kernel
theorem dX0_value_79 : decode cX0_value 79 = .ok (.sipush 272, 3) := by decide +kernel
theorem dX0_value_82 : decode cX0_value 82 = .ok (.isub, 1) := by decide +kernel
theorem dX0_value_83 : decode cX0_value 83 = .ok (.laload, 1) := by decide +kernel
theorem dX0_value_84 : decode cX0_value 84 = .ok (.lstore 5, 2) := by decide +kernel
theorem dX0_value_86 : decode cX0_value 86 = .ok (.goto 76, 3) := by decide +kernel
theorem dX0_value_89 : decode cX0_value 89 = .ok (.iload 4, 2) := by decide +kernel
theorem dX0_value_91 : decode cX0_value 91 = .ok (.sipush 279, 3) := by decide +kernel
theorem dX0_value_94 : decode cX0_value 94 = .ok (.if_icmp .ne 32, 3) := by decide +kernel
theorem dX0_value_97 : decode cX0_value 97 = .ok (.iload_n 2, 1) := by decide +kernel
theorem dX0_value_98 : decode cX0_value 98 = .ok (.iconst 1, 1) := by decide +kernel
theorem dX0_value_99 : decode cX0_value 99 = .ok (.if_icmp .lt 27, 3) := by decide +kernel
theorem dX0_value_102 : decode cX0_value 102 = .ok (.iinc 2 (-1), 3) := by decide +kernel
theorem dX0_value_105 : decode cX0_value 105 = .ok (.aload_n 0, 1) := by decide +kernel
theorem dX0_value_106 : decode cX0_value 106 = .ok (.getfield 28, 3) := by decide +kernel
theorem dX0_value_109 : decode cX0_value 109 = .ok (.iload_n 2, 1) := by decide +kernel
theorem dX0_value_110 : decode cX0_value 110 = .ok (.laload, 1) := by decide +kernel
theorem dX0_value_111 : decode cX0_value 111 = .ok (.lconst 0, 1) := by decide +kernel
theorem dX0_value_112 : decode cX0_value 112 = .ok (.lcmp, 1) := by decide +kernel
theorem dX0_value_113 : decode cX0_value 113 = .ok (.ifCond .ne 7, 3) := by decide +kernel
theorem dX0_value_116 : decode cX0_value 116 = .ok (.lconst 1, 1) := by decide +kernel
theorem dX0_value_117 : decode cX0_value 117 = .ok (.goto 4, 3) := by decide +kernel
theorem dX0_value_120 : decode cX0_value 120 = .ok (.lconst 0, 1) := by decide +kernel
theorem dX0_value_121 : decode cX0_value 121 = .ok (.lstore 5, 2) := by decide +kernel
theorem dX0_value_123 : decode cX0_value 123 = .ok (.goto 39, 3) := by decide +kernel
theorem dX0_value_126 : decode cX0_value 126 = .ok (.iload_n 2, 1) := by decide +kernel
theorem dX0_value_127 : decode cX0_value 127 = .ok (.iconst 2, 1) := by decide +kernel
theorem dX0_value_128 : decode cX0_value 128 = .ok (.if_icmp .lt 30, 3) := by decide +kernel
theorem dX0_value_131 : decode cX0_value 131 = .ok (.iinc 2 (-2), 3) := by decide +kernel
theorem dX0_value_134 : decode cX0_value 134 = .ok (.iload 4, 2) := by decide +kernel
theorem dX0_value_136 : decode cX0_value 136 = .ok (.aload_n 0, 1) := by decide +kernel
theorem dX0_value_137 : decode cX0_value 137 = .ok (.getfield 28, 3) := by decide +kernel
theorem dX0_value_140 : decode cX0_value 140 = .ok (.iload_n 2, 1) := by decide +kernel
theorem dX0_value_141 : decode cX0_value 141 = .ok (.laload, 1) := by decide +kernel
theorem dX0_value_142 : decode cX0_value 142 = .ok (.aload_n 0, 1) := by decide +kernel
theorem dX0_value_143 : decode cX0_value 143 = .ok (.getfield 28, 3) := by decide +kernel
theorem dX0_value_146 : decode cX0_value 146 = .ok (.iload_n 2, 1) := by decide +kernel
theorem dX0_value_147 : decode cX0_value 147 = .ok (.iconst 1, 1) := by decide +kernel
theorem dX0_value_148 : decode cX0_value 148 = .ok (.iadd, 1) := by decide +kernel
theorem dX0_value_149 : decode cX0_value 149 = .ok (.laload, 1) := by decide +kernel
theorem dX0_value_150 : decode cX0_value 150 = .ok (.invokestatic 43, 3) := by decide +kernel
theorem dX0_value_153 : decode cX0_value 153 = .ok (.lstore 5, 2) := by decide +kernel
theorem dX0_value_155 : decode cX0_value 155 = .ok (.goto 7, 3) := by decide +kernel
theorem dX0_value_158 : decode cX0_value 158 = .ok (.ldc2_w 39, 3) := by decide +kernel
theorem dX0_value_161 : decode cX0_value 161 = .ok (.lreturn, 1) := by decide +kernel
theorem dX0_value_162 : decode cX0_value 162 = .ok (.lload 5, 2) := by decide +kernel
theorem dX0_value_164 : decode cX0_value 164 = .ok (.ldc2_w 47, 3) := by decide +kernel
theorem dX0_value_167 : decode cX0_value 167 = .ok (.lcmp, 1) := by decide +kernel
theorem dX0_value_168 : decode cX0_value 168 = .ok (.ifCond .gt 12, 3) := by decide +kernel
theorem dX0_value_171 : decode cX0_value 171 = .ok (.lload 5, 2) := by decide +kernel
theorem dX0_value_173 : decode cX0_value 173 = .ok (.ldc2_w 49, 3) := by decide +kernel
theorem dX0_value_176 : decode cX0_value 176 = .ok (.lcmp, 1) := by decide +kernel
theorem dX0_value_177 : decode cX0_value 177 = .ok (.ifCond .ge 7, 3) := by decide +kernel
theorem dX0_value_180 : decode cX0_value 180 = .ok (.ldc2_w 39, 3) := by decide +kernel
theorem dX0_value_183 : decode cX0_value 183 = .ok (.lreturn, 1) := by decide +kernel
theorem dX0_value_184 : decode cX0_value 184 = .ok (.aload_n 0, 1) := by decide +kernel
theorem dX0_value_185 : decode cX0_value 185 = .ok (.getfield 28, 3) := by decide +kernel
theorem dX0_value_188 : decode cX0_value 188 = .ok (.iload_n 2, 1) := by decide +kernel
theorem dX0_value_189 : decode cX0_value 189 = .ok (.lload 5, 2) := by decide +kernel
theorem dX0_value_191 : decode cX0_value 191 = .ok (.lastore, 1) := by decide +kernel
theorem dX0_value_192 : decode cX0_value 192 = .ok (.iinc 2 1, 3) := by decide +kernel
theorem dX0_value_195 : decode cX0_value 195 = .ok (.iinc 3 1, 3) := by decide +kernel
theorem dX0_value_198 : decode cX0_value 198 = .ok (.goto (-177), 3) := by decide +kernel
theorem dX0_value_201 : decode cX0_value 201 = .ok (.iload_n 2, 1) := by decide +kernel
theorem dX0_value_202 : decode cX0_value 202 = .ok (.iconst 1, 1) := by decide +kernel
theorem dX0_value_203 : decode cX0_value 203 = .ok (.if_icmp .ne 12, 3) := by decide +kernel
theorem dX0_value_206 : decode cX0_value 206 = .ok (.aload_n 0, 1) := by decide +kernel
theorem dX0_value_207 : decode cX0_value 207 = .ok (.getfield 28, 3) := by decide +kernel
theorem dX0_value_210 : decode cX0_value 210 = .ok (.iconst 0, 1) := by decide +kernel
theorem dX0_value_211 : decode cX0_value 211 = .ok (.laload, 1) := by decide +kernel
theorem dX0_value_212 : decode cX0_value 212 = .ok (.goto 6, 3) := by decide +kernel
theorem dX0_value_215 : decode cX0_value 215 = .ok (.ldc2_w 39, 3) := by decide +kernel
theorem dX0_value_218 : decode cX0_value 218 = .ok (.lreturn, 1) := by decide +kernel
def f_X0_clear_7 (o : Nat) (r7 : Int32 → Hp → Option Hp) (v2 : Int32) (h3 : Hp) : Option Hp :=
  if 4 ≤ v2 then
    some h3
  else
  grd (inb v2 4) <| lt_ (sA h3 0 o 2 v2.toNatClampNeg 0) fun h4 =>
  grd (inb v2 4) <| lt_ (sA h4 0 o 3 v2.toNatClampNeg 0) fun h5 =>
  lt_ (v2 + 1) fun v6 =>
  r7 v6 h5
def f_X0_clear (N : Nat) (h : Hp) (o : Nat) : Option Hp :=
  lt_ (sI h 0 o 6 0) fun h1 =>
  iter (fun _ _ => none) (f_X0_clear_7 o) N 0 h1
abbrev rmX0_clear : Room := { frames := 0, cells := 0, slots := 0, locals := 0 }
set_option maxRecDepth 100000 in
set_option maxHeartbeats 4000000 in
theorem w_X0_clear (X : Cx) (F : Fx X cX0_clear RX0 none rmX0_clear) (hA : xA X = Aw (xG X)) (hL : xL X = 2) (N : Nat) (h : Hp) (o : Nat) (h_o : o < cnt 0) : Wm X (fun _ => none) (fun v => v) (fun _ => True) 0 [(0, .ref (adr (xG X) 0 o 0))] [] h (f_X0_clear N h o) := by
  have hS : ∀ i : Nat, i < 2 → i < xL X := fun i z => by rw [hL]; exact z
  unfold f_X0_clear
  refine r_aload_n F 0 rfl dX0_clear_0 rfl ?_
  refine r_iconst F (v := 0) dX0_clear_1 (by decide) ?_
  refine r_putI F frX0_31 h_o rfl rfl dX0_clear_2 fun h1 => ?_
  refine r_iconst F (v := 0) dX0_clear_5 (by decide) ?_
  refine r_istore_n F [(1, .int 0), (0, .ref (adr (xG X) 0 o 0))] rfl dX0_clear_6 rfl (hS _ (by decide)) ?_
  have hl7 : ∀ n : Nat, ∀ v2 : Int32, ∀ h3 : Hp, Wm X (fun _ => none) (fun v => v) (fun _ => True) 7 [(0, .ref (adr (xG X) 0 o 0)), (1, .int v2)] [] h3 (iter (fun _ _ => none) (f_X0_clear_7 o) n v2 h3) := by
    intro n
    induction n with
    | zero => intro v2 h3; exact Wt_none
    | succ n ih =>
      revert ih
      show (∀ v2 : Int32, ∀ h3 : Hp, Wm X (fun _ => none) (fun v => v) (fun _ => True) 7 [(0, .ref (adr (xG X) 0 o 0)), (1, .int v2)] [] h3 (iter (fun _ _ => none) (f_X0_clear_7 o) n v2 h3)) → _
      intro ih7 v2 h3
      show Wm X (fun _ => none) (fun v => v) (fun _ => True) 7 [(0, .ref (adr (xG X) 0 o 0)), (1, .int v2)] [] h3 (f_X0_clear_7 o (iter (fun _ _ => none) (f_X0_clear_7 o) n) v2 h3)
      revert ih7
      generalize iter (fun _ _ => none) (f_X0_clear_7 o) n = r7
      intro ih7
      unfold f_X0_clear_7
      refine r_iload_n F 1 rfl dX0_clear_7 rfl ?_
      refine r_iconst F (v := 4) dX0_clear_8 (by decide) ?_
      refine r_icmpge F (tgt := 32) dX0_clear_9 (by decide) ?_ ?_
      · skip
        exact r_vret F hA rfl rfl trivial dX0_clear_32
      refine r_aload_n F 0 rfl dX0_clear_12 rfl ?_
      refine r_getA F frX0_18 h_o dX0_clear_13 ?_
      refine r_iload_n F 1 rfl dX0_clear_16 rfl ?_
      refine r_iconst F (v := 0) dX0_clear_17 (by decide) ?_
      refine r_iastore F (ar_0_2 o h_o) dX0_clear_18 fun h4 => ?_
      refine r_aload_n F 0 rfl dX0_clear_19 rfl ?_
      refine r_getA F frX0_21 h_o dX0_clear_20 ?_
      refine r_iload_n F 1 rfl dX0_clear_23 rfl ?_
      refine r_iconst F (v := 0) dX0_clear_24 (by decide) ?_
      refine r_iastore F (ar_0_3 o h_o) dX0_clear_25 fun h5 => ?_
      refine r_iinc F (v := 1) 1 rfl (by decide) (fun v6 => [(1, .int v6), (0, .ref (adr (xG X) 0 o 0))]) (fun _ => rfl) dX0_clear_26 (hS _ (by decide)) fun v6 => ?_
      refine r_goto F (tgt := 7) dX0_clear_29 (by decide) ?_
      exact Wt_pick [1, 0] rfl (ih7 v6 h5)
  exact Wt_pick [1, 0] rfl (hl7 N 0 h1)
theorem c_X0_clear (G : Gx) (l : Launch) (N : Nat) (h : Hp) (o : Nat) (h_o : o < cnt 0) : Ctr G l yX0_clear (.code yX0_clear cX0_clear 2 none :: GT) rmX0_clear [.ref (adr G 0 o 0)] h (f_X0_clear N h o) (fun _ => none) (fun v => v) (fun _ => True) :=
  ctr_of (by decide) (Nat.le_of_ble_eq_true rfl) ⟨rfl, rfl⟩ fun X _ e2 hA hL F => by subst e2; exact w_X0_clear X F hA hL N h o h_o
def f_X0_isTold (h : Hp) (o : Nat) (p1 : Int32) : Option Bool :=
  jn (fun (v1 : Bool) =>
    some v1) fun (j29 : Bool → Option Bool) =>
  jn (
    j29 false) fun (j28 : Option Bool) =>
  if p1 < 0 then
    j28
  else
  if 4 ≤ p1 then
    j28
  else
  grd (inb p1 4) <|
  grd (inb p1 4) <|
  if (gA h 0 o 3 p1.toNatClampNeg) ≤ (gA h 0 o 2 p1.toNatClampNeg) then
    j28
  else
  j29 true
abbrev rmX0_isTold : Room := { frames := 0, cells := 0, slots := 0, locals := 0 }
set_option maxRecDepth 100000 in
set_option maxHeartbeats 4000000 in
theorem w_X0_isTold (X : Cx) (F : Fx X cX0_isTold RX0 (some .boolean) rmX0_isTold) (hA : xA X = Aw (xG X)) (hL : xL X = 2) (h : Hp) (o : Nat) (h_o : o < cnt 0) (p1 : Int32) : Wm X (fun v => some (.int (b2i v))) (fun _ => h) (fun _ => True) 0 [(0, .ref (adr (xG X) 0 o 0)), (1, .int p1)] [] h (f_X0_isTold h o p1) := by
  have hS : ∀ i : Nat, i < 2 → i < xL X := fun i z => by rw [hL]; exact z
  unfold f_X0_isTold
  refine r_iload_n F 1 rfl dX0_isTold_0 rfl ?_
  refine Wt_jn (fun (j29 : Bool → Option Bool) => ∀ v1 : Bool, Wm X (fun v => some (.int (b2i v))) (fun _ => h) (fun _ => True) 29 [] [.int (b2i v1)] h (j29 v1)) ?_ fun j29 hj29 => ?_
  · intro v1
    exact r_zret F hA v1 rfl rfl rfl trivial dX0_isTold_29
  refine Wt_jn (fun (j28 : Option Bool) => Wm X (fun v => some (.int (b2i v))) (fun _ => h) (fun _ => True) 28 [] [] h (j28)) ?_ fun j28 hj28 => ?_
  · skip
    refine r_iconst F (v := 0) dX0_isTold_28 (by decide) ?_
    exact Wt_pick [] rfl (hj29 false)
  refine r_iflt F (tgt := 28) dX0_isTold_1 (by decide) ?_ ?_
  · skip
    exact Wt_pick [] rfl (hj28)
  refine r_iload_n F 1 rfl dX0_isTold_4 rfl ?_
  refine r_iconst F (v := 4) dX0_isTold_5 (by decide) ?_
  refine r_icmpge F (tgt := 28) dX0_isTold_6 (by decide) ?_ ?_
  · skip
    exact Wt_pick [] rfl (hj28)
  refine r_aload_n F 0 rfl dX0_isTold_9 rfl ?_
  refine r_getA F frX0_18 h_o dX0_isTold_10 ?_
  refine r_iload_n F 1 rfl dX0_isTold_13 rfl ?_
  refine r_iaload F (ar_0_2 o h_o) dX0_isTold_14 ?_
  refine r_aload_n F 0 rfl dX0_isTold_15 rfl ?_
  refine r_getA F frX0_21 h_o dX0_isTold_16 ?_
  refine r_iload_n F 1 rfl dX0_isTold_19 rfl ?_
  refine r_iaload F (ar_0_3 o h_o) dX0_isTold_20 ?_
  refine r_icmpge F (tgt := 28) dX0_isTold_21 (by decide) ?_ ?_
  · skip
    exact Wt_pick [] rfl (hj28)
  refine r_iconst F (v := 1) dX0_isTold_24 (by decide) ?_
  refine r_goto F (tgt := 29) dX0_isTold_25 (by decide) ?_
  exact Wt_pick [] rfl (hj29 true)
theorem c_X0_isTold (G : Gx) (l : Launch) (h : Hp) (o : Nat) (h_o : o < cnt 0) (p1 : Int32) : Ctr G l yX0_isTold (.code yX0_isTold cX0_isTold 2 (some .boolean) :: GT) rmX0_isTold [.ref (adr G 0 o 0), .int p1] h (f_X0_isTold h o p1) (fun v => some (.int (b2i v))) (fun _ => h) (fun _ => True) :=
  ctr_of (by decide) (Nat.le_of_ble_eq_true rfl) ⟨rfl, rfl⟩ fun X _ e2 hA hL F => by subst e2; exact w_X0_isTold X F hA hL h o h_o p1
def f_X0_begin (h : Hp) (o : Nat) (p1 : Int32) : Option Hp :=
  jn (fun (h1 : Hp) =>
    some h1) fun (j19 : Hp → Option Hp) =>
  if p1 < 0 then
    j19 h
  else
  if 4 ≤ p1 then
    j19 h
  else
  grd (inb p1 4) <| lt_ (sA h 0 o 2 p1.toNatClampNeg (gI h 0 o 6)) fun h2 =>
  j19 h2
abbrev rmX0_begin : Room := { frames := 0, cells := 0, slots := 0, locals := 0 }
set_option maxRecDepth 100000 in
set_option maxHeartbeats 4000000 in
theorem w_X0_begin (X : Cx) (F : Fx X cX0_begin RX0 none rmX0_begin) (hA : xA X = Aw (xG X)) (hL : xL X = 2) (h : Hp) (o : Nat) (h_o : o < cnt 0) (p1 : Int32) : Wm X (fun _ => none) (fun v => v) (fun _ => True) 0 [(0, .ref (adr (xG X) 0 o 0)), (1, .int p1)] [] h (f_X0_begin h o p1) := by
  have hS : ∀ i : Nat, i < 2 → i < xL X := fun i z => by rw [hL]; exact z
  unfold f_X0_begin
  refine r_iload_n F 1 rfl dX0_begin_0 rfl ?_
  refine Wt_jn (fun (j19 : Hp → Option Hp) => ∀ h1 : Hp, Wm X (fun _ => none) (fun v => v) (fun _ => True) 19 [] [] h1 (j19 h1)) ?_ fun j19 hj19 => ?_
  · intro h1
    exact r_vret F hA rfl rfl trivial dX0_begin_19
  refine r_iflt F (tgt := 19) dX0_begin_1 (by decide) ?_ ?_
  · skip
    exact Wt_pick [] rfl (hj19 h)
  refine r_iload_n F 1 rfl dX0_begin_4 rfl ?_
  refine r_iconst F (v := 4) dX0_begin_5 (by decide) ?_
  refine r_icmpge F (tgt := 19) dX0_begin_6 (by decide) ?_ ?_
  · skip
    exact Wt_pick [] rfl (hj19 h)
  refine r_aload_n F 0 rfl dX0_begin_9 rfl ?_
  refine r_getA F frX0_18 h_o dX0_begin_10 ?_
  refine r_iload_n F 1 rfl dX0_begin_13 rfl ?_
  refine r_aload_n F 0 rfl dX0_begin_14 rfl ?_
  refine r_getI F frX0_31 h_o dX0_begin_15 ?_
  refine r_iastore F (ar_0_2 o h_o) dX0_begin_18 fun h2 => ?_
  exact Wt_pick [] rfl (hj19 h2)
theorem c_X0_begin (G : Gx) (l : Launch) (h : Hp) (o : Nat) (h_o : o < cnt 0) (p1 : Int32) : Ctr G l yX0_begin (.code yX0_begin cX0_begin 2 none :: GT) rmX0_begin [.ref (adr G 0 o 0), .int p1] h (f_X0_begin h o p1) (fun _ => none) (fun v => v) (fun _ => True) :=
  ctr_of (by decide) (Nat.le_of_ble_eq_true rfl) ⟨rfl, rfl⟩ fun X _ e2 hA hL F => by subst e2; exact w_X0_begin X F hA hL h o h_o p1
def f_X0_put (h : Hp) (o : Nat) (p1 : Int32) (p2 : Int32) : Option Hp :=
  jn (fun (h1 : Hp) =>
    some h1) fun (j39 : Hp → Option Hp) =>
  if 64 ≤ (gI h 0 o 6) then
    j39 h
  else
  grd (inb (gI h 0 o 6) 64) <| lt_ (sA h 0 o 0 (gI h 0 o 6).toNatClampNeg p1) fun h2 =>
  grd (inb (gI h2 0 o 6) 64) <| lt_ (sA h2 0 o 1 (gI h2 0 o 6).toNatClampNeg p2) fun h3 =>
  lt_ (sI h3 0 o 6 ((gI h3 0 o 6) + 1)) fun h4 =>
  j39 h4
abbrev rmX0_put : Room := { frames := 0, cells := 0, slots := 0, locals := 0 }
set_option maxRecDepth 100000 in
set_option maxHeartbeats 4000000 in
theorem w_X0_put (X : Cx) (F : Fx X cX0_put RX0 none rmX0_put) (hA : xA X = Aw (xG X)) (hL : xL X = 3) (h : Hp) (o : Nat) (h_o : o < cnt 0) (p1 : Int32) (p2 : Int32) : Wm X (fun _ => none) (fun v => v) (fun _ => True) 0 [(0, .ref (adr (xG X) 0 o 0)), (1, .int p1), (2, .int p2)] [] h (f_X0_put h o p1 p2) := by
  have hS : ∀ i : Nat, i < 3 → i < xL X := fun i z => by rw [hL]; exact z
  unfold f_X0_put
  refine r_aload_n F 0 rfl dX0_put_0 rfl ?_
  refine r_getI F frX0_31 h_o dX0_put_1 ?_
  refine r_bipush F (v := 64) dX0_put_4 (by decide) ?_
  refine Wt_jn (fun (j39 : Hp → Option Hp) => ∀ h1 : Hp, Wm X (fun _ => none) (fun v => v) (fun _ => True) 39 [] [] h1 (j39 h1)) ?_ fun j39 hj39 => ?_
  · intro h1
    exact r_vret F hA rfl rfl trivial dX0_put_39
  refine r_icmpge F (tgt := 39) dX0_put_6 (by decide) ?_ ?_
  · skip
    exact Wt_pick [] rfl (hj39 h)
  refine r_aload_n F 0 rfl dX0_put_9 rfl ?_
  refine r_getA F frX0_11 h_o dX0_put_10 ?_
  refine r_aload_n F 0 rfl dX0_put_13 rfl ?_
  refine r_getI F frX0_31 h_o dX0_put_14 ?_
  refine r_iload_n F 1 rfl dX0_put_17 rfl ?_
  refine r_iastore F (ar_0_0 o h_o) dX0_put_18 fun h2 => ?_
  refine r_aload_n F 0 rfl dX0_put_19 rfl ?_
  refine r_getA F frX0_15 h_o dX0_put_20 ?_
  refine r_aload_n F 0 rfl dX0_put_23 rfl ?_
  refine r_getI F frX0_31 h_o dX0_put_24 ?_
  refine r_iload_n F 2 rfl dX0_put_27 rfl ?_
  refine r_iastore F (ar_0_1 o h_o) dX0_put_28 fun h3 => ?_
  refine r_aload_n F 0 rfl dX0_put_29 rfl ?_
  refine r_dup F rfl dX0_put_30 ?_
  refine r_getI F frX0_31 h_o dX0_put_31 ?_
  refine r_iconst F (v := 1) dX0_put_34 (by decide) ?_
  refine r_iadd F dX0_put_35 ?_
  refine r_putI F frX0_31 h_o rfl rfl dX0_put_36 fun h4 => ?_
  exact Wt_pick [] rfl (hj39 h4)
theorem c_X0_put (G : Gx) (l : Launch) (h : Hp) (o : Nat) (h_o : o < cnt 0) (p1 : Int32) (p2 : Int32) : Ctr G l yX0_put (.code yX0_put cX0_put 3 none :: GT) rmX0_put [.ref (adr G 0 o 0), .int p1, .int p2] h (f_X0_put h o p1 p2) (fun _ => none) (fun v => v) (fun _ => True) :=
  ctr_of (by decide) (Nat.le_of_ble_eq_true rfl) ⟨rfl, rfl⟩ fun X _ e2 hA hL F => by subst e2; exact w_X0_put X F hA hL h o h_o p1 p2
def f_X0_end (h : Hp) (o : Nat) (p1 : Int32) : Option Hp :=
  jn (fun (h1 : Hp) =>
    some h1) fun (j19 : Hp → Option Hp) =>
  if p1 < 0 then
    j19 h
  else
  if 4 ≤ p1 then
    j19 h
  else
  grd (inb p1 4) <| lt_ (sA h 0 o 3 p1.toNatClampNeg (gI h 0 o 6)) fun h2 =>
  j19 h2
abbrev rmX0_end : Room := { frames := 0, cells := 0, slots := 0, locals := 0 }
set_option maxRecDepth 100000 in
set_option maxHeartbeats 4000000 in
theorem w_X0_end (X : Cx) (F : Fx X cX0_end RX0 none rmX0_end) (hA : xA X = Aw (xG X)) (hL : xL X = 2) (h : Hp) (o : Nat) (h_o : o < cnt 0) (p1 : Int32) : Wm X (fun _ => none) (fun v => v) (fun _ => True) 0 [(0, .ref (adr (xG X) 0 o 0)), (1, .int p1)] [] h (f_X0_end h o p1) := by
  have hS : ∀ i : Nat, i < 2 → i < xL X := fun i z => by rw [hL]; exact z
  unfold f_X0_end
  refine r_iload_n F 1 rfl dX0_end_0 rfl ?_
  refine Wt_jn (fun (j19 : Hp → Option Hp) => ∀ h1 : Hp, Wm X (fun _ => none) (fun v => v) (fun _ => True) 19 [] [] h1 (j19 h1)) ?_ fun j19 hj19 => ?_
  · intro h1
    exact r_vret F hA rfl rfl trivial dX0_end_19
  refine r_iflt F (tgt := 19) dX0_end_1 (by decide) ?_ ?_
  · skip
    exact Wt_pick [] rfl (hj19 h)
  refine r_iload_n F 1 rfl dX0_end_4 rfl ?_
  refine r_iconst F (v := 4) dX0_end_5 (by decide) ?_
  refine r_icmpge F (tgt := 19) dX0_end_6 (by decide) ?_ ?_
  · skip
    exact Wt_pick [] rfl (hj19 h)
  refine r_aload_n F 0 rfl dX0_end_9 rfl ?_
  refine r_getA F frX0_21 h_o dX0_end_10 ?_
  refine r_iload_n F 1 rfl dX0_end_13 rfl ?_
  refine r_aload_n F 0 rfl dX0_end_14 rfl ?_
  refine r_getI F frX0_31 h_o dX0_end_15 ?_
  refine r_iastore F (ar_0_3 o h_o) dX0_end_18 fun h2 => ?_
  exact Wt_pick [] rfl (hj19 h2)
theorem c_X0_end (G : Gx) (l : Launch) (h : Hp) (o : Nat) (h_o : o < cnt 0) (p1 : Int32) : Ctr G l yX0_end (.code yX0_end cX0_end 2 none :: GT) rmX0_end [.ref (adr G 0 o 0), .int p1] h (f_X0_end h o p1) (fun _ => none) (fun v => v) (fun _ => True) :=
  ctr_of (by decide) (Nat.le_of_ble_eq_true rfl) ⟨rfl, rfl⟩ fun X _ e2 hA hL F => by subst e2; exact w_X0_end X F hA hL h o h_o p1
def f_X0_joined (p0 : Int32) (p1 : Int64) (p3 : Int64) : Option Int64 :=
  if p0 = 4 then
    jn (fun (v1 : Int64) =>
      some v1) fun (j236 : Int64 → Option Int64) =>
    if 0 < (lg_cmp p1 p3) then
      j236 ((0 : Int64))
    else
    j236 ((1 : Int64))
  else
  if p0 = 5 then
    jn (fun (v2 : Int64) =>
      some v2) fun (j248 : Int64 → Option Int64) =>
    if (lg_cmp p1 p3) = 0 then
      j248 ((0 : Int64))
    else
    j248 ((1 : Int64))
  else
  if p0 = 6 then
    jn (fun (v3 : Int64) =>
      some v3) fun (j260 : Int64 → Option Int64) =>
    if (lg_cmp p1 p3) < 0 then
      j260 ((0 : Int64))
    else
    j260 ((1 : Int64))
  else
  if p0 = 42 then
    jn (fun (v4 : Int64) =>
      jn (fun (v5 : Int64) =>
        jn (fun (v6 : Int64) =>
          some v6) fun (j172 : Int64 → Option Int64) =>
        jn (
          j172 ((p1 * p3))) fun (j169 : Option Int64) =>
        if (lg_cmp v4 (0 : Int64)) = 0 then
          j169
        else
        grd (¬ v4 = 0) <|
        if (lg_cmp v5 ((1000000000000 : Int64) / v4)) ≤ 0 then
          j169
        else
        j172 ((-9223372036854775808 : Int64))) fun (j142 : Int64 → Option Int64) =>
      if 0 ≤ (lg_cmp p3 (0 : Int64)) then
        j142 p3
      else
      j142 ((-p3))) fun (j128 : Int64 → Option Int64) =>
    if 0 ≤ (lg_cmp p1 (0 : Int64)) then
      j128 p1
    else
    j128 ((-p1))
  else
  if p0 = 43 then
    some (p1 + p3)
  else
  if p0 = 45 then
    some (p1 - p3)
  else
  if p0 = 47 then
    jn (fun (v7 : Int64) =>
      some v7) fun (j188 : Int64 → Option Int64) =>
    if ¬ (lg_cmp p3 (0 : Int64)) = 0 then
      grd (¬ p3 = 0) <|
      j188 ((p1 / p3))
    else
    j188 ((-9223372036854775808 : Int64))
  else
  if p0 = 60 then
    jn (fun (v8 : Int64) =>
      some v8) fun (j200 : Int64 → Option Int64) =>
    if 0 ≤ (lg_cmp p1 p3) then
      j200 ((0 : Int64))
    else
    j200 ((1 : Int64))
  else
  if p0 = 61 then
    jn (fun (v9 : Int64) =>
      some v9) fun (j212 : Int64 → Option Int64) =>
    if ¬ (lg_cmp p1 p3) = 0 then
      j212 ((0 : Int64))
    else
    j212 ((1 : Int64))
  else
  if p0 = 62 then
    jn (fun (v10 : Int64) =>
      some v10) fun (j224 : Int64 → Option Int64) =>
    if (lg_cmp p1 p3) ≤ 0 then
      j224 ((0 : Int64))
    else
    j224 ((1 : Int64))
  else
  if p0 = 280 then
    jn (fun (v11 : Int64) =>
      some v11) fun (j278 : Int64 → Option Int64) =>
    jn (
      j278 ((0 : Int64))) fun (j277 : Option Int64) =>
    if (lg_cmp p1 (0 : Int64)) = 0 then
      j277
    else
    if (lg_cmp p3 (0 : Int64)) = 0 then
      j277
    else
    j278 ((1 : Int64))
  else
  if p0 = 281 then
    jn (fun (v12 : Int64) =>
      some v12) fun (j296 : Int64 → Option Int64) =>
    jn (
      j296 ((1 : Int64))) fun (j291 : Option Int64) =>
    if ¬ (lg_cmp p1 (0 : Int64)) = 0 then
      j291
    else
    if (lg_cmp p3 (0 : Int64)) = 0 then
      j296 ((0 : Int64))
    else
    j291
  else
  some (-9223372036854775808 : Int64)
abbrev rmX0_joined : Room := { frames := 0, cells := 0, slots := 0, locals := 0 }
set_option maxRecDepth 100000 in
set_option maxHeartbeats 4000000 in
theorem w_X0_joined (X : Cx) (F : Fx X cX0_joined RX0 (some .long) rmX0_joined) (hA : xA X = Aw (xG X)) (hL : xL X = 9) (h : Hp) (p0 : Int32) (p1 : Int64) (p3 : Int64) : Wm X (fun v => some (.long v)) (fun _ => h) (fun _ => True) 0 [(0, .int p0), (1, .long p1), (3, .long p3)] [] h (f_X0_joined p0 p1 p3) := by
  have hS : ∀ i : Nat, i < 9 → i < xL X := fun i z => by rw [hL]; exact z
  unfold f_X0_joined
  refine r_iload_n F 0 rfl dX0_joined_0 rfl ?_
  refine r_lsc F (tgt := 225) (off := 224) 4 dX0_joined_1 (by decide) (by decide) (by decide) ?_ fun n0 => ?_
  · skip
    refine r_lload_n F 1 rfl dX0_joined_225 rfl ?_
    refine r_lload_n F 2 rfl dX0_joined_226 rfl ?_
    refine r_lcmp F dX0_joined_227 ?_
    refine Wt_jn (fun (j236 : Int64 → Option Int64) => ∀ v1 : Int64, Wm X (fun v => some (.long v)) (fun _ => h) (fun _ => True) 236 [] [.long v1] h (j236 v1)) ?_ fun j236 hj236 => ?_
    · intro v1
      exact r_lret F hA rfl rfl trivial dX0_joined_236
    refine r_ifgt F (tgt := 235) dX0_joined_228 (by decide) ?_ ?_
    · skip
      refine r_lconst F (v := 0) dX0_joined_235 (by decide) ?_
      exact Wt_pick [] rfl (hj236 ((0 : Int64)))
    refine r_lconst F (v := 1) dX0_joined_231 (by decide) ?_
    refine r_goto F (tgt := 236) dX0_joined_232 (by decide) ?_
    exact Wt_pick [] rfl (hj236 ((1 : Int64)))
  refine r_lsc F (tgt := 237) (off := 236) 5 dX0_joined_1 (by decide) (by decide) (by decide) ?_ fun n1 => ?_
  · skip
    refine r_lload_n F 1 rfl dX0_joined_237 rfl ?_
    refine r_lload_n F 2 rfl dX0_joined_238 rfl ?_
    refine r_lcmp F dX0_joined_239 ?_
    refine Wt_jn (fun (j248 : Int64 → Option Int64) => ∀ v2 : Int64, Wm X (fun v => some (.long v)) (fun _ => h) (fun _ => True) 248 [] [.long v2] h (j248 v2)) ?_ fun j248 hj248 => ?_
    · intro v2
      exact r_lret F hA rfl rfl trivial dX0_joined_248
    refine r_ifeq F (tgt := 247) dX0_joined_240 (by decide) ?_ ?_
    · skip
      refine r_lconst F (v := 0) dX0_joined_247 (by decide) ?_
      exact Wt_pick [] rfl (hj248 ((0 : Int64)))
    refine r_lconst F (v := 1) dX0_joined_243 (by decide) ?_
    refine r_goto F (tgt := 248) dX0_joined_244 (by decide) ?_
    exact Wt_pick [] rfl (hj248 ((1 : Int64)))
  refine r_lsc F (tgt := 249) (off := 248) 6 dX0_joined_1 (by decide) (by decide) (by decide) ?_ fun n2 => ?_
  · skip
    refine r_lload_n F 1 rfl dX0_joined_249 rfl ?_
    refine r_lload_n F 2 rfl dX0_joined_250 rfl ?_
    refine r_lcmp F dX0_joined_251 ?_
    refine Wt_jn (fun (j260 : Int64 → Option Int64) => ∀ v3 : Int64, Wm X (fun v => some (.long v)) (fun _ => h) (fun _ => True) 260 [] [.long v3] h (j260 v3)) ?_ fun j260 hj260 => ?_
    · intro v3
      exact r_lret F hA rfl rfl trivial dX0_joined_260
    refine r_iflt F (tgt := 259) dX0_joined_252 (by decide) ?_ ?_
    · skip
      refine r_lconst F (v := 0) dX0_joined_259 (by decide) ?_
      exact Wt_pick [] rfl (hj260 ((0 : Int64)))
    refine r_lconst F (v := 1) dX0_joined_255 (by decide) ?_
    refine r_goto F (tgt := 260) dX0_joined_256 (by decide) ?_
    exact Wt_pick [] rfl (hj260 ((1 : Int64)))
  refine r_lsc F (tgt := 116) (off := 115) 42 dX0_joined_1 (by decide) (by decide) (by decide) ?_ fun n3 => ?_
  · skip
    refine r_lload_n F 1 rfl dX0_joined_116 rfl ?_
    refine r_lconst F (v := 0) dX0_joined_117 (by decide) ?_
    refine r_lcmp F dX0_joined_118 ?_
    refine Wt_jn (fun (j128 : Int64 → Option Int64) => ∀ v4 : Int64, Wm X (fun v => some (.long v)) (fun _ => h) (fun _ => True) 128 [(1, .long p1), (3, .long p3)] [.long v4] h (j128 v4)) ?_ fun j128 hj128 => ?_
    · intro v4
      refine r_lstore F [(5, .long v4), (1, .long p1), (3, .long p3)] rfl dX0_joined_128 (hS _ (by decide)) ?_
      refine r_lload_n F 2 rfl dX0_joined_130 rfl ?_
      refine r_lconst F (v := 0) dX0_joined_131 (by decide) ?_
      refine r_lcmp F dX0_joined_132 ?_
      refine Wt_jn (fun (j142 : Int64 → Option Int64) => ∀ v5 : Int64, Wm X (fun v => some (.long v)) (fun _ => h) (fun _ => True) 142 [(1, .long p1), (3, .long p3), (5, .long v4)] [.long v5] h (j142 v5)) ?_ fun j142 hj142 => ?_
      · intro v5
        refine r_lstore F [(7, .long v5), (1, .long p1), (3, .long p3), (5, .long v4)] rfl dX0_joined_142 (hS _ (by decide)) ?_
        refine r_lload F 3 rfl dX0_joined_144 ?_
        refine r_lconst F (v := 0) dX0_joined_146 (by decide) ?_
        refine r_lcmp F dX0_joined_147 ?_
        refine Wt_jn (fun (j172 : Int64 → Option Int64) => ∀ v6 : Int64, Wm X (fun v => some (.long v)) (fun _ => h) (fun _ => True) 172 [] [.long v6] h (j172 v6)) ?_ fun j172 hj172 => ?_
        · intro v6
          exact r_lret F hA rfl rfl trivial dX0_joined_172
        refine Wt_jn (fun (j169 : Option Int64) => Wm X (fun v => some (.long v)) (fun _ => h) (fun _ => True) 169 [(1, .long p1), (3, .long p3)] [] h (j169)) ?_ fun j169 hj169 => ?_
        · skip
          refine r_lload_n F 0 rfl dX0_joined_169 rfl ?_
          refine r_lload_n F 1 rfl dX0_joined_170 rfl ?_
          refine r_lmul F dX0_joined_171 ?_
          exact Wt_pick [] rfl (hj172 ((p1 * p3)))
        refine r_ifeq F (tgt := 169) dX0_joined_148 (by decide) ?_ ?_
        · skip
          exact Wt_pick [1, 2] rfl (hj169)
        refine r_lload F 0 rfl dX0_joined_151 ?_
        refine r_ldc2 F wd_668 dX0_joined_153 ?_
        refine r_lload F 3 rfl dX0_joined_156 ?_
        refine r_ldiv F dX0_joined_158 ?_
        refine r_lcmp F dX0_joined_159 ?_
        refine r_ifle F (tgt := 169) dX0_joined_160 (by decide) ?_ ?_
        · skip
          exact Wt_pick [1, 2] rfl (hj169)
        refine r_ldc2 F wd_664 dX0_joined_163 ?_
        refine r_goto F (tgt := 172) dX0_joined_166 (by decide) ?_
        exact Wt_pick [] rfl (hj172 ((-9223372036854775808 : Int64)))
      refine r_ifge F (tgt := 141) dX0_joined_133 (by decide) ?_ ?_
      · skip
        refine r_lload_n F 2 rfl dX0_joined_141 rfl ?_
        exact Wt_pick [1, 2, 0] rfl (hj142 p3)
      refine r_lload_n F 2 rfl dX0_joined_136 rfl ?_
      refine r_lneg F dX0_joined_137 ?_
      refine r_goto F (tgt := 142) dX0_joined_138 (by decide) ?_
      exact Wt_pick [1, 2, 0] rfl (hj142 ((-p3)))
    refine r_ifge F (tgt := 127) dX0_joined_119 (by decide) ?_ ?_
    · skip
      refine r_lload_n F 1 rfl dX0_joined_127 rfl ?_
      exact Wt_pick [1, 2] rfl (hj128 p1)
    refine r_lload_n F 1 rfl dX0_joined_122 rfl ?_
    refine r_lneg F dX0_joined_123 ?_
    refine r_goto F (tgt := 128) dX0_joined_124 (by decide) ?_
    exact Wt_pick [1, 2] rfl (hj128 ((-p1)))
  refine r_lsc F (tgt := 108) (off := 107) 43 dX0_joined_1 (by decide) (by decide) (by decide) ?_ fun n4 => ?_
  · skip
    refine r_lload_n F 1 rfl dX0_joined_108 rfl ?_
    refine r_lload_n F 2 rfl dX0_joined_109 rfl ?_
    refine r_ladd F dX0_joined_110 ?_
    exact r_lret F hA rfl rfl trivial dX0_joined_111
  refine r_lsc F (tgt := 112) (off := 111) 45 dX0_joined_1 (by decide) (by decide) (by decide) ?_ fun n5 => ?_
  · skip
    refine r_lload_n F 1 rfl dX0_joined_112 rfl ?_
    refine r_lload_n F 2 rfl dX0_joined_113 rfl ?_
    refine r_lsub F dX0_joined_114 ?_
    exact r_lret F hA rfl rfl trivial dX0_joined_115
  refine r_lsc F (tgt := 173) (off := 172) 47 dX0_joined_1 (by decide) (by decide) (by decide) ?_ fun n6 => ?_
  · skip
    refine r_lload_n F 2 rfl dX0_joined_173 rfl ?_
    refine r_lconst F (v := 0) dX0_joined_174 (by decide) ?_
    refine r_lcmp F dX0_joined_175 ?_
    refine Wt_jn (fun (j188 : Int64 → Option Int64) => ∀ v7 : Int64, Wm X (fun v => some (.long v)) (fun _ => h) (fun _ => True) 188 [] [.long v7] h (j188 v7)) ?_ fun j188 hj188 => ?_
    · intro v7
      exact r_lret F hA rfl rfl trivial dX0_joined_188
    refine r_ifne F (tgt := 185) dX0_joined_176 (by decide) ?_ ?_
    · skip
      refine r_lload_n F 1 rfl dX0_joined_185 rfl ?_
      refine r_lload_n F 2 rfl dX0_joined_186 rfl ?_
      refine r_ldiv F dX0_joined_187 ?_
      exact Wt_pick [] rfl (hj188 ((p1 / p3)))
    refine r_ldc2 F wd_664 dX0_joined_179 ?_
    refine r_goto F (tgt := 188) dX0_joined_182 (by decide) ?_
    exact Wt_pick [] rfl (hj188 ((-9223372036854775808 : Int64)))
  refine r_lsc F (tgt := 189) (off := 188) 60 dX0_joined_1 (by decide) (by decide) (by decide) ?_ fun n7 => ?_
  · skip
    refine r_lload_n F 1 rfl dX0_joined_189 rfl ?_
    refine r_lload_n F 2 rfl dX0_joined_190 rfl ?_
    refine r_lcmp F dX0_joined_191 ?_
    refine Wt_jn (fun (j200 : Int64 → Option Int64) => ∀ v8 : Int64, Wm X (fun v => some (.long v)) (fun _ => h) (fun _ => True) 200 [] [.long v8] h (j200 v8)) ?_ fun j200 hj200 => ?_
    · intro v8
      exact r_lret F hA rfl rfl trivial dX0_joined_200
    refine r_ifge F (tgt := 199) dX0_joined_192 (by decide) ?_ ?_
    · skip
      refine r_lconst F (v := 0) dX0_joined_199 (by decide) ?_
      exact Wt_pick [] rfl (hj200 ((0 : Int64)))
    refine r_lconst F (v := 1) dX0_joined_195 (by decide) ?_
    refine r_goto F (tgt := 200) dX0_joined_196 (by decide) ?_
    exact Wt_pick [] rfl (hj200 ((1 : Int64)))
  refine r_lsc F (tgt := 201) (off := 200) 61 dX0_joined_1 (by decide) (by decide) (by decide) ?_ fun n8 => ?_
  · skip
    refine r_lload_n F 1 rfl dX0_joined_201 rfl ?_
    refine r_lload_n F 2 rfl dX0_joined_202 rfl ?_
    refine r_lcmp F dX0_joined_203 ?_
    refine Wt_jn (fun (j212 : Int64 → Option Int64) => ∀ v9 : Int64, Wm X (fun v => some (.long v)) (fun _ => h) (fun _ => True) 212 [] [.long v9] h (j212 v9)) ?_ fun j212 hj212 => ?_
    · intro v9
      exact r_lret F hA rfl rfl trivial dX0_joined_212
    refine r_ifne F (tgt := 211) dX0_joined_204 (by decide) ?_ ?_
    · skip
      refine r_lconst F (v := 0) dX0_joined_211 (by decide) ?_
      exact Wt_pick [] rfl (hj212 ((0 : Int64)))
    refine r_lconst F (v := 1) dX0_joined_207 (by decide) ?_
    refine r_goto F (tgt := 212) dX0_joined_208 (by decide) ?_
    exact Wt_pick [] rfl (hj212 ((1 : Int64)))
  refine r_lsc F (tgt := 213) (off := 212) 62 dX0_joined_1 (by decide) (by decide) (by decide) ?_ fun n9 => ?_
  · skip
    refine r_lload_n F 1 rfl dX0_joined_213 rfl ?_
    refine r_lload_n F 2 rfl dX0_joined_214 rfl ?_
    refine r_lcmp F dX0_joined_215 ?_
    refine Wt_jn (fun (j224 : Int64 → Option Int64) => ∀ v10 : Int64, Wm X (fun v => some (.long v)) (fun _ => h) (fun _ => True) 224 [] [.long v10] h (j224 v10)) ?_ fun j224 hj224 => ?_
    · intro v10
      exact r_lret F hA rfl rfl trivial dX0_joined_224
    refine r_ifle F (tgt := 223) dX0_joined_216 (by decide) ?_ ?_
    · skip
      refine r_lconst F (v := 0) dX0_joined_223 (by decide) ?_
      exact Wt_pick [] rfl (hj224 ((0 : Int64)))
    refine r_lconst F (v := 1) dX0_joined_219 (by decide) ?_
    refine r_goto F (tgt := 224) dX0_joined_220 (by decide) ?_
    exact Wt_pick [] rfl (hj224 ((1 : Int64)))
  refine r_lsc F (tgt := 261) (off := 260) 280 dX0_joined_1 (by decide) (by decide) (by decide) ?_ fun n10 => ?_
  · skip
    refine r_lload_n F 1 rfl dX0_joined_261 rfl ?_
    refine r_lconst F (v := 0) dX0_joined_262 (by decide) ?_
    refine r_lcmp F dX0_joined_263 ?_
    refine Wt_jn (fun (j278 : Int64 → Option Int64) => ∀ v11 : Int64, Wm X (fun v => some (.long v)) (fun _ => h) (fun _ => True) 278 [] [.long v11] h (j278 v11)) ?_ fun j278 hj278 => ?_
    · intro v11
      exact r_lret F hA rfl rfl trivial dX0_joined_278
    refine Wt_jn (fun (j277 : Option Int64) => Wm X (fun v => some (.long v)) (fun _ => h) (fun _ => True) 277 [] [] h (j277)) ?_ fun j277 hj277 => ?_
    · skip
      refine r_lconst F (v := 0) dX0_joined_277 (by decide) ?_
      exact Wt_pick [] rfl (hj278 ((0 : Int64)))
    refine r_ifeq F (tgt := 277) dX0_joined_264 (by decide) ?_ ?_
    · skip
      exact Wt_pick [] rfl (hj277)
    refine r_lload_n F 2 rfl dX0_joined_267 rfl ?_
    refine r_lconst F (v := 0) dX0_joined_268 (by decide) ?_
    refine r_lcmp F dX0_joined_269 ?_
    refine r_ifeq F (tgt := 277) dX0_joined_270 (by decide) ?_ ?_
    · skip
      exact Wt_pick [] rfl (hj277)
    refine r_lconst F (v := 1) dX0_joined_273 (by decide) ?_
    refine r_goto F (tgt := 278) dX0_joined_274 (by decide) ?_
    exact Wt_pick [] rfl (hj278 ((1 : Int64)))
  refine r_lsc F (tgt := 279) (off := 278) 281 dX0_joined_1 (by decide) (by decide) (by decide) ?_ fun n11 => ?_
  · skip
    refine r_lload_n F 1 rfl dX0_joined_279 rfl ?_
    refine r_lconst F (v := 0) dX0_joined_280 (by decide) ?_
    refine r_lcmp F dX0_joined_281 ?_
    refine Wt_jn (fun (j296 : Int64 → Option Int64) => ∀ v12 : Int64, Wm X (fun v => some (.long v)) (fun _ => h) (fun _ => True) 296 [] [.long v12] h (j296 v12)) ?_ fun j296 hj296 => ?_
    · intro v12
      exact r_lret F hA rfl rfl trivial dX0_joined_296
    refine Wt_jn (fun (j291 : Option Int64) => Wm X (fun v => some (.long v)) (fun _ => h) (fun _ => True) 291 [] [] h (j291)) ?_ fun j291 hj291 => ?_
    · skip
      refine r_lconst F (v := 1) dX0_joined_291 (by decide) ?_
      refine r_goto F (tgt := 296) dX0_joined_292 (by decide) ?_
      exact Wt_pick [] rfl (hj296 ((1 : Int64)))
    refine r_ifne F (tgt := 291) dX0_joined_282 (by decide) ?_ ?_
    · skip
      exact Wt_pick [] rfl (hj291)
    refine r_lload_n F 2 rfl dX0_joined_285 rfl ?_
    refine r_lconst F (v := 0) dX0_joined_286 (by decide) ?_
    refine r_lcmp F dX0_joined_287 ?_
    refine r_ifeq F (tgt := 295) dX0_joined_288 (by decide) ?_ ?_
    · skip
      refine r_lconst F (v := 0) dX0_joined_295 (by decide) ?_
      exact Wt_pick [] rfl (hj296 ((0 : Int64)))
    exact Wt_pick [] rfl (hj291)
  refine r_lsd F (tgt := 297) dX0_joined_1 (by decide) ((lv_osw n0 (by decide)).trans ((lv_osw n1 (by decide)).trans ((lv_osw n2 (by decide)).trans ((lv_osw n3 (by decide)).trans ((lv_osw n4 (by decide)).trans ((lv_osw n5 (by decide)).trans ((lv_osw n6 (by decide)).trans ((lv_osw n7 (by decide)).trans ((lv_osw n8 (by decide)).trans ((lv_osw n9 (by decide)).trans ((lv_osw n10 (by decide)).trans ((lv_osw n11 (by decide)).trans (rfl))))))))))))) (by decide) ?_
  refine r_ldc2 F wd_664 dX0_joined_297 ?_
  exact r_lret F hA rfl rfl trivial dX0_joined_300
theorem c_X0_joined (G : Gx) (l : Launch) (h : Hp) (p0 : Int32) (p1 : Int64) (p3 : Int64) : Ctr G l yX0_joined (.code yX0_joined cX0_joined 9 (some .long) :: GT) rmX0_joined [.int p0, .long p1, .long p3] h (f_X0_joined p0 p1 p3) (fun v => some (.long v)) (fun _ => h) (fun _ => True) :=
  ctr_of (by decide) (Nat.le_of_ble_eq_true rfl) ⟨rfl, rfl⟩ fun X _ e2 hA hL F => by subst e2; exact w_X0_joined X F hA hL h p0 p1 p3
def f_X0_value_21 (o : Nat) (p1 : Int32) (r21 : Int32 → Int32 → Hp → Option (Int64 × Hp)) (v3 : Int32) (v4 : Int32) (h5 : Hp) : Option (Int64 × Hp) :=
  grd (inb p1 4) <|
  if (gA h5 0 o 3 p1.toNatClampNeg) ≤ v4 then
    jn (fun (v6 : Int64) =>
      some (v6, h5)) fun (j218 : Int64 → Option (Int64 × Hp)) =>
    if ¬ v3 = 1 then
      j218 ((-9223372036854775808 : Int64))
    else
    grd (inb 0 64) <|
    j218 ((gB h5 0 o 5 (0 : Int32).toNatClampNeg))
  else
  grd (inb v4 64) <|
  lt_ ((gA h5 0 o 0 v4.toNatClampNeg)) fun v7 =>
  jn (fun (v8 : Int32) (v9 : Int64) =>
    jn (
      some ((-9223372036854775808 : Int64), h5)) fun (j180 : Option (Int64 × Hp)) =>
    if 0 < (lg_cmp v9 (1000000000000 : Int64)) then
      j180
    else
    if 0 ≤ (lg_cmp v9 (-1000000000000 : Int64)) then
      grd (inb v8 64) <| lt_ (sB h5 0 o 5 v8.toNatClampNeg v9) fun h10 =>
      lt_ (v8 + 1) fun v11 =>
      lt_ (v4 + 1) fun v12 =>
      r21 v11 v12 h10
    else
    j180) fun (j162 : Int32 → Int64 → Option (Int64 × Hp)) =>
  if ¬ v7 = 2 then
    jn (
      jn (
        if v3 < 2 then
          some ((-9223372036854775808 : Int64), h5)
        else
        lt_ (v3 + (-2)) fun v13 =>
        grd (inb v13 64) <|
        grd (inb (v13 + 1) 64) <|
        (f_X0_joined v7 (gB h5 0 o 5 v13.toNatClampNeg) (gB h5 0 o 5 (v13 + 1).toNatClampNeg)).bind fun v14 =>
        j162 v13 v14) fun (j126 : Option (Int64 × Hp)) =>
      if ¬ v7 = 279 then
        j126
      else
      if v3 < 1 then
        j126
      else
      lt_ (v3 + (-1)) fun v15 =>
      grd (inb v15 64) <|
      jn (fun (v16 : Int64) =>
        j162 v15 v16) fun (j121 : Int64 → Option (Int64 × Hp)) =>
      if ¬ (lg_cmp (gB h5 0 o 5 v15.toNatClampNeg) (0 : Int64)) = 0 then
        j121 ((0 : Int64))
      else
      j121 ((1 : Int64))) fun (j89 : Option (Int64 × Hp)) =>
    if v7 < 272 then
      j89
    else
    if 278 < v7 then
      j89
    else
    grd (inb (v7 - 272) 7) <|
    lt_ ((gB h5 0 o 4 (v7 - 272).toNatClampNeg)) fun v17 =>
    j162 v3 v17
  else
  grd (inb v4 64) <|
  lt_ (((gA h5 0 o 1 v4.toNatClampNeg)).toInt64) fun v18 =>
  j162 v3 v18
def f_X0_value (N : Nat) (h : Hp) (o : Nat) (p1 : Int32) : Option (Int64 × Hp) :=
  (f_X0_isTold h o p1).bind fun v1 =>
  if ¬ (b2i v1) = 0 then
    grd (inb p1 4) <|
    lt_ ((gA h 0 o 2 p1.toNatClampNeg)) fun v2 =>
    iter (fun _ _ _ => none) (f_X0_value_21 o p1) N 0 v2 h
  else
  some ((-9223372036854775808 : Int64), h)
abbrev rmX0_value : Room := { frames := 1, cells := 0, slots := 0, locals := 28 }
set_option maxRecDepth 100000 in
set_option maxHeartbeats 4000000 in
theorem w_X0_value (X : Cx) (F : Fx X cX0_value RX0 (some .long) rmX0_value) (hA : xA X = Aw (xG X)) (hL : xL X = 7) (N : Nat) (h : Hp) (o : Nat) (h_o : o < cnt 0) (p1 : Int32) : Wm X (fun v => some (.long v.1)) (fun v => v.2) (fun _ => True) 0 [(0, .ref (adr (xG X) 0 o 0)), (1, .int p1)] [] h (f_X0_value N h o p1) := by
  have hS : ∀ i : Nat, i < 7 → i < xL X := fun i z => by rw [hL]; exact z
  unfold f_X0_value
  refine r_aload_n F 0 rfl dX0_value_0 rfl ?_
  refine r_iload_n F 1 rfl dX0_value_1 rfl ?_
  refine k_zP (run_V F cvX0_35 h_o (c_X0_isTold (xG X) _ h o h_o p1) rfl rfl ⟨⟨rfl, rfl⟩, Nat.le_of_ble_eq_true rfl, Nat.le_of_ble_eq_true rfl⟩ (Nat.le_of_ble_eq_true rfl) dX0_value_2) fun v1 _ => ?_
  refine r_ifne F (tgt := 12) dX0_value_5 (by decide) ?_ ?_
  · skip
    refine r_iconst F (v := 0) dX0_value_12 (by decide) ?_
    refine r_istore_n F [(2, .int 0), (0, .ref (adr (xG X) 0 o 0)), (1, .int p1)] rfl dX0_value_13 rfl (hS _ (by decide)) ?_
    refine r_aload_n F 1 rfl dX0_value_14 rfl ?_
    refine r_getA F frX0_18 h_o dX0_value_15 ?_
    refine r_iload_n F 2 rfl dX0_value_18 rfl ?_
    refine r_iaload F (ar_0_2 o h_o) dX0_value_19 ?_
    refine r_nmI fun v2 => ?_
    refine r_istore_n F [(3, .int v2), (2, .int 0), (0, .ref (adr (xG X) 0 o 0)), (1, .int p1)] rfl dX0_value_20 rfl (hS _ (by decide)) ?_
    have hl21 : ∀ n : Nat, ∀ v3 : Int32, ∀ v4 : Int32, ∀ h5 : Hp, Wm X (fun v => some (.long v.1)) (fun v => v.2) (fun _ => True) 21 [(0, .ref (adr (xG X) 0 o 0)), (1, .int p1), (2, .int v3), (3, .int v4)] [] h5 (iter (fun _ _ _ => none) (f_X0_value_21 o p1) n v3 v4 h5) := by
      intro n
      induction n with
      | zero => intro v3 v4 h5; exact Wt_none
      | succ n ih =>
        revert ih
        show (∀ v3 : Int32, ∀ v4 : Int32, ∀ h5 : Hp, Wm X (fun v => some (.long v.1)) (fun v => v.2) (fun _ => True) 21 [(0, .ref (adr (xG X) 0 o 0)), (1, .int p1), (2, .int v3), (3, .int v4)] [] h5 (iter (fun _ _ _ => none) (f_X0_value_21 o p1) n v3 v4 h5)) → _
        intro ih21 v3 v4 h5
        show Wm X (fun v => some (.long v.1)) (fun v => v.2) (fun _ => True) 21 [(0, .ref (adr (xG X) 0 o 0)), (1, .int p1), (2, .int v3), (3, .int v4)] [] h5 (f_X0_value_21 o p1 (iter (fun _ _ _ => none) (f_X0_value_21 o p1) n) v3 v4 h5)
        revert ih21
        generalize iter (fun _ _ _ => none) (f_X0_value_21 o p1) n = r21
        intro ih21
        unfold f_X0_value_21
        refine r_iload_n F 3 rfl dX0_value_21 rfl ?_
        refine r_aload_n F 0 rfl dX0_value_22 rfl ?_
        refine r_getA F frX0_21 h_o dX0_value_23 ?_
        refine r_iload_n F 1 rfl dX0_value_26 rfl ?_
        refine r_iaload F (ar_0_3 o h_o) dX0_value_27 ?_
        refine r_icmpge F (tgt := 201) dX0_value_28 (by decide) ?_ ?_
        · skip
          refine r_iload_n F 2 rfl dX0_value_201 rfl ?_
          refine r_iconst F (v := 1) dX0_value_202 (by decide) ?_
          refine Wt_jn (fun (j218 : Int64 → Option (Int64 × Hp)) => ∀ v6 : Int64, Wm X (fun v => some (.long v.1)) (fun v => v.2) (fun _ => True) 218 [] [.long v6] h5 (j218 v6)) ?_ fun j218 hj218 => ?_
          · intro v6
            exact r_lret F hA rfl rfl trivial dX0_value_218
          refine r_icmpne F (tgt := 215) dX0_value_203 (by decide) ?_ ?_
          · skip
            refine r_ldc2 F wd_664 dX0_value_215 ?_
            exact Wt_pick [] rfl (hj218 ((-9223372036854775808 : Int64)))
          refine r_aload_n F 0 rfl dX0_value_206 rfl ?_
          refine r_getA F frX0_28 h_o dX0_value_207 ?_
          refine r_iconst F (v := 0) dX0_value_210 (by decide) ?_
          refine r_laload F (ar_0_5 o h_o) dX0_value_211 ?_
          refine r_goto F (tgt := 218) dX0_value_212 (by decide) ?_
          exact Wt_pick [] rfl (hj218 ((gB h5 0 o 5 (0 : Int32).toNatClampNeg)))
        refine r_aload_n F 0 rfl dX0_value_31 rfl ?_
        refine r_getA F frX0_11 h_o dX0_value_32 ?_
        refine r_iload_n F 3 rfl dX0_value_35 rfl ?_
        refine r_iaload F (ar_0_0 o h_o) dX0_value_36 ?_
        refine r_nmI fun v7 => ?_
        refine r_istore F [(4, .int v7), (0, .ref (adr (xG X) 0 o 0)), (1, .int p1), (2, .int v3), (3, .int v4)] rfl dX0_value_37 (hS _ (by decide)) ?_
        refine r_iload F 0 rfl dX0_value_39 ?_
        refine r_iconst F (v := 2) dX0_value_41 (by decide) ?_
        refine Wt_jn (fun (j162 : Int32 → Int64 → Option (Int64 × Hp)) => ∀ v8 : Int32, ∀ v9 : Int64, Wm X (fun v => some (.long v.1)) (fun v => v.2) (fun _ => True) 162 [(0, .ref (adr (xG X) 0 o 0)), (1, .int p1), (2, .int v8), (3, .int v4), (5, .long v9)] [] h5 (j162 v8 v9)) ?_ fun j162 hj162 => ?_
        · intro v8 v9
          refine r_lload F 4 rfl dX0_value_162 ?_
          refine r_ldc2 F wd_668 dX0_value_164 ?_
          refine r_lcmp F dX0_value_167 ?_
          refine Wt_jn (fun (j180 : Option (Int64 × Hp)) => Wm X (fun v => some (.long v.1)) (fun v => v.2) (fun _ => True) 180 [] [] h5 (j180)) ?_ fun j180 hj180 => ?_
          · skip
            refine r_ldc2 F wd_664 dX0_value_180 ?_
            exact r_lret F hA rfl rfl trivial dX0_value_183
          refine r_ifgt F (tgt := 180) dX0_value_168 (by decide) ?_ ?_
          · skip
            exact Wt_pick [] rfl (hj180)
          refine r_lload F 4 rfl dX0_value_171 ?_
          refine r_ldc2 F wd_669 dX0_value_173 ?_
          refine r_lcmp F dX0_value_176 ?_
          refine r_ifge F (tgt := 184) dX0_value_177 (by decide) ?_ ?_
          · skip
            refine r_aload_n F 0 rfl dX0_value_184 rfl ?_
            refine r_getA F frX0_28 h_o dX0_value_185 ?_
            refine r_iload_n F 2 rfl dX0_value_188 rfl ?_
            refine r_lload F 4 rfl dX0_value_189 ?_
            refine r_lastore F (ar_0_5 o h_o) dX0_value_191 fun h10 => ?_
            refine r_iinc F (v := 1) 2 rfl (by decide) (fun v11 => [(2, .int v11), (0, .ref (adr (xG X) 0 o 0)), (1, .int p1), (3, .int v4), (5, .long v9)]) (fun _ => rfl) dX0_value_192 (hS _ (by decide)) fun v11 => ?_
            refine r_iinc F (v := 1) 3 rfl (by decide) (fun v12 => [(3, .int v12), (2, .int v11), (0, .ref (adr (xG X) 0 o 0)), (1, .int p1), (5, .long v9)]) (fun _ => rfl) dX0_value_195 (hS _ (by decide)) fun v12 => ?_
            refine r_goto F (tgt := 21) dX0_value_198 (by decide) ?_
            exact Wt_pick [2, 3, 1, 0] rfl (ih21 v11 v12 h10)
          exact Wt_pick [] rfl (hj180)
        refine r_icmpne F (tgt := 57) dX0_value_42 (by decide) ?_ ?_
        · skip
          refine r_iload F 0 rfl dX0_value_57 ?_
          refine r_sipush F (v := 272) dX0_value_59 (by decide) ?_
          refine Wt_jn (fun (j89 : Option (Int64 × Hp)) => Wm X (fun v => some (.long v.1)) (fun v => v.2) (fun _ => True) 89 [(0, .ref (adr (xG X) 0 o 0)), (1, .int p1), (2, .int v3), (3, .int v4), (4, .int v7)] [] h5 (j89)) ?_ fun j89 hj89 => ?_
          · skip
            refine r_iload F 4 rfl dX0_value_89 ?_
            refine r_sipush F (v := 279) dX0_value_91 (by decide) ?_
            refine Wt_jn (fun (j126 : Option (Int64 × Hp)) => Wm X (fun v => some (.long v.1)) (fun v => v.2) (fun _ => True) 126 [(0, .ref (adr (xG X) 0 o 0)), (1, .int p1), (2, .int v3), (3, .int v4), (4, .int v7)] [] h5 (j126)) ?_ fun j126 hj126 => ?_
            · skip
              refine r_iload_n F 2 rfl dX0_value_126 rfl ?_
              refine r_iconst F (v := 2) dX0_value_127 (by decide) ?_
              refine r_icmplt F (tgt := 158) dX0_value_128 (by decide) ?_ ?_
              · skip
                refine r_ldc2 F wd_664 dX0_value_158 ?_
                exact r_lret F hA rfl rfl trivial dX0_value_161
              refine r_iinc F (v := (-2)) 2 rfl (by decide) (fun v13 => [(2, .int v13), (0, .ref (adr (xG X) 0 o 0)), (1, .int p1), (3, .int v4), (4, .int v7)]) (fun _ => rfl) dX0_value_131 (hS _ (by decide)) fun v13 => ?_
              refine r_iload F 4 rfl dX0_value_134 ?_
              refine r_aload_n F 1 rfl dX0_value_136 rfl ?_
              refine r_getA F frX0_28 h_o dX0_value_137 ?_
              refine r_iload_n F 0 rfl dX0_value_140 rfl ?_
              refine r_laload F (ar_0_5 o h_o) dX0_value_141 ?_
              refine r_aload_n F 1 rfl dX0_value_142 rfl ?_
              refine r_getA F frX0_28 h_o dX0_value_143 ?_
              refine r_iload_n F 0 rfl dX0_value_146 rfl ?_
              refine r_iconst F (v := 1) dX0_value_147 (by decide) ?_
              refine r_iadd F dX0_value_148 ?_
              refine r_laload F (ar_0_5 o h_o) dX0_value_149 ?_
              refine k_lP (run_S F csX0_43 (c_X0_joined (xG X) _ h5 v7 (gB h5 0 o 5 v13.toNatClampNeg) (gB h5 0 o 5 (v13 + 1).toNatClampNeg)) rfl rfl ⟨⟨rfl, rfl⟩, Nat.le_of_ble_eq_true rfl, Nat.le_of_ble_eq_true rfl⟩ (Nat.le_of_ble_eq_true rfl) dX0_value_150) fun v14 _ => ?_
              refine r_lstore F [(5, .long v14), (2, .int v13), (0, .ref (adr (xG X) 0 o 0)), (1, .int p1), (3, .int v4), (4, .int v7)] rfl dX0_value_153 (hS _ (by decide)) ?_
              refine r_goto F (tgt := 162) dX0_value_155 (by decide) ?_
              exact Wt_pick [2, 3, 1, 4, 0] rfl (hj162 v13 v14)
            refine r_icmpne F (tgt := 126) dX0_value_94 (by decide) ?_ ?_
            · skip
              exact Wt_pick [0, 1, 2, 3, 4] rfl (hj126)
            refine r_iload_n F 2 rfl dX0_value_97 rfl ?_
            refine r_iconst F (v := 1) dX0_value_98 (by decide) ?_
            refine r_icmplt F (tgt := 126) dX0_value_99 (by decide) ?_ ?_
            · skip
              exact Wt_pick [0, 1, 2, 3, 4] rfl (hj126)
            refine r_iinc F (v := (-1)) 2 rfl (by decide) (fun v15 => [(2, .int v15), (0, .ref (adr (xG X) 0 o 0)), (1, .int p1), (3, .int v4), (4, .int v7)]) (fun _ => rfl) dX0_value_102 (hS _ (by decide)) fun v15 => ?_
            refine r_aload_n F 1 rfl dX0_value_105 rfl ?_
            refine r_getA F frX0_28 h_o dX0_value_106 ?_
            refine r_iload_n F 0 rfl dX0_value_109 rfl ?_
            refine r_laload F (ar_0_5 o h_o) dX0_value_110 ?_
            refine r_lconst F (v := 0) dX0_value_111 (by decide) ?_
            refine r_lcmp F dX0_value_112 ?_
            refine Wt_jn (fun (j121 : Int64 → Option (Int64 × Hp)) => ∀ v16 : Int64, Wm X (fun v => some (.long v.1)) (fun v => v.2) (fun _ => True) 121 [(0, .ref (adr (xG X) 0 o 0)), (1, .int p1), (2, .int v15), (3, .int v4)] [.long v16] h5 (j121 v16)) ?_ fun j121 hj121 => ?_
            · intro v16
              refine r_lstore F [(5, .long v16), (0, .ref (adr (xG X) 0 o 0)), (1, .int p1), (2, .int v15), (3, .int v4)] rfl dX0_value_121 (hS _ (by decide)) ?_
              refine r_goto F (tgt := 162) dX0_value_123 (by decide) ?_
              exact Wt_pick [1, 2, 3, 4, 0] rfl (hj162 v15 v16)
            refine r_ifne F (tgt := 120) dX0_value_113 (by decide) ?_ ?_
            · skip
              refine r_lconst F (v := 0) dX0_value_120 (by decide) ?_
              exact Wt_pick [1, 2, 0, 3] rfl (hj121 ((0 : Int64)))
            refine r_lconst F (v := 1) dX0_value_116 (by decide) ?_
            refine r_goto F (tgt := 121) dX0_value_117 (by decide) ?_
            exact Wt_pick [1, 2, 0, 3] rfl (hj121 ((1 : Int64)))
          refine r_icmplt F (tgt := 89) dX0_value_62 (by decide) ?_ ?_
          · skip
            exact Wt_pick [1, 2, 3, 4, 0] rfl (hj89)
          refine r_iload F 0 rfl dX0_value_65 ?_
          refine r_sipush F (v := 278) dX0_value_67 (by decide) ?_
          refine r_icmpgt F (tgt := 89) dX0_value_70 (by decide) ?_ ?_
          · skip
            exact Wt_pick [1, 2, 3, 4, 0] rfl (hj89)
          refine r_aload_n F 1 rfl dX0_value_73 rfl ?_
          refine r_getA F frX0_24 h_o dX0_value_74 ?_
          refine r_iload F 0 rfl dX0_value_77 ?_
          refine r_sipush F (v := 272) dX0_value_79 (by decide) ?_
          refine r_isub F dX0_value_82 ?_
          refine r_laload F (ar_0_4 o h_o) dX0_value_83 ?_
          refine r_nmJ fun v17 => ?_
          refine r_lstore F [(5, .long v17), (4, .int v7), (0, .ref (adr (xG X) 0 o 0)), (1, .int p1), (2, .int v3), (3, .int v4)] rfl dX0_value_84 (hS _ (by decide)) ?_
          refine r_goto F (tgt := 162) dX0_value_86 (by decide) ?_
          exact Wt_pick [2, 3, 4, 5, 0] rfl (hj162 v3 v17)
        refine r_aload_n F 1 rfl dX0_value_45 rfl ?_
        refine r_getA F frX0_15 h_o dX0_value_46 ?_
        refine r_iload_n F 4 rfl dX0_value_49 rfl ?_
        refine r_iaload F (ar_0_1 o h_o) dX0_value_50 ?_
        refine r_i2l F dX0_value_51 ?_
        refine r_nmJ fun v18 => ?_
        refine r_lstore F [(5, .long v18), (4, .int v7), (0, .ref (adr (xG X) 0 o 0)), (1, .int p1), (2, .int v3), (3, .int v4)] rfl dX0_value_52 (hS _ (by decide)) ?_
        refine r_goto F (tgt := 162) dX0_value_54 (by decide) ?_
        exact Wt_pick [2, 3, 4, 5, 0] rfl (hj162 v3 v18)
    exact Wt_pick [2, 3, 1, 0] rfl (hl21 N 0 v2 h)
  refine r_ldc2 F wd_664 dX0_value_8 ?_
  exact r_lret F hA rfl rfl trivial dX0_value_11
theorem c_X0_value (G : Gx) (l : Launch) (N : Nat) (h : Hp) (o : Nat) (h_o : o < cnt 0) (p1 : Int32) : Ctr G l yX0_value (.code yX0_value cX0_value 7 (some .long) :: GT) rmX0_value [.ref (adr G 0 o 0), .int p1] h (f_X0_value N h o p1) (fun v => some (.long v.1)) (fun v => v.2) (fun _ => True) :=
  ctr_of (by decide) (Nat.le_of_ble_eq_true rfl) ⟨rfl, rfl⟩ fun X _ e2 hA hL F => by subst e2; exact w_X0_value X F hA hL N h o h_o p1
