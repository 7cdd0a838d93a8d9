-- the law: decoded, its words
theorem dL_law_0 : decode cL_law 0 = .ok (.new 19, 3) := by decide +kernel
theorem dL_law_3 : decode cL_law 3 = .ok (.dup, 1) := by decide +kernel
theorem dL_law_4 : decode cL_law 4 = .ok (.invokespecial 28, 3) := by decide +kernel
theorem dL_law_7 : decode cL_law 7 = .ok (.astore_n 1, 1) := by decide +kernel
theorem dL_law_8 : decode cL_law 8 = .ok (.aload_n 0, 1) := by decide +kernel
theorem dL_law_9 : decode cL_law 9 = .ok (.iconst 0, 1) := by decide +kernel
theorem dL_law_10 : decode cL_law 10 = .ok (.invokestatic 29, 3) := by decide +kernel
theorem dL_law_13 : decode cL_law 13 = .ok (.bipush 6, 2) := by decide +kernel
theorem dL_law_15 : decode cL_law 15 = .ok (.invokestatic 35, 3) := by decide +kernel
theorem dL_law_18 : decode cL_law 18 = .ok (.istore_n 2, 1) := by decide +kernel
theorem dL_law_19 : decode cL_law 19 = .ok (.aload_n 0, 1) := by decide +kernel
theorem dL_law_20 : decode cL_law 20 = .ok (.iconst 1, 1) := by decide +kernel
theorem dL_law_21 : decode cL_law 21 = .ok (.invokestatic 29, 3) := by decide +kernel
theorem dL_law_24 : decode cL_law 24 = .ok (.bipush 10, 2) := by decide +kernel
theorem dL_law_26 : decode cL_law 26 = .ok (.invokestatic 35, 3) := by decide +kernel
theorem dL_law_29 : decode cL_law 29 = .ok (.istore_n 3, 1) := by decide +kernel
theorem dL_law_30 : decode cL_law 30 = .ok (.aload_n 0, 1) := by decide +kernel
theorem dL_law_31 : decode cL_law 31 = .ok (.iconst 2, 1) := by decide +kernel
theorem dL_law_32 : decode cL_law 32 = .ok (.invokestatic 29, 3) := by decide +kernel
theorem dL_law_35 : decode cL_law 35 = .ok (.bipush 100, 2) := by decide +kernel
theorem dL_law_37 : decode cL_law 37 = .ok (.invokestatic 35, 3) := by decide +kernel
theorem dL_law_40 : decode cL_law 40 = .ok (.istore 4, 2) := by decide +kernel
theorem dL_law_42 : decode cL_law 42 = .ok (.aload_n 0, 1) := by decide +kernel
theorem dL_law_43 : decode cL_law 43 = .ok (.iconst 3, 1) := by decide +kernel
theorem dL_law_44 : decode cL_law 44 = .ok (.invokestatic 29, 3) := by decide +kernel
theorem dL_law_47 : decode cL_law 47 = .ok (.sipush 300, 3) := by decide +kernel
theorem dL_law_50 : decode cL_law 50 = .ok (.invokestatic 35, 3) := by decide +kernel
theorem dL_law_53 : decode cL_law 53 = .ok (.istore 5, 2) := by decide +kernel
theorem dL_law_55 : decode cL_law 55 = .ok (.aload_n 1, 1) := by decide +kernel
theorem dL_law_56 : decode cL_law 56 = .ok (.new 39, 3) := by decide +kernel
theorem dL_law_59 : decode cL_law 59 = .ok (.dup, 1) := by decide +kernel
theorem dL_law_60 : decode cL_law 60 = .ok (.invokespecial 41, 3) := by decide +kernel
theorem dL_law_63 : decode cL_law 63 = .ok (.ldc 42, 2) := by decide +kernel
theorem dL_law_65 : decode cL_law 65 = .ok (.invokevirtual 44, 3) := by decide +kernel
theorem dL_law_68 : decode cL_law 68 = .ok (.iload 5, 2) := by decide +kernel
theorem dL_law_70 : decode cL_law 70 = .ok (.invokevirtual 48, 3) := by decide +kernel
theorem dL_law_73 : decode cL_law 73 = .ok (.ldc 51, 2) := by decide +kernel
theorem dL_law_75 : decode cL_law 75 = .ok (.invokevirtual 44, 3) := by decide +kernel
theorem dL_law_78 : decode cL_law 78 = .ok (.iload_n 2, 1) := by decide +kernel
theorem dL_law_79 : decode cL_law 79 = .ok (.invokevirtual 48, 3) := by decide +kernel
theorem dL_law_82 : decode cL_law 82 = .ok (.ldc 53, 2) := by decide +kernel
theorem dL_law_84 : decode cL_law 84 = .ok (.invokevirtual 44, 3) := by decide +kernel
theorem dL_law_87 : decode cL_law 87 = .ok (.iload_n 3, 1) := by decide +kernel
theorem dL_law_88 : decode cL_law 88 = .ok (.invokevirtual 48, 3) := by decide +kernel
theorem dL_law_91 : decode cL_law 91 = .ok (.ldc 55, 2) := by decide +kernel
theorem dL_law_93 : decode cL_law 93 = .ok (.invokevirtual 44, 3) := by decide +kernel
theorem dL_law_96 : decode cL_law 96 = .ok (.iload 4, 2) := by decide +kernel
theorem dL_law_98 : decode cL_law 98 = .ok (.invokevirtual 48, 3) := by decide +kernel
theorem dL_law_101 : decode cL_law 101 = .ok (.ldc 57, 2) := by decide +kernel
theorem dL_law_103 : decode cL_law 103 = .ok (.invokevirtual 44, 3) := by decide +kernel
theorem dL_law_106 : decode cL_law 106 = .ok (.invokevirtual 59, 3) := by decide +kernel
theorem dL_law_109 : decode cL_law 109 = .ok (.invokestatic 63, 3) := by decide +kernel
theorem dL_law_112 : decode cL_law 112 = .ok (.iconst 3, 1) := by decide +kernel
theorem dL_law_113 : decode cL_law 113 = .ok (.if_icmp .eq 5, 3) := by decide +kernel
theorem dL_law_116 : decode cL_law 116 = .ok (.iconst 0, 1) := by decide +kernel
theorem dL_law_117 : decode cL_law 117 = .ok (.ireturn, 1) := by decide +kernel
theorem dL_law_118 : decode cL_law 118 = .ok (.iload 5, 2) := by decide +kernel
theorem dL_law_120 : decode cL_law 120 = .ok (.istore 6, 2) := by decide +kernel
theorem dL_law_122 : decode cL_law 122 = .ok (.iconst 0, 1) := by decide +kernel
theorem dL_law_123 : decode cL_law 123 = .ok (.istore 7, 2) := by decide +kernel
theorem dL_law_125 : decode cL_law 125 = .ok (.iconst 0, 1) := by decide +kernel
theorem dL_law_126 : decode cL_law 126 = .ok (.istore 8, 2) := by decide +kernel
theorem dL_law_128 : decode cL_law 128 = .ok (.iconst 1, 1) := by decide +kernel
theorem dL_law_129 : decode cL_law 129 = .ok (.istore 9, 2) := by decide +kernel
theorem dL_law_131 : decode cL_law 131 = .ok (.iload 9, 2) := by decide +kernel
theorem dL_law_133 : decode cL_law 133 = .ok (.bipush 9, 2) := by decide +kernel
theorem dL_law_135 : decode cL_law 135 = .ok (.if_icmp .ge 151, 3) := by decide +kernel
theorem dL_law_138 : decode cL_law 138 = .ok (.iload 6, 2) := by decide +kernel
theorem dL_law_140 : decode cL_law 140 = .ok (.iconst 0, 1) := by decide +kernel
theorem dL_law_141 : decode cL_law 141 = .ok (.iconst 5, 1) := by decide +kernel
theorem dL_law_142 : decode cL_law 142 = .ok (.iload_n 2, 1) := by decide +kernel
theorem dL_law_143 : decode cL_law 143 = .ok (.imul, 1) := by decide +kernel
theorem dL_law_144 : decode cL_law 144 = .ok (.iload_n 3, 1) := by decide +kernel
theorem dL_law_145 : decode cL_law 145 = .ok (.isub, 1) := by decide +kernel
theorem dL_law_146 : decode cL_law 146 = .ok (.invokestatic 66, 3) := by decide +kernel
theorem dL_law_149 : decode cL_law 149 = .ok (.invokestatic 71, 3) := by decide +kernel
theorem dL_law_152 : decode cL_law 152 = .ok (.istore 10, 2) := by decide +kernel
theorem dL_law_154 : decode cL_law 154 = .ok (.iload 8, 2) := by decide +kernel
theorem dL_law_156 : decode cL_law 156 = .ok (.iload 10, 2) := by decide +kernel
theorem dL_law_158 : decode cL_law 158 = .ok (.iconst 0, 1) := by decide +kernel
theorem dL_law_159 : decode cL_law 159 = .ok (.iload 4, 2) := by decide +kernel
theorem dL_law_161 : decode cL_law 161 = .ok (.iload 7, 2) := by decide +kernel
theorem dL_law_163 : decode cL_law 163 = .ok (.isub, 1) := by decide +kernel
theorem dL_law_164 : decode cL_law 164 = .ok (.invokestatic 66, 3) := by decide +kernel
theorem dL_law_167 : decode cL_law 167 = .ok (.imul, 1) := by decide +kernel
theorem dL_law_168 : decode cL_law 168 = .ok (.iadd, 1) := by decide +kernel
theorem dL_law_169 : decode cL_law 169 = .ok (.istore 8, 2) := by decide +kernel
theorem dL_law_171 : decode cL_law 171 = .ok (.iload 7, 2) := by decide +kernel
theorem dL_law_173 : decode cL_law 173 = .ok (.iload 10, 2) := by decide +kernel
theorem dL_law_175 : decode cL_law 175 = .ok (.iadd, 1) := by decide +kernel
theorem dL_law_176 : decode cL_law 176 = .ok (.istore 7, 2) := by decide +kernel
theorem dL_law_178 : decode cL_law 178 = .ok (.iload 6, 2) := by decide +kernel
theorem dL_law_180 : decode cL_law 180 = .ok (.iload 10, 2) := by decide +kernel
theorem dL_law_182 : decode cL_law 182 = .ok (.isub, 1) := by decide +kernel
theorem dL_law_183 : decode cL_law 183 = .ok (.istore 6, 2) := by decide +kernel
theorem dL_law_185 : decode cL_law 185 = .ok (.aload_n 1, 1) := by decide +kernel
theorem dL_law_186 : decode cL_law 186 = .ok (.iconst 0, 1) := by decide +kernel
theorem dL_law_187 : decode cL_law 187 = .ok (.iconst 1, 1) := by decide +kernel
theorem dL_law_188 : decode cL_law 188 = .ok (.iconst 0, 1) := by decide +kernel
theorem dL_law_189 : decode cL_law 189 = .ok (.invokevirtual 74, 3) := by decide +kernel
theorem dL_law_192 : decode cL_law 192 = .ok (.iload 10, 2) := by decide +kernel
theorem dL_law_194 : decode cL_law 194 = .ok (.if_icmp .ne 84, 3) := by decide +kernel
theorem dL_law_197 : decode cL_law 197 = .ok (.aload_n 1, 1) := by decide +kernel
theorem dL_law_198 : decode cL_law 198 = .ok (.iconst 1, 1) := by decide +kernel
theorem dL_law_199 : decode cL_law 199 = .ok (.invokevirtual 78, 3) := by decide +kernel
theorem dL_law_202 : decode cL_law 202 = .ok (.iload 9, 2) := by decide +kernel
theorem dL_law_204 : decode cL_law 204 = .ok (.if_icmp .ne 74, 3) := by decide +kernel
theorem dL_law_207 : decode cL_law 207 = .ok (.aload_n 1, 1) := by decide +kernel
theorem dL_law_208 : decode cL_law 208 = .ok (.iconst 0, 1) := by decide +kernel
theorem dL_law_209 : decode cL_law 209 = .ok (.iconst 0, 1) := by decide +kernel
theorem dL_law_210 : decode cL_law 210 = .ok (.invokevirtual 81, 3) := by decide +kernel
theorem dL_law_213 : decode cL_law 213 = .ok (.iload 6, 2) := by decide +kernel
theorem dL_law_215 : decode cL_law 215 = .ok (.if_icmp .ne 63, 3) := by decide +kernel
theorem dL_law_218 : decode cL_law 218 = .ok (.aload_n 1, 1) := by decide +kernel
theorem dL_law_219 : decode cL_law 219 = .ok (.iconst 0, 1) := by decide +kernel
theorem dL_law_220 : decode cL_law 220 = .ok (.iconst 3, 1) := by decide +kernel
theorem dL_law_221 : decode cL_law 221 = .ok (.invokevirtual 84, 3) := by decide +kernel
theorem dL_law_224 : decode cL_law 224 = .ok (.iload 7, 2) := by decide +kernel
theorem dL_law_226 : decode cL_law 226 = .ok (.if_icmp .ne 52, 3) := by decide +kernel
theorem dL_law_229 : decode cL_law 229 = .ok (.aload_n 1, 1) := by decide +kernel
theorem dL_law_230 : decode cL_law 230 = .ok (.iconst 0, 1) := by decide +kernel
theorem dL_law_231 : decode cL_law 231 = .ok (.iconst 4, 1) := by decide +kernel
theorem dL_law_232 : decode cL_law 232 = .ok (.invokevirtual 84, 3) := by decide +kernel
theorem dL_law_235 : decode cL_law 235 = .ok (.iconst 0, 1) := by decide +kernel
theorem dL_law_236 : decode cL_law 236 = .ok (.iload 4, 2) := by decide +kernel
theorem dL_law_238 : decode cL_law 238 = .ok (.iload 7, 2) := by decide +kernel
theorem dL_law_240 : decode cL_law 240 = .ok (.isub, 1) := by decide +kernel
theorem dL_law_241 : decode cL_law 241 = .ok (.invokestatic 66, 3) := by decide +kernel
theorem dL_law_244 : decode cL_law 244 = .ok (.if_icmp .ne 34, 3) := by decide +kernel
theorem dL_law_247 : decode cL_law 247 = .ok (.aload_n 1, 1) := by decide +kernel
theorem dL_law_248 : decode cL_law 248 = .ok (.iconst 0, 1) := by decide +kernel
theorem dL_law_249 : decode cL_law 249 = .ok (.iconst 4, 1) := by decide +kernel
theorem dL_law_250 : decode cL_law 250 = .ok (.invokevirtual 87, 3) := by decide +kernel
theorem dL_law_253 : decode cL_law 253 = .ok (.iload 8, 2) := by decide +kernel
theorem dL_law_255 : decode cL_law 255 = .ok (.if_icmp .ne 23, 3) := by decide +kernel
theorem dL_law_258 : decode cL_law 258 = .ok (.aload_n 1, 1) := by decide +kernel
theorem dL_law_259 : decode cL_law 259 = .ok (.bipush 10, 2) := by decide +kernel
theorem dL_law_261 : decode cL_law 261 = .ok (.invokevirtual 90, 3) := by decide +kernel
theorem dL_law_264 : decode cL_law 264 = .ok (.iload 8, 2) := by decide +kernel
theorem dL_law_266 : decode cL_law 266 = .ok (.if_icmp .ne 12, 3) := by decide +kernel
theorem dL_law_269 : decode cL_law 269 = .ok (.aload_n 1, 1) := by decide +kernel
theorem dL_law_270 : decode cL_law 270 = .ok (.bipush 8, 2) := by decide +kernel
theorem dL_law_272 : decode cL_law 272 = .ok (.invokevirtual 90, 3) := by decide +kernel
theorem dL_law_275 : decode cL_law 275 = .ok (.ifCond .eq 5, 3) := by decide +kernel
theorem dL_law_278 : decode cL_law 278 = .ok (.iconst 0, 1) := by decide +kernel
theorem dL_law_279 : decode cL_law 279 = .ok (.ireturn, 1) := by decide +kernel
theorem dL_law_280 : decode cL_law 280 = .ok (.iinc 9 1, 3) := by decide +kernel
theorem dL_law_283 : decode cL_law 283 = .ok (.goto (-152), 3) := by decide +kernel
theorem dL_law_286 : decode cL_law 286 = .ok (.aload_n 1, 1) := by decide +kernel
theorem dL_law_287 : decode cL_law 287 = .ok (.ldc 93, 2) := by decide +kernel
theorem dL_law_289 : decode cL_law 289 = .ok (.invokestatic 63, 3) := by decide +kernel
theorem dL_law_292 : decode cL_law 292 = .ok (.iconst 4, 1) := by decide +kernel
theorem dL_law_293 : decode cL_law 293 = .ok (.if_icmp .eq 5, 3) := by decide +kernel
theorem dL_law_296 : decode cL_law 296 = .ok (.iconst 0, 1) := by decide +kernel
theorem dL_law_297 : decode cL_law 297 = .ok (.ireturn, 1) := by decide +kernel
theorem dL_law_298 : decode cL_law 298 = .ok (.bipush 6, 2) := by decide +kernel
theorem dL_law_300 : decode cL_law 300 = .ok (.newarray .int, 2) := by decide +kernel
theorem dL_law_302 : decode cL_law 302 = .ok (.dup, 1) := by decide +kernel
theorem dL_law_303 : decode cL_law 303 = .ok (.iconst 0, 1) := by decide +kernel
theorem dL_law_304 : decode cL_law 304 = .ok (.bipush 8, 2) := by decide +kernel
theorem dL_law_306 : decode cL_law 306 = .ok (.iastore, 1) := by decide +kernel
theorem dL_law_307 : decode cL_law 307 = .ok (.dup, 1) := by decide +kernel
theorem dL_law_308 : decode cL_law 308 = .ok (.iconst 1, 1) := by decide +kernel
theorem dL_law_309 : decode cL_law 309 = .ok (.bipush 16, 2) := by decide +kernel
theorem dL_law_311 : decode cL_law 311 = .ok (.iastore, 1) := by decide +kernel
theorem dL_law_312 : decode cL_law 312 = .ok (.dup, 1) := by decide +kernel
theorem dL_law_313 : decode cL_law 313 = .ok (.iconst 2, 1) := by decide +kernel
theorem dL_law_314 : decode cL_law 314 = .ok (.bipush 20, 2) := by decide +kernel
theorem dL_law_316 : decode cL_law 316 = .ok (.iastore, 1) := by decide +kernel
theorem dL_law_317 : decode cL_law 317 = .ok (.dup, 1) := by decide +kernel
theorem dL_law_318 : decode cL_law 318 = .ok (.iconst 3, 1) := by decide +kernel
theorem dL_law_319 : decode cL_law 319 = .ok (.bipush 10, 2) := by decide +kernel
theorem dL_law_321 : decode cL_law 321 = .ok (.iastore, 1) := by decide +kernel
theorem dL_law_322 : decode cL_law 322 = .ok (.dup, 1) := by decide +kernel
theorem dL_law_323 : decode cL_law 323 = .ok (.iconst 4, 1) := by decide +kernel
theorem dL_law_324 : decode cL_law 324 = .ok (.iconst 0, 1) := by decide +kernel
theorem dL_law_325 : decode cL_law 325 = .ok (.iastore, 1) := by decide +kernel
theorem dL_law_326 : decode cL_law 326 = .ok (.dup, 1) := by decide +kernel
theorem dL_law_327 : decode cL_law 327 = .ok (.iconst 5, 1) := by decide +kernel
theorem dL_law_328 : decode cL_law 328 = .ok (.iconst 0, 1) := by decide +kernel
theorem dL_law_329 : decode cL_law 329 = .ok (.iastore, 1) := by decide +kernel
theorem dL_law_330 : decode cL_law 330 = .ok (.astore 9, 2) := by decide +kernel
theorem dL_law_332 : decode cL_law 332 = .ok (.iconst 0, 1) := by decide +kernel
theorem dL_law_333 : decode cL_law 333 = .ok (.istore 10, 2) := by decide +kernel
theorem dL_law_335 : decode cL_law 335 = .ok (.iload 10, 2) := by decide +kernel
theorem dL_law_337 : decode cL_law 337 = .ok (.bipush 6, 2) := by decide +kernel
theorem dL_law_339 : decode cL_law 339 = .ok (.if_icmp .ge 89, 3) := by decide +kernel
theorem dL_law_342 : decode cL_law 342 = .ok (.aload_n 1, 1) := by decide +kernel
theorem dL_law_343 : decode cL_law 343 = .ok (.iconst 1, 1) := by decide +kernel
theorem dL_law_344 : decode cL_law 344 = .ok (.invokevirtual 78, 3) := by decide +kernel
theorem dL_law_347 : decode cL_law 347 = .ok (.iload 10, 2) := by decide +kernel
theorem dL_law_349 : decode cL_law 349 = .ok (.iconst 1, 1) := by decide +kernel
theorem dL_law_350 : decode cL_law 350 = .ok (.iadd, 1) := by decide +kernel
theorem dL_law_351 : decode cL_law 351 = .ok (.if_icmp .ne 69, 3) := by decide +kernel
theorem dL_law_354 : decode cL_law 354 = .ok (.aload_n 1, 1) := by decide +kernel
theorem dL_law_355 : decode cL_law 355 = .ok (.bipush 7, 2) := by decide +kernel
theorem dL_law_357 : decode cL_law 357 = .ok (.invokevirtual 90, 3) := by decide +kernel
theorem dL_law_360 : decode cL_law 360 = .ok (.aload 9, 2) := by decide +kernel
theorem dL_law_362 : decode cL_law 362 = .ok (.iload 10, 2) := by decide +kernel
theorem dL_law_364 : decode cL_law 364 = .ok (.iaload, 1) := by decide +kernel
theorem dL_law_365 : decode cL_law 365 = .ok (.if_icmp .ne 55, 3) := by decide +kernel
theorem dL_law_368 : decode cL_law 368 = .ok (.aload_n 1, 1) := by decide +kernel
theorem dL_law_369 : decode cL_law 369 = .ok (.iconst 0, 1) := by decide +kernel
theorem dL_law_370 : decode cL_law 370 = .ok (.iconst 5, 1) := by decide +kernel
theorem dL_law_371 : decode cL_law 371 = .ok (.invokevirtual 87, 3) := by decide +kernel
theorem dL_law_374 : decode cL_law 374 = .ok (.bipush 20, 2) := by decide +kernel
theorem dL_law_376 : decode cL_law 376 = .ok (.bipush 8, 2) := by decide +kernel
theorem dL_law_378 : decode cL_law 378 = .ok (.iload 10, 2) := by decide +kernel
theorem dL_law_380 : decode cL_law 380 = .ok (.iconst 1, 1) := by decide +kernel
theorem dL_law_381 : decode cL_law 381 = .ok (.iadd, 1) := by decide +kernel
theorem dL_law_382 : decode cL_law 382 = .ok (.imul, 1) := by decide +kernel
theorem dL_law_383 : decode cL_law 383 = .ok (.invokestatic 71, 3) := by decide +kernel
theorem dL_law_386 : decode cL_law 386 = .ok (.if_icmp .ne 34, 3) := by decide +kernel
theorem dL_law_389 : decode cL_law 389 = .ok (.aload_n 1, 1) := by decide +kernel
theorem dL_law_390 : decode cL_law 390 = .ok (.bipush 9, 2) := by decide +kernel
theorem dL_law_392 : decode cL_law 392 = .ok (.invokevirtual 90, 3) := by decide +kernel
theorem dL_law_395 : decode cL_law 395 = .ok (.iload 10, 2) := by decide +kernel
theorem dL_law_397 : decode cL_law 397 = .ok (.iconst 3, 1) := by decide +kernel
theorem dL_law_398 : decode cL_law 398 = .ok (.if_icmp .ge 7, 3) := by decide +kernel
theorem dL_law_401 : decode cL_law 401 = .ok (.iconst 0, 1) := by decide +kernel
theorem dL_law_402 : decode cL_law 402 = .ok (.goto 15, 3) := by decide +kernel
theorem dL_law_405 : decode cL_law 405 = .ok (.bipush 20, 2) := by decide +kernel
theorem dL_law_407 : decode cL_law 407 = .ok (.bipush 10, 2) := by decide +kernel
theorem dL_law_409 : decode cL_law 409 = .ok (.iload 10, 2) := by decide +kernel
theorem dL_law_411 : decode cL_law 411 = .ok (.iconst 2, 1) := by decide +kernel
theorem dL_law_412 : decode cL_law 412 = .ok (.isub, 1) := by decide +kernel
theorem dL_law_413 : decode cL_law 413 = .ok (.imul, 1) := by decide +kernel
theorem dL_law_414 : decode cL_law 414 = .ok (.invokestatic 71, 3) := by decide +kernel
theorem dL_law_417 : decode cL_law 417 = .ok (.if_icmp .eq 5, 3) := by decide +kernel
theorem dL_law_420 : decode cL_law 420 = .ok (.iconst 0, 1) := by decide +kernel
theorem dL_law_421 : decode cL_law 421 = .ok (.ireturn, 1) := by decide +kernel
theorem dL_law_422 : decode cL_law 422 = .ok (.iinc 10 1, 3) := by decide +kernel
theorem dL_law_425 : decode cL_law 425 = .ok (.goto (-90), 3) := by decide +kernel
theorem dL_law_428 : decode cL_law 428 = .ok (.aload_n 1, 1) := by decide +kernel
theorem dL_law_429 : decode cL_law 429 = .ok (.iconst 0, 1) := by decide +kernel
theorem dL_law_430 : decode cL_law 430 = .ok (.iconst 4, 1) := by decide +kernel
theorem dL_law_431 : decode cL_law 431 = .ok (.invokevirtual 87, 3) := by decide +kernel
theorem dL_law_434 : decode cL_law 434 = .ok (.sipush 900, 3) := by decide +kernel
theorem dL_law_437 : decode cL_law 437 = .ok (.if_icmp .ne 25, 3) := by decide +kernel
theorem dL_law_440 : decode cL_law 440 = .ok (.aload_n 1, 1) := by decide +kernel
theorem dL_law_441 : decode cL_law 441 = .ok (.iconst 0, 1) := by decide +kernel
theorem dL_law_442 : decode cL_law 442 = .ok (.iconst 0, 1) := by decide +kernel
theorem dL_law_443 : decode cL_law 443 = .ok (.invokevirtual 95, 3) := by decide +kernel
theorem dL_law_446 : decode cL_law 446 = .ok (.bipush (-2), 2) := by decide +kernel
theorem dL_law_448 : decode cL_law 448 = .ok (.if_icmp .ne 14, 3) := by decide +kernel
theorem dL_law_451 : decode cL_law 451 = .ok (.aload_n 1, 1) := by decide +kernel
theorem dL_law_452 : decode cL_law 452 = .ok (.iconst 0, 1) := by decide +kernel
theorem dL_law_453 : decode cL_law 453 = .ok (.iconst 1, 1) := by decide +kernel
theorem dL_law_454 : decode cL_law 454 = .ok (.invokevirtual 95, 3) := by decide +kernel
theorem dL_law_457 : decode cL_law 457 = .ok (.bipush (-2), 2) := by decide +kernel
theorem dL_law_459 : decode cL_law 459 = .ok (.if_icmp .eq 5, 3) := by decide +kernel
theorem dL_law_462 : decode cL_law 462 = .ok (.iconst 0, 1) := by decide +kernel
theorem dL_law_463 : decode cL_law 463 = .ok (.ireturn, 1) := by decide +kernel
theorem dL_law_464 : decode cL_law 464 = .ok (.aload_n 0, 1) := by decide +kernel
theorem dL_law_465 : decode cL_law 465 = .ok (.iconst 4, 1) := by decide +kernel
theorem dL_law_466 : decode cL_law 466 = .ok (.invokestatic 29, 3) := by decide +kernel
theorem dL_law_469 : decode cL_law 469 = .ok (.bipush 24, 2) := by decide +kernel
theorem dL_law_471 : decode cL_law 471 = .ok (.invokestatic 35, 3) := by decide +kernel
theorem dL_law_474 : decode cL_law 474 = .ok (.istore 10, 2) := by decide +kernel
theorem dL_law_476 : decode cL_law 476 = .ok (.aload_n 1, 1) := by decide +kernel
theorem dL_law_477 : decode cL_law 477 = .ok (.new 39, 3) := by decide +kernel
theorem dL_law_480 : decode cL_law 480 = .ok (.dup, 1) := by decide +kernel
theorem dL_law_481 : decode cL_law 481 = .ok (.invokespecial 41, 3) := by decide +kernel
theorem dL_law_484 : decode cL_law 484 = .ok (.ldc 98, 2) := by decide +kernel
theorem dL_law_486 : decode cL_law 486 = .ok (.invokevirtual 44, 3) := by decide +kernel
theorem dL_law_489 : decode cL_law 489 = .ok (.iload 10, 2) := by decide +kernel
theorem dL_law_491 : decode cL_law 491 = .ok (.invokevirtual 48, 3) := by decide +kernel
theorem dL_law_494 : decode cL_law 494 = .ok (.ldc 100, 2) := by decide +kernel
theorem dL_law_496 : decode cL_law 496 = .ok (.invokevirtual 44, 3) := by decide +kernel
theorem dL_law_499 : decode cL_law 499 = .ok (.invokevirtual 59, 3) := by decide +kernel
theorem dL_law_502 : decode cL_law 502 = .ok (.invokestatic 63, 3) := by decide +kernel
theorem dL_law_505 : decode cL_law 505 = .ok (.iconst 4, 1) := by decide +kernel
theorem dL_law_506 : decode cL_law 506 = .ok (.if_icmp .ne 102, 3) := by decide +kernel
theorem dL_law_509 : decode cL_law 509 = .ok (.aload_n 1, 1) := by decide +kernel
theorem dL_law_510 : decode cL_law 510 = .ok (.iload 10, 2) := by decide +kernel
theorem dL_law_512 : decode cL_law 512 = .ok (.invokevirtual 78, 3) := by decide +kernel
theorem dL_law_515 : decode cL_law 515 = .ok (.iload 10, 2) := by decide +kernel
theorem dL_law_517 : decode cL_law 517 = .ok (.if_icmp .ne 91, 3) := by decide +kernel
theorem dL_law_520 : decode cL_law 520 = .ok (.aload_n 1, 1) := by decide +kernel
theorem dL_law_521 : decode cL_law 521 = .ok (.bipush 8, 2) := by decide +kernel
theorem dL_law_523 : decode cL_law 523 = .ok (.invokevirtual 90, 3) := by decide +kernel
theorem dL_law_526 : decode cL_law 526 = .ok (.ifCond .ne 82, 3) := by decide +kernel
theorem dL_law_529 : decode cL_law 529 = .ok (.aload_n 1, 1) := by decide +kernel
theorem dL_law_530 : decode cL_law 530 = .ok (.iconst 1, 1) := by decide +kernel
theorem dL_law_531 : decode cL_law 531 = .ok (.invokevirtual 78, 3) := by decide +kernel
theorem dL_law_534 : decode cL_law 534 = .ok (.iload 10, 2) := by decide +kernel
theorem dL_law_536 : decode cL_law 536 = .ok (.iconst 1, 1) := by decide +kernel
theorem dL_law_537 : decode cL_law 537 = .ok (.iadd, 1) := by decide +kernel
theorem dL_law_538 : decode cL_law 538 = .ok (.if_icmp .ne 70, 3) := by decide +kernel
theorem dL_law_541 : decode cL_law 541 = .ok (.aload_n 1, 1) := by decide +kernel
theorem dL_law_542 : decode cL_law 542 = .ok (.iconst 0, 1) := by decide +kernel
theorem dL_law_543 : decode cL_law 543 = .ok (.iconst 0, 1) := by decide +kernel
theorem dL_law_544 : decode cL_law 544 = .ok (.invokevirtual 81, 3) := by decide +kernel
theorem dL_law_547 : decode cL_law 547 = .ok (.bipush 51, 2) := by decide +kernel
theorem dL_law_549 : decode cL_law 549 = .ok (.if_icmp .ne 59, 3) := by decide +kernel
theorem dL_law_552 : decode cL_law 552 = .ok (.aload_n 1, 1) := by decide +kernel
theorem dL_law_553 : decode cL_law 553 = .ok (.iconst 1, 1) := by decide +kernel
theorem dL_law_554 : decode cL_law 554 = .ok (.iconst 0, 1) := by decide +kernel
theorem dL_law_555 : decode cL_law 555 = .ok (.invokevirtual 81, 3) := by decide +kernel
theorem dL_law_558 : decode cL_law 558 = .ok (.iconst 4, 1) := by decide +kernel
theorem dL_law_559 : decode cL_law 559 = .ok (.if_icmp .ne 49, 3) := by decide +kernel
theorem dL_law_562 : decode cL_law 562 = .ok (.aload_n 1, 1) := by decide +kernel
theorem dL_law_563 : decode cL_law 563 = .ok (.bipush 8, 2) := by decide +kernel
theorem dL_law_565 : decode cL_law 565 = .ok (.invokevirtual 90, 3) := by decide +kernel
theorem dL_law_568 : decode cL_law 568 = .ok (.bipush 53, 2) := by decide +kernel
theorem dL_law_570 : decode cL_law 570 = .ok (.if_icmp .ne 38, 3) := by decide +kernel
theorem dL_law_573 : decode cL_law 573 = .ok (.aload_n 1, 1) := by decide +kernel
theorem dL_law_574 : decode cL_law 574 = .ok (.bipush 24, 2) := by decide +kernel
theorem dL_law_576 : decode cL_law 576 = .ok (.invokevirtual 78, 3) := by decide +kernel
theorem dL_law_579 : decode cL_law 579 = .ok (.iload 10, 2) := by decide +kernel
theorem dL_law_581 : decode cL_law 581 = .ok (.bipush 25, 2) := by decide +kernel
theorem dL_law_583 : decode cL_law 583 = .ok (.iadd, 1) := by decide +kernel
theorem dL_law_584 : decode cL_law 584 = .ok (.if_icmp .ne 24, 3) := by decide +kernel
theorem dL_law_587 : decode cL_law 587 = .ok (.aload_n 1, 1) := by decide +kernel
theorem dL_law_588 : decode cL_law 588 = .ok (.iconst 0, 1) := by decide +kernel
theorem dL_law_589 : decode cL_law 589 = .ok (.iconst 0, 1) := by decide +kernel
theorem dL_law_590 : decode cL_law 590 = .ok (.invokevirtual 81, 3) := by decide +kernel
theorem dL_law_593 : decode cL_law 593 = .ok (.bipush 26, 2) := by decide +kernel
theorem dL_law_595 : decode cL_law 595 = .ok (.if_icmp .ne 13, 3) := by decide +kernel
theorem dL_law_598 : decode cL_law 598 = .ok (.aload_n 1, 1) := by decide +kernel
theorem dL_law_599 : decode cL_law 599 = .ok (.iconst 1, 1) := by decide +kernel
theorem dL_law_600 : decode cL_law 600 = .ok (.iconst 0, 1) := by decide +kernel
theorem dL_law_601 : decode cL_law 601 = .ok (.invokevirtual 81, 3) := by decide +kernel
theorem dL_law_604 : decode cL_law 604 = .ok (.iconst 2, 1) := by decide +kernel
theorem dL_law_605 : decode cL_law 605 = .ok (.if_icmp .eq 5, 3) := by decide +kernel
theorem dL_law_608 : decode cL_law 608 = .ok (.iconst 0, 1) := by decide +kernel
theorem dL_law_609 : decode cL_law 609 = .ok (.ireturn, 1) := by decide +kernel
theorem dL_law_610 : decode cL_law 610 = .ok (.aload_n 1, 1) := by decide +kernel
theorem dL_law_611 : decode cL_law 611 = .ok (.ldc 102, 2) := by decide +kernel
theorem dL_law_613 : decode cL_law 613 = .ok (.invokestatic 63, 3) := by decide +kernel
theorem dL_law_616 : decode cL_law 616 = .ok (.bipush 9, 2) := by decide +kernel
theorem dL_law_618 : decode cL_law 618 = .ok (.if_icmp .ne 161, 3) := by decide +kernel
theorem dL_law_621 : decode cL_law 621 = .ok (.aload_n 1, 1) := by decide +kernel
theorem dL_law_622 : decode cL_law 622 = .ok (.iconst 0, 1) := by decide +kernel
theorem dL_law_623 : decode cL_law 623 = .ok (.iconst 0, 1) := by decide +kernel
theorem dL_law_624 : decode cL_law 624 = .ok (.invokevirtual 95, 3) := by decide +kernel
theorem dL_law_627 : decode cL_law 627 = .ok (.ifCond .ne 152, 3) := by decide +kernel
theorem dL_law_630 : decode cL_law 630 = .ok (.aload_n 1, 1) := by decide +kernel
theorem dL_law_631 : decode cL_law 631 = .ok (.iconst 1, 1) := by decide +kernel
theorem dL_law_632 : decode cL_law 632 = .ok (.iconst 0, 1) := by decide +kernel
theorem dL_law_633 : decode cL_law 633 = .ok (.invokevirtual 95, 3) := by decide +kernel
theorem dL_law_636 : decode cL_law 636 = .ok (.iconst 1, 1) := by decide +kernel
theorem dL_law_637 : decode cL_law 637 = .ok (.if_icmp .ne 142, 3) := by decide +kernel
theorem dL_law_640 : decode cL_law 640 = .ok (.aload_n 1, 1) := by decide +kernel
theorem dL_law_641 : decode cL_law 641 = .ok (.iconst 0, 1) := by decide +kernel
theorem dL_law_642 : decode cL_law 642 = .ok (.bipush 6, 2) := by decide +kernel
theorem dL_law_644 : decode cL_law 644 = .ok (.invokevirtual 87, 3) := by decide +kernel
theorem dL_law_647 : decode cL_law 647 = .ok (.bipush 7, 2) := by decide +kernel
theorem dL_law_649 : decode cL_law 649 = .ok (.if_icmp .ne 130, 3) := by decide +kernel
theorem dL_law_652 : decode cL_law 652 = .ok (.aload_n 1, 1) := by decide +kernel
theorem dL_law_653 : decode cL_law 653 = .ok (.iconst 1, 1) := by decide +kernel
theorem dL_law_654 : decode cL_law 654 = .ok (.bipush 6, 2) := by decide +kernel
theorem dL_law_656 : decode cL_law 656 = .ok (.invokevirtual 87, 3) := by decide +kernel
theorem dL_law_659 : decode cL_law 659 = .ok (.bipush 9, 2) := by decide +kernel
theorem dL_law_661 : decode cL_law 661 = .ok (.if_icmp .ne 118, 3) := by decide +kernel
theorem dL_law_664 : decode cL_law 664 = .ok (.aload_n 1, 1) := by decide +kernel
theorem dL_law_665 : decode cL_law 665 = .ok (.invokevirtual 104, 3) := by decide +kernel
theorem dL_law_668 : decode cL_law 668 = .ok (.iconst 2, 1) := by decide +kernel
theorem dL_law_669 : decode cL_law 669 = .ok (.if_icmp .ne 110, 3) := by decide +kernel
theorem dL_law_672 : decode cL_law 672 = .ok (.aload_n 1, 1) := by decide +kernel
theorem dL_law_673 : decode cL_law 673 = .ok (.iconst 1, 1) := by decide +kernel
theorem dL_law_674 : decode cL_law 674 = .ok (.invokevirtual 78, 3) := by decide +kernel
theorem dL_law_677 : decode cL_law 677 = .ok (.iconst 1, 1) := by decide +kernel
theorem dL_law_678 : decode cL_law 678 = .ok (.if_icmp .ne 101, 3) := by decide +kernel
theorem dL_law_681 : decode cL_law 681 = .ok (.aload_n 1, 1) := by decide +kernel
theorem dL_law_682 : decode cL_law 682 = .ok (.iconst 0, 1) := by decide +kernel
theorem dL_law_683 : decode cL_law 683 = .ok (.iconst 0, 1) := by decide +kernel
theorem dL_law_684 : decode cL_law 684 = .ok (.invokevirtual 81, 3) := by decide +kernel
theorem dL_law_687 : decode cL_law 687 = .ok (.ifCond .ne 92, 3) := by decide +kernel
theorem dL_law_690 : decode cL_law 690 = .ok (.aload_n 1, 1) := by decide +kernel
theorem dL_law_691 : decode cL_law 691 = .ok (.iconst 1, 1) := by decide +kernel
theorem dL_law_692 : decode cL_law 692 = .ok (.iconst 0, 1) := by decide +kernel
theorem dL_law_693 : decode cL_law 693 = .ok (.invokevirtual 81, 3) := by decide +kernel
theorem dL_law_696 : decode cL_law 696 = .ok (.iconst 4, 1) := by decide +kernel
theorem dL_law_697 : decode cL_law 697 = .ok (.if_icmp .ne 82, 3) := by decide +kernel
theorem dL_law_700 : decode cL_law 700 = .ok (.aload_n 1, 1) := by decide +kernel
theorem dL_law_701 : decode cL_law 701 = .ok (.iconst 0, 1) := by decide +kernel
theorem dL_law_702 : decode cL_law 702 = .ok (.iconst 0, 1) := by decide +kernel
theorem dL_law_703 : decode cL_law 703 = .ok (.invokevirtual 95, 3) := by decide +kernel
theorem dL_law_706 : decode cL_law 706 = .ok (.iconst 2, 1) := by decide +kernel
theorem dL_law_707 : decode cL_law 707 = .ok (.if_icmp .ne 72, 3) := by decide +kernel
theorem dL_law_710 : decode cL_law 710 = .ok (.aload_n 1, 1) := by decide +kernel
theorem dL_law_711 : decode cL_law 711 = .ok (.iconst 0, 1) := by decide +kernel
theorem dL_law_712 : decode cL_law 712 = .ok (.iconst 1, 1) := by decide +kernel
theorem dL_law_713 : decode cL_law 713 = .ok (.invokevirtual 95, 3) := by decide +kernel
theorem dL_law_716 : decode cL_law 716 = .ok (.iconst 2, 1) := by decide +kernel
theorem dL_law_717 : decode cL_law 717 = .ok (.if_icmp .ne 62, 3) := by decide +kernel
theorem dL_law_720 : decode cL_law 720 = .ok (.aload_n 1, 1) := by decide +kernel
theorem dL_law_721 : decode cL_law 721 = .ok (.iconst 1, 1) := by decide +kernel
theorem dL_law_722 : decode cL_law 722 = .ok (.invokevirtual 78, 3) := by decide +kernel
theorem dL_law_725 : decode cL_law 725 = .ok (.iconst 2, 1) := by decide +kernel
theorem dL_law_726 : decode cL_law 726 = .ok (.if_icmp .ne 53, 3) := by decide +kernel
theorem dL_law_729 : decode cL_law 729 = .ok (.aload_n 1, 1) := by decide +kernel
theorem dL_law_730 : decode cL_law 730 = .ok (.iconst 2, 1) := by decide +kernel
theorem dL_law_731 : decode cL_law 731 = .ok (.iconst 0, 1) := by decide +kernel
theorem dL_law_732 : decode cL_law 732 = .ok (.invokevirtual 81, 3) := by decide +kernel
theorem dL_law_735 : decode cL_law 735 = .ok (.ifCond .ne 44, 3) := by decide +kernel
theorem dL_law_738 : decode cL_law 738 = .ok (.aload_n 1, 1) := by decide +kernel
theorem dL_law_739 : decode cL_law 739 = .ok (.iconst 0, 1) := by decide +kernel
theorem dL_law_740 : decode cL_law 740 = .ok (.iconst 0, 1) := by decide +kernel
theorem dL_law_741 : decode cL_law 741 = .ok (.invokevirtual 95, 3) := by decide +kernel
theorem dL_law_744 : decode cL_law 744 = .ok (.bipush (-3), 2) := by decide +kernel
theorem dL_law_746 : decode cL_law 746 = .ok (.if_icmp .ne 33, 3) := by decide +kernel
theorem dL_law_749 : decode cL_law 749 = .ok (.aload_n 1, 1) := by decide +kernel
theorem dL_law_750 : decode cL_law 750 = .ok (.iconst 0, 1) := by decide +kernel
theorem dL_law_751 : decode cL_law 751 = .ok (.iconst 1, 1) := by decide +kernel
theorem dL_law_752 : decode cL_law 752 = .ok (.invokevirtual 95, 3) := by decide +kernel
theorem dL_law_755 : decode cL_law 755 = .ok (.bipush (-2), 2) := by decide +kernel
theorem dL_law_757 : decode cL_law 757 = .ok (.if_icmp .ne 22, 3) := by decide +kernel
theorem dL_law_760 : decode cL_law 760 = .ok (.aload_n 1, 1) := by decide +kernel
theorem dL_law_761 : decode cL_law 761 = .ok (.iconst 0, 1) := by decide +kernel
theorem dL_law_762 : decode cL_law 762 = .ok (.invokevirtual 107, 3) := by decide +kernel
theorem dL_law_765 : decode cL_law 765 = .ok (.ifCond .eq 14, 3) := by decide +kernel
theorem dL_law_768 : decode cL_law 768 = .ok (.aload_n 1, 1) := by decide +kernel
theorem dL_law_769 : decode cL_law 769 = .ok (.iconst 0, 1) := by decide +kernel
theorem dL_law_770 : decode cL_law 770 = .ok (.iconst 0, 1) := by decide +kernel
theorem dL_law_771 : decode cL_law 771 = .ok (.invokevirtual 95, 3) := by decide +kernel
theorem dL_law_774 : decode cL_law 774 = .ok (.bipush (-3), 2) := by decide +kernel
theorem dL_law_776 : decode cL_law 776 = .ok (.if_icmp .eq 5, 3) := by decide +kernel
theorem dL_law_779 : decode cL_law 779 = .ok (.iconst 0, 1) := by decide +kernel
theorem dL_law_780 : decode cL_law 780 = .ok (.ireturn, 1) := by decide +kernel
theorem dL_law_781 : decode cL_law 781 = .ok (.aload_n 1, 1) := by decide +kernel
theorem dL_law_782 : decode cL_law 782 = .ok (.ldc 111, 2) := by decide +kernel
theorem dL_law_784 : decode cL_law 784 = .ok (.invokestatic 63, 3) := by decide +kernel
theorem dL_law_787 : decode cL_law 787 = .ok (.bipush 6, 2) := by decide +kernel
theorem dL_law_789 : decode cL_law 789 = .ok (.if_icmp .ne 95, 3) := by decide +kernel
theorem dL_law_792 : decode cL_law 792 = .ok (.aload_n 1, 1) := by decide +kernel
theorem dL_law_793 : decode cL_law 793 = .ok (.invokevirtual 104, 3) := by decide +kernel
theorem dL_law_796 : decode cL_law 796 = .ok (.bipush 8, 2) := by decide +kernel
theorem dL_law_798 : decode cL_law 798 = .ok (.if_icmp .ne 86, 3) := by decide +kernel
theorem dL_law_801 : decode cL_law 801 = .ok (.aload_n 1, 1) := by decide +kernel
theorem dL_law_802 : decode cL_law 802 = .ok (.iconst 0, 1) := by decide +kernel
theorem dL_law_803 : decode cL_law 803 = .ok (.invokevirtual 113, 3) := by decide +kernel
theorem dL_law_806 : decode cL_law 806 = .ok (.ifCond .ne 78, 3) := by decide +kernel
theorem dL_law_809 : decode cL_law 809 = .ok (.aload_n 1, 1) := by decide +kernel
theorem dL_law_810 : decode cL_law 810 = .ok (.iconst 1, 1) := by decide +kernel
theorem dL_law_811 : decode cL_law 811 = .ok (.invokevirtual 113, 3) := by decide +kernel
theorem dL_law_814 : decode cL_law 814 = .ok (.iconst 3, 1) := by decide +kernel
theorem dL_law_815 : decode cL_law 815 = .ok (.if_icmp .ne 69, 3) := by decide +kernel
theorem dL_law_818 : decode cL_law 818 = .ok (.aload_n 1, 1) := by decide +kernel
theorem dL_law_819 : decode cL_law 819 = .ok (.iconst 2, 1) := by decide +kernel
theorem dL_law_820 : decode cL_law 820 = .ok (.invokevirtual 113, 3) := by decide +kernel
theorem dL_law_823 : decode cL_law 823 = .ok (.bipush 6, 2) := by decide +kernel
theorem dL_law_825 : decode cL_law 825 = .ok (.if_icmp .ne 59, 3) := by decide +kernel
theorem dL_law_828 : decode cL_law 828 = .ok (.aload_n 1, 1) := by decide +kernel
theorem dL_law_829 : decode cL_law 829 = .ok (.iconst 0, 1) := by decide +kernel
theorem dL_law_830 : decode cL_law 830 = .ok (.iconst 1, 1) := by decide +kernel
theorem dL_law_831 : decode cL_law 831 = .ok (.invokevirtual 116, 3) := by decide +kernel
theorem dL_law_834 : decode cL_law 834 = .ok (.ifCond .eq 50, 3) := by decide +kernel
theorem dL_law_837 : decode cL_law 837 = .ok (.aload_n 1, 1) := by decide +kernel
theorem dL_law_838 : decode cL_law 838 = .ok (.iconst 1, 1) := by decide +kernel
theorem dL_law_839 : decode cL_law 839 = .ok (.bipush 6, 2) := by decide +kernel
theorem dL_law_841 : decode cL_law 841 = .ok (.invokevirtual 87, 3) := by decide +kernel
theorem dL_law_844 : decode cL_law 844 = .ok (.bipush 14, 2) := by decide +kernel
theorem dL_law_846 : decode cL_law 846 = .ok (.if_icmp .ne 38, 3) := by decide +kernel
theorem dL_law_849 : decode cL_law 849 = .ok (.aload_n 1, 1) := by decide +kernel
theorem dL_law_850 : decode cL_law 850 = .ok (.invokevirtual 104, 3) := by decide +kernel
theorem dL_law_853 : decode cL_law 853 = .ok (.bipush 12, 2) := by decide +kernel
theorem dL_law_855 : decode cL_law 855 = .ok (.if_icmp .ne 29, 3) := by decide +kernel
theorem dL_law_858 : decode cL_law 858 = .ok (.aload_n 1, 1) := by decide +kernel
theorem dL_law_859 : decode cL_law 859 = .ok (.iconst 0, 1) := by decide +kernel
theorem dL_law_860 : decode cL_law 860 = .ok (.invokevirtual 113, 3) := by decide +kernel
theorem dL_law_863 : decode cL_law 863 = .ok (.ifCond .ne 21, 3) := by decide +kernel
theorem dL_law_866 : decode cL_law 866 = .ok (.aload_n 1, 1) := by decide +kernel
theorem dL_law_867 : decode cL_law 867 = .ok (.iconst 1, 1) := by decide +kernel
theorem dL_law_868 : decode cL_law 868 = .ok (.invokevirtual 113, 3) := by decide +kernel
theorem dL_law_871 : decode cL_law 871 = .ok (.iconst 2, 1) := by decide +kernel
theorem dL_law_872 : decode cL_law 872 = .ok (.if_icmp .ne 12, 3) := by decide +kernel
theorem dL_law_875 : decode cL_law 875 = .ok (.aload_n 1, 1) := by decide +kernel
theorem dL_law_876 : decode cL_law 876 = .ok (.iconst 2, 1) := by decide +kernel
theorem dL_law_877 : decode cL_law 877 = .ok (.invokevirtual 113, 3) := by decide +kernel
theorem dL_law_880 : decode cL_law 880 = .ok (.iconst 4, 1) := by decide +kernel
theorem dL_law_881 : decode cL_law 881 = .ok (.if_icmp .eq 5, 3) := by decide +kernel
theorem dL_law_884 : decode cL_law 884 = .ok (.iconst 0, 1) := by decide +kernel
theorem dL_law_885 : decode cL_law 885 = .ok (.ireturn, 1) := by decide +kernel
theorem dL_law_886 : decode cL_law 886 = .ok (.aload_n 1, 1) := by decide +kernel
theorem dL_law_887 : decode cL_law 887 = .ok (.ldc 120, 2) := by decide +kernel
theorem dL_law_889 : decode cL_law 889 = .ok (.invokestatic 63, 3) := by decide +kernel
theorem dL_law_892 : decode cL_law 892 = .ok (.iconst 3, 1) := by decide +kernel
theorem dL_law_893 : decode cL_law 893 = .ok (.if_icmp .ne 134, 3) := by decide +kernel
theorem dL_law_896 : decode cL_law 896 = .ok (.aload_n 1, 1) := by decide +kernel
theorem dL_law_897 : decode cL_law 897 = .ok (.iconst 0, 1) := by decide +kernel
theorem dL_law_898 : decode cL_law 898 = .ok (.iconst 3, 1) := by decide +kernel
theorem dL_law_899 : decode cL_law 899 = .ok (.invokevirtual 122, 3) := by decide +kernel
theorem dL_law_902 : decode cL_law 902 = .ok (.sipush 600, 3) := by decide +kernel
theorem dL_law_905 : decode cL_law 905 = .ok (.if_icmp .ne 122, 3) := by decide +kernel
theorem dL_law_908 : decode cL_law 908 = .ok (.aload_n 1, 1) := by decide +kernel
theorem dL_law_909 : decode cL_law 909 = .ok (.iconst 0, 1) := by decide +kernel
theorem dL_law_910 : decode cL_law 910 = .ok (.iconst 3, 1) := by decide +kernel
theorem dL_law_911 : decode cL_law 911 = .ok (.iconst 0, 1) := by decide +kernel
theorem dL_law_912 : decode cL_law 912 = .ok (.invokevirtual 125, 3) := by decide +kernel
theorem dL_law_915 : decode cL_law 915 = .ok (.iconst 1, 1) := by decide +kernel
theorem dL_law_916 : decode cL_law 916 = .ok (.if_icmp .ne 111, 3) := by decide +kernel
theorem dL_law_919 : decode cL_law 919 = .ok (.aload_n 1, 1) := by decide +kernel
theorem dL_law_920 : decode cL_law 920 = .ok (.iconst 0, 1) := by decide +kernel
theorem dL_law_921 : decode cL_law 921 = .ok (.iconst 3, 1) := by decide +kernel
theorem dL_law_922 : decode cL_law 922 = .ok (.iconst 2, 1) := by decide +kernel
theorem dL_law_923 : decode cL_law 923 = .ok (.invokevirtual 125, 3) := by decide +kernel
theorem dL_law_926 : decode cL_law 926 = .ok (.iconst 1, 1) := by decide +kernel
theorem dL_law_927 : decode cL_law 927 = .ok (.if_icmp .ne 100, 3) := by decide +kernel
theorem dL_law_930 : decode cL_law 930 = .ok (.aload_n 1, 1) := by decide +kernel
theorem dL_law_931 : decode cL_law 931 = .ok (.iconst 0, 1) := by decide +kernel
theorem dL_law_932 : decode cL_law 932 = .ok (.iconst 5, 1) := by decide +kernel
theorem dL_law_933 : decode cL_law 933 = .ok (.invokevirtual 122, 3) := by decide +kernel
theorem dL_law_936 : decode cL_law 936 = .ok (.sipush 600, 3) := by decide +kernel
theorem dL_law_939 : decode cL_law 939 = .ok (.if_icmp .ne 88, 3) := by decide +kernel
theorem dL_law_942 : decode cL_law 942 = .ok (.aload_n 1, 1) := by decide +kernel
theorem dL_law_943 : decode cL_law 943 = .ok (.iconst 0, 1) := by decide +kernel
theorem dL_law_944 : decode cL_law 944 = .ok (.iconst 5, 1) := by decide +kernel
theorem dL_law_945 : decode cL_law 945 = .ok (.iconst 4, 1) := by decide +kernel
theorem dL_law_946 : decode cL_law 946 = .ok (.invokevirtual 125, 3) := by decide +kernel
theorem dL_law_949 : decode cL_law 949 = .ok (.iconst 1, 1) := by decide +kernel
theorem dL_law_950 : decode cL_law 950 = .ok (.if_icmp .ne 77, 3) := by decide +kernel
theorem dL_law_953 : decode cL_law 953 = .ok (.aload_n 1, 1) := by decide +kernel
theorem dL_law_954 : decode cL_law 954 = .ok (.iconst 0, 1) := by decide +kernel
theorem dL_law_955 : decode cL_law 955 = .ok (.iconst 5, 1) := by decide +kernel
theorem dL_law_956 : decode cL_law 956 = .ok (.iconst 5, 1) := by decide +kernel
theorem dL_law_957 : decode cL_law 957 = .ok (.invokevirtual 125, 3) := by decide +kernel
theorem dL_law_960 : decode cL_law 960 = .ok (.bipush (-2), 2) := by decide +kernel
theorem dL_law_962 : decode cL_law 962 = .ok (.if_icmp .ne 65, 3) := by decide +kernel
theorem dL_law_965 : decode cL_law 965 = .ok (.aload_n 1, 1) := by decide +kernel
theorem dL_law_966 : decode cL_law 966 = .ok (.iconst 0, 1) := by decide +kernel
theorem dL_law_967 : decode cL_law 967 = .ok (.iconst 3, 1) := by decide +kernel
theorem dL_law_968 : decode cL_law 968 = .ok (.invokevirtual 128, 3) := by decide +kernel
theorem dL_law_971 : decode cL_law 971 = .ok (.ifCond .eq 56, 3) := by decide +kernel
theorem dL_law_974 : decode cL_law 974 = .ok (.aload_n 1, 1) := by decide +kernel
theorem dL_law_975 : decode cL_law 975 = .ok (.iconst 0, 1) := by decide +kernel
theorem dL_law_976 : decode cL_law 976 = .ok (.iconst 3, 1) := by decide +kernel
theorem dL_law_977 : decode cL_law 977 = .ok (.iconst 3, 1) := by decide +kernel
theorem dL_law_978 : decode cL_law 978 = .ok (.invokevirtual 74, 3) := by decide +kernel
theorem dL_law_981 : decode cL_law 981 = .ok (.sipush 600, 3) := by decide +kernel
theorem dL_law_984 : decode cL_law 984 = .ok (.if_icmp .ne 43, 3) := by decide +kernel
theorem dL_law_987 : decode cL_law 987 = .ok (.aload_n 1, 1) := by decide +kernel
theorem dL_law_988 : decode cL_law 988 = .ok (.iconst 0, 1) := by decide +kernel
theorem dL_law_989 : decode cL_law 989 = .ok (.iconst 0, 1) := by decide +kernel
theorem dL_law_990 : decode cL_law 990 = .ok (.iconst 3, 1) := by decide +kernel
theorem dL_law_991 : decode cL_law 991 = .ok (.invokevirtual 131, 3) := by decide +kernel
theorem dL_law_994 : decode cL_law 994 = .ok (.ifCond .ne 33, 3) := by decide +kernel
theorem dL_law_997 : decode cL_law 997 = .ok (.aload_n 1, 1) := by decide +kernel
theorem dL_law_998 : decode cL_law 998 = .ok (.iconst 3, 1) := by decide +kernel
theorem dL_law_999 : decode cL_law 999 = .ok (.invokevirtual 78, 3) := by decide +kernel
theorem dL_law_1002 : decode cL_law 1002 = .ok (.iconst 3, 1) := by decide +kernel
theorem dL_law_1003 : decode cL_law 1003 = .ok (.if_icmp .ne 24, 3) := by decide +kernel
theorem dL_law_1006 : decode cL_law 1006 = .ok (.aload_n 1, 1) := by decide +kernel
theorem dL_law_1007 : decode cL_law 1007 = .ok (.iconst 0, 1) := by decide +kernel
theorem dL_law_1008 : decode cL_law 1008 = .ok (.iconst 4, 1) := by decide +kernel
theorem dL_law_1009 : decode cL_law 1009 = .ok (.invokevirtual 87, 3) := by decide +kernel
theorem dL_law_1012 : decode cL_law 1012 = .ok (.ifCond .ne 15, 3) := by decide +kernel
theorem dL_law_1015 : decode cL_law 1015 = .ok (.aload_n 1, 1) := by decide +kernel
theorem dL_law_1016 : decode cL_law 1016 = .ok (.iconst 0, 1) := by decide +kernel
theorem dL_law_1017 : decode cL_law 1017 = .ok (.iconst 1, 1) := by decide +kernel
theorem dL_law_1018 : decode cL_law 1018 = .ok (.invokevirtual 122, 3) := by decide +kernel
theorem dL_law_1021 : decode cL_law 1021 = .ok (.sipush 300, 3) := by decide +kernel
theorem dL_law_1024 : decode cL_law 1024 = .ok (.if_icmp .eq 5, 3) := by decide +kernel
theorem dL_law_1027 : decode cL_law 1027 = .ok (.iconst 0, 1) := by decide +kernel
theorem dL_law_1028 : decode cL_law 1028 = .ok (.ireturn, 1) := by decide +kernel
theorem dL_law_1029 : decode cL_law 1029 = .ok (.aload_n 1, 1) := by decide +kernel
theorem dL_law_1030 : decode cL_law 1030 = .ok (.ldc 134, 2) := by decide +kernel
theorem dL_law_1032 : decode cL_law 1032 = .ok (.invokestatic 63, 3) := by decide +kernel
theorem dL_law_1035 : decode cL_law 1035 = .ok (.iconst 5, 1) := by decide +kernel
theorem dL_law_1036 : decode cL_law 1036 = .ok (.if_icmp .ne 115, 3) := by decide +kernel
theorem dL_law_1039 : decode cL_law 1039 = .ok (.aload_n 1, 1) := by decide +kernel
theorem dL_law_1040 : decode cL_law 1040 = .ok (.iconst 0, 1) := by decide +kernel
theorem dL_law_1041 : decode cL_law 1041 = .ok (.iconst 1, 1) := by decide +kernel
theorem dL_law_1042 : decode cL_law 1042 = .ok (.iconst 4, 1) := by decide +kernel
theorem dL_law_1043 : decode cL_law 1043 = .ok (.iconst 0, 1) := by decide +kernel
theorem dL_law_1044 : decode cL_law 1044 = .ok (.invokevirtual 136, 3) := by decide +kernel
theorem dL_law_1047 : decode cL_law 1047 = .ok (.ifCond .ne 104, 3) := by decide +kernel
theorem dL_law_1050 : decode cL_law 1050 = .ok (.aload_n 1, 1) := by decide +kernel
theorem dL_law_1051 : decode cL_law 1051 = .ok (.iconst 0, 1) := by decide +kernel
theorem dL_law_1052 : decode cL_law 1052 = .ok (.iconst 1, 1) := by decide +kernel
theorem dL_law_1053 : decode cL_law 1053 = .ok (.iconst 4, 1) := by decide +kernel
theorem dL_law_1054 : decode cL_law 1054 = .ok (.iconst 1, 1) := by decide +kernel
theorem dL_law_1055 : decode cL_law 1055 = .ok (.invokevirtual 136, 3) := by decide +kernel
theorem dL_law_1058 : decode cL_law 1058 = .ok (.bipush 40, 2) := by decide +kernel
theorem dL_law_1060 : decode cL_law 1060 = .ok (.if_icmp .ne 91, 3) := by decide +kernel
theorem dL_law_1063 : decode cL_law 1063 = .ok (.aload_n 1, 1) := by decide +kernel
theorem dL_law_1064 : decode cL_law 1064 = .ok (.iconst 0, 1) := by decide +kernel
theorem dL_law_1065 : decode cL_law 1065 = .ok (.iconst 1, 1) := by decide +kernel
theorem dL_law_1066 : decode cL_law 1066 = .ok (.iconst 4, 1) := by decide +kernel
theorem dL_law_1067 : decode cL_law 1067 = .ok (.iconst 2, 1) := by decide +kernel
theorem dL_law_1068 : decode cL_law 1068 = .ok (.invokevirtual 136, 3) := by decide +kernel
theorem dL_law_1071 : decode cL_law 1071 = .ok (.iconst 1, 1) := by decide +kernel
theorem dL_law_1072 : decode cL_law 1072 = .ok (.if_icmp .ne 79, 3) := by decide +kernel
theorem dL_law_1075 : decode cL_law 1075 = .ok (.aload_n 1, 1) := by decide +kernel
theorem dL_law_1076 : decode cL_law 1076 = .ok (.iconst 1, 1) := by decide +kernel
theorem dL_law_1077 : decode cL_law 1077 = .ok (.iconst 0, 1) := by decide +kernel
theorem dL_law_1078 : decode cL_law 1078 = .ok (.iconst 4, 1) := by decide +kernel
theorem dL_law_1079 : decode cL_law 1079 = .ok (.iconst 0, 1) := by decide +kernel
theorem dL_law_1080 : decode cL_law 1080 = .ok (.invokevirtual 136, 3) := by decide +kernel
theorem dL_law_1083 : decode cL_law 1083 = .ok (.bipush 40, 2) := by decide +kernel
theorem dL_law_1085 : decode cL_law 1085 = .ok (.if_icmp .ne 66, 3) := by decide +kernel
theorem dL_law_1088 : decode cL_law 1088 = .ok (.aload_n 1, 1) := by decide +kernel
theorem dL_law_1089 : decode cL_law 1089 = .ok (.iconst 1, 1) := by decide +kernel
theorem dL_law_1090 : decode cL_law 1090 = .ok (.iconst 0, 1) := by decide +kernel
theorem dL_law_1091 : decode cL_law 1091 = .ok (.iconst 4, 1) := by decide +kernel
theorem dL_law_1092 : decode cL_law 1092 = .ok (.iconst 1, 1) := by decide +kernel
theorem dL_law_1093 : decode cL_law 1093 = .ok (.invokevirtual 136, 3) := by decide +kernel
theorem dL_law_1096 : decode cL_law 1096 = .ok (.ifCond .ne 55, 3) := by decide +kernel
theorem dL_law_1099 : decode cL_law 1099 = .ok (.aload_n 1, 1) := by decide +kernel
theorem dL_law_1100 : decode cL_law 1100 = .ok (.iconst 1, 1) := by decide +kernel
theorem dL_law_1101 : decode cL_law 1101 = .ok (.iconst 0, 1) := by decide +kernel
theorem dL_law_1102 : decode cL_law 1102 = .ok (.iconst 4, 1) := by decide +kernel
theorem dL_law_1103 : decode cL_law 1103 = .ok (.iconst 2, 1) := by decide +kernel
theorem dL_law_1104 : decode cL_law 1104 = .ok (.invokevirtual 136, 3) := by decide +kernel
theorem dL_law_1107 : decode cL_law 1107 = .ok (.bipush (-2), 2) := by decide +kernel
theorem dL_law_1109 : decode cL_law 1109 = .ok (.if_icmp .ne 42, 3) := by decide +kernel
theorem dL_law_1112 : decode cL_law 1112 = .ok (.aload_n 1, 1) := by decide +kernel
theorem dL_law_1113 : decode cL_law 1113 = .ok (.iconst 0, 1) := by decide +kernel
theorem dL_law_1114 : decode cL_law 1114 = .ok (.iconst 1, 1) := by decide +kernel
theorem dL_law_1115 : decode cL_law 1115 = .ok (.invokevirtual 140, 3) := by decide +kernel
theorem dL_law_1118 : decode cL_law 1118 = .ok (.ifCond .eq 33, 3) := by decide +kernel
theorem dL_law_1121 : decode cL_law 1121 = .ok (.aload_n 1, 1) := by decide +kernel
theorem dL_law_1122 : decode cL_law 1122 = .ok (.iconst 1, 1) := by decide +kernel
theorem dL_law_1123 : decode cL_law 1123 = .ok (.iconst 0, 1) := by decide +kernel
theorem dL_law_1124 : decode cL_law 1124 = .ok (.invokevirtual 87, 3) := by decide +kernel
theorem dL_law_1127 : decode cL_law 1127 = .ok (.iconst 2, 1) := by decide +kernel
theorem dL_law_1128 : decode cL_law 1128 = .ok (.if_icmp .ne 23, 3) := by decide +kernel
theorem dL_law_1131 : decode cL_law 1131 = .ok (.aload_n 1, 1) := by decide +kernel
theorem dL_law_1132 : decode cL_law 1132 = .ok (.iconst 4, 1) := by decide +kernel
theorem dL_law_1133 : decode cL_law 1133 = .ok (.invokevirtual 78, 3) := by decide +kernel
theorem dL_law_1136 : decode cL_law 1136 = .ok (.iconst 4, 1) := by decide +kernel
theorem dL_law_1137 : decode cL_law 1137 = .ok (.if_icmp .ne 14, 3) := by decide +kernel
theorem dL_law_1140 : decode cL_law 1140 = .ok (.aload_n 1, 1) := by decide +kernel
theorem dL_law_1141 : decode cL_law 1141 = .ok (.iconst 1, 1) := by decide +kernel
theorem dL_law_1142 : decode cL_law 1142 = .ok (.iconst 4, 1) := by decide +kernel
theorem dL_law_1143 : decode cL_law 1143 = .ok (.invokevirtual 87, 3) := by decide +kernel
theorem dL_law_1146 : decode cL_law 1146 = .ok (.bipush 80, 2) := by decide +kernel
theorem dL_law_1148 : decode cL_law 1148 = .ok (.if_icmp .eq 5, 3) := by decide +kernel
theorem dL_law_1151 : decode cL_law 1151 = .ok (.iconst 0, 1) := by decide +kernel
theorem dL_law_1152 : decode cL_law 1152 = .ok (.ireturn, 1) := by decide +kernel
theorem dL_law_1153 : decode cL_law 1153 = .ok (.aload_n 1, 1) := by decide +kernel
theorem dL_law_1154 : decode cL_law 1154 = .ok (.ldc 143, 2) := by decide +kernel
theorem dL_law_1156 : decode cL_law 1156 = .ok (.invokestatic 63, 3) := by decide +kernel
theorem dL_law_1159 : decode cL_law 1159 = .ok (.iconst 3, 1) := by decide +kernel
theorem dL_law_1160 : decode cL_law 1160 = .ok (.if_icmp .ne 100, 3) := by decide +kernel
theorem dL_law_1163 : decode cL_law 1163 = .ok (.aload_n 1, 1) := by decide +kernel
theorem dL_law_1164 : decode cL_law 1164 = .ok (.iconst 1, 1) := by decide +kernel
theorem dL_law_1165 : decode cL_law 1165 = .ok (.invokevirtual 145, 3) := by decide +kernel
theorem dL_law_1168 : decode cL_law 1168 = .ok (.bipush 8, 2) := by decide +kernel
theorem dL_law_1170 : decode cL_law 1170 = .ok (.if_icmp .ne 90, 3) := by decide +kernel
theorem dL_law_1173 : decode cL_law 1173 = .ok (.aload_n 1, 1) := by decide +kernel
theorem dL_law_1174 : decode cL_law 1174 = .ok (.iconst 1, 1) := by decide +kernel
theorem dL_law_1175 : decode cL_law 1175 = .ok (.iconst 0, 1) := by decide +kernel
theorem dL_law_1176 : decode cL_law 1176 = .ok (.invokevirtual 148, 3) := by decide +kernel
theorem dL_law_1179 : decode cL_law 1179 = .ok (.ifCond .ne 81, 3) := by decide +kernel
theorem dL_law_1182 : decode cL_law 1182 = .ok (.aload_n 1, 1) := by decide +kernel
theorem dL_law_1183 : decode cL_law 1183 = .ok (.iconst 2, 1) := by decide +kernel
theorem dL_law_1184 : decode cL_law 1184 = .ok (.invokevirtual 145, 3) := by decide +kernel
theorem dL_law_1187 : decode cL_law 1187 = .ok (.bipush 16, 2) := by decide +kernel
theorem dL_law_1189 : decode cL_law 1189 = .ok (.if_icmp .ne 71, 3) := by decide +kernel
theorem dL_law_1192 : decode cL_law 1192 = .ok (.aload_n 1, 1) := by decide +kernel
theorem dL_law_1193 : decode cL_law 1193 = .ok (.iconst 2, 1) := by decide +kernel
theorem dL_law_1194 : decode cL_law 1194 = .ok (.iconst 0, 1) := by decide +kernel
theorem dL_law_1195 : decode cL_law 1195 = .ok (.invokevirtual 148, 3) := by decide +kernel
theorem dL_law_1198 : decode cL_law 1198 = .ok (.ifCond .ne 62, 3) := by decide +kernel
theorem dL_law_1201 : decode cL_law 1201 = .ok (.aload_n 1, 1) := by decide +kernel
theorem dL_law_1202 : decode cL_law 1202 = .ok (.iconst 2, 1) := by decide +kernel
theorem dL_law_1203 : decode cL_law 1203 = .ok (.iconst 1, 1) := by decide +kernel
theorem dL_law_1204 : decode cL_law 1204 = .ok (.invokevirtual 148, 3) := by decide +kernel
theorem dL_law_1207 : decode cL_law 1207 = .ok (.iconst 1, 1) := by decide +kernel
theorem dL_law_1208 : decode cL_law 1208 = .ok (.if_icmp .ne 52, 3) := by decide +kernel
theorem dL_law_1211 : decode cL_law 1211 = .ok (.aload_n 1, 1) := by decide +kernel
theorem dL_law_1212 : decode cL_law 1212 = .ok (.iconst 3, 1) := by decide +kernel
theorem dL_law_1213 : decode cL_law 1213 = .ok (.invokevirtual 145, 3) := by decide +kernel
theorem dL_law_1216 : decode cL_law 1216 = .ok (.bipush 24, 2) := by decide +kernel
theorem dL_law_1218 : decode cL_law 1218 = .ok (.if_icmp .ne 42, 3) := by decide +kernel
theorem dL_law_1221 : decode cL_law 1221 = .ok (.aload_n 1, 1) := by decide +kernel
theorem dL_law_1222 : decode cL_law 1222 = .ok (.iconst 3, 1) := by decide +kernel
theorem dL_law_1223 : decode cL_law 1223 = .ok (.iconst 0, 1) := by decide +kernel
theorem dL_law_1224 : decode cL_law 1224 = .ok (.invokevirtual 148, 3) := by decide +kernel
theorem dL_law_1227 : decode cL_law 1227 = .ok (.ifCond .ne 33, 3) := by decide +kernel
theorem dL_law_1230 : decode cL_law 1230 = .ok (.aload_n 1, 1) := by decide +kernel
theorem dL_law_1231 : decode cL_law 1231 = .ok (.iconst 3, 1) := by decide +kernel
theorem dL_law_1232 : decode cL_law 1232 = .ok (.iconst 1, 1) := by decide +kernel
theorem dL_law_1233 : decode cL_law 1233 = .ok (.invokevirtual 148, 3) := by decide +kernel
theorem dL_law_1236 : decode cL_law 1236 = .ok (.ifCond .ne 24, 3) := by decide +kernel
theorem dL_law_1239 : decode cL_law 1239 = .ok (.aload_n 1, 1) := by decide +kernel
theorem dL_law_1240 : decode cL_law 1240 = .ok (.iconst 3, 1) := by decide +kernel
theorem dL_law_1241 : decode cL_law 1241 = .ok (.iconst 2, 1) := by decide +kernel
theorem dL_law_1242 : decode cL_law 1242 = .ok (.invokevirtual 148, 3) := by decide +kernel
theorem dL_law_1245 : decode cL_law 1245 = .ok (.iconst 1, 1) := by decide +kernel
theorem dL_law_1246 : decode cL_law 1246 = .ok (.if_icmp .ne 14, 3) := by decide +kernel
theorem dL_law_1249 : decode cL_law 1249 = .ok (.aload_n 1, 1) := by decide +kernel
theorem dL_law_1250 : decode cL_law 1250 = .ok (.iconst 3, 1) := by decide +kernel
theorem dL_law_1251 : decode cL_law 1251 = .ok (.iconst 3, 1) := by decide +kernel
theorem dL_law_1252 : decode cL_law 1252 = .ok (.invokevirtual 148, 3) := by decide +kernel
theorem dL_law_1255 : decode cL_law 1255 = .ok (.bipush (-2), 2) := by decide +kernel
theorem dL_law_1257 : decode cL_law 1257 = .ok (.if_icmp .eq 5, 3) := by decide +kernel
theorem dL_law_1260 : decode cL_law 1260 = .ok (.iconst 0, 1) := by decide +kernel
theorem dL_law_1261 : decode cL_law 1261 = .ok (.ireturn, 1) := by decide +kernel
theorem dL_law_1262 : decode cL_law 1262 = .ok (.aload_n 1, 1) := by decide +kernel
theorem dL_law_1263 : decode cL_law 1263 = .ok (.ldc 151, 2) := by decide +kernel
theorem dL_law_1265 : decode cL_law 1265 = .ok (.invokestatic 63, 3) := by decide +kernel
theorem dL_law_1268 : decode cL_law 1268 = .ok (.bipush 6, 2) := by decide +kernel
theorem dL_law_1270 : decode cL_law 1270 = .ok (.if_icmp .ne 48, 3) := by decide +kernel
theorem dL_law_1273 : decode cL_law 1273 = .ok (.aload_n 1, 1) := by decide +kernel
theorem dL_law_1274 : decode cL_law 1274 = .ok (.iconst 0, 1) := by decide +kernel
theorem dL_law_1275 : decode cL_law 1275 = .ok (.iconst 1, 1) := by decide +kernel
theorem dL_law_1276 : decode cL_law 1276 = .ok (.bipush 9, 2) := by decide +kernel
theorem dL_law_1278 : decode cL_law 1278 = .ok (.invokevirtual 153, 3) := by decide +kernel
theorem dL_law_1281 : decode cL_law 1281 = .ok (.iconst 1, 1) := by decide +kernel
theorem dL_law_1282 : decode cL_law 1282 = .ok (.if_icmp .lt 36, 3) := by decide +kernel
theorem dL_law_1285 : decode cL_law 1285 = .ok (.aload_n 1, 1) := by decide +kernel
theorem dL_law_1286 : decode cL_law 1286 = .ok (.iconst 0, 1) := by decide +kernel
theorem dL_law_1287 : decode cL_law 1287 = .ok (.iconst 1, 1) := by decide +kernel
theorem dL_law_1288 : decode cL_law 1288 = .ok (.bipush 9, 2) := by decide +kernel
theorem dL_law_1290 : decode cL_law 1290 = .ok (.iconst 0, 1) := by decide +kernel
theorem dL_law_1291 : decode cL_law 1291 = .ok (.invokevirtual 156, 3) := by decide +kernel
theorem dL_law_1294 : decode cL_law 1294 = .ok (.ifCond .ne 24, 3) := by decide +kernel
theorem dL_law_1297 : decode cL_law 1297 = .ok (.aload_n 1, 1) := by decide +kernel
theorem dL_law_1298 : decode cL_law 1298 = .ok (.iconst 5, 1) := by decide +kernel
theorem dL_law_1299 : decode cL_law 1299 = .ok (.invokevirtual 78, 3) := by decide +kernel
theorem dL_law_1302 : decode cL_law 1302 = .ok (.iconst 5, 1) := by decide +kernel
theorem dL_law_1303 : decode cL_law 1303 = .ok (.if_icmp .ne 15, 3) := by decide +kernel
theorem dL_law_1306 : decode cL_law 1306 = .ok (.aload_n 1, 1) := by decide +kernel
theorem dL_law_1307 : decode cL_law 1307 = .ok (.iconst 0, 1) := by decide +kernel
theorem dL_law_1308 : decode cL_law 1308 = .ok (.iconst 1, 1) := by decide +kernel
theorem dL_law_1309 : decode cL_law 1309 = .ok (.bipush 9, 2) := by decide +kernel
theorem dL_law_1311 : decode cL_law 1311 = .ok (.invokevirtual 153, 3) := by decide +kernel
theorem dL_law_1314 : decode cL_law 1314 = .ok (.iconst (-1), 1) := by decide +kernel
theorem dL_law_1315 : decode cL_law 1315 = .ok (.if_icmp .eq 5, 3) := by decide +kernel
theorem dL_law_1318 : decode cL_law 1318 = .ok (.iconst 0, 1) := by decide +kernel
theorem dL_law_1319 : decode cL_law 1319 = .ok (.ireturn, 1) := by decide +kernel
theorem dL_law_1320 : decode cL_law 1320 = .ok (.aload_n 0, 1) := by decide +kernel
theorem dL_law_1321 : decode cL_law 1321 = .ok (.iconst 5, 1) := by decide +kernel
theorem dL_law_1322 : decode cL_law 1322 = .ok (.invokestatic 29, 3) := by decide +kernel
theorem dL_law_1325 : decode cL_law 1325 = .ok (.bipush 101, 2) := by decide +kernel
theorem dL_law_1327 : decode cL_law 1327 = .ok (.invokestatic 35, 3) := by decide +kernel
theorem dL_law_1330 : decode cL_law 1330 = .ok (.istore 11, 2) := by decide +kernel
theorem dL_law_1332 : decode cL_law 1332 = .ok (.aload_n 1, 1) := by decide +kernel
theorem dL_law_1333 : decode cL_law 1333 = .ok (.new 39, 3) := by decide +kernel
theorem dL_law_1336 : decode cL_law 1336 = .ok (.dup, 1) := by decide +kernel
theorem dL_law_1337 : decode cL_law 1337 = .ok (.invokespecial 41, 3) := by decide +kernel
theorem dL_law_1340 : decode cL_law 1340 = .ok (.ldc 159, 2) := by decide +kernel
theorem dL_law_1342 : decode cL_law 1342 = .ok (.invokevirtual 44, 3) := by decide +kernel
theorem dL_law_1345 : decode cL_law 1345 = .ok (.iload 11, 2) := by decide +kernel
theorem dL_law_1347 : decode cL_law 1347 = .ok (.invokevirtual 48, 3) := by decide +kernel
theorem dL_law_1350 : decode cL_law 1350 = .ok (.ldc 161, 2) := by decide +kernel
theorem dL_law_1352 : decode cL_law 1352 = .ok (.invokevirtual 44, 3) := by decide +kernel
theorem dL_law_1355 : decode cL_law 1355 = .ok (.invokevirtual 59, 3) := by decide +kernel
theorem dL_law_1358 : decode cL_law 1358 = .ok (.invokestatic 63, 3) := by decide +kernel
theorem dL_law_1361 : decode cL_law 1361 = .ok (.iconst 3, 1) := by decide +kernel
theorem dL_law_1362 : decode cL_law 1362 = .ok (.if_icmp .ne 24, 3) := by decide +kernel
theorem dL_law_1365 : decode cL_law 1365 = .ok (.aload_n 1, 1) := by decide +kernel
theorem dL_law_1366 : decode cL_law 1366 = .ok (.iconst 1, 1) := by decide +kernel
theorem dL_law_1367 : decode cL_law 1367 = .ok (.iconst 0, 1) := by decide +kernel
theorem dL_law_1368 : decode cL_law 1368 = .ok (.invokevirtual 163, 3) := by decide +kernel
theorem dL_law_1371 : decode cL_law 1371 = .ok (.bipush 100, 2) := by decide +kernel
theorem dL_law_1373 : decode cL_law 1373 = .ok (.imul, 1) := by decide +kernel
theorem dL_law_1374 : decode cL_law 1374 = .ok (.iload 11, 2) := by decide +kernel
theorem dL_law_1376 : decode cL_law 1376 = .ok (.aload_n 1, 1) := by decide +kernel
theorem dL_law_1377 : decode cL_law 1377 = .ok (.iconst 1, 1) := by decide +kernel
theorem dL_law_1378 : decode cL_law 1378 = .ok (.iconst 1, 1) := by decide +kernel
theorem dL_law_1379 : decode cL_law 1379 = .ok (.invokevirtual 163, 3) := by decide +kernel
theorem dL_law_1382 : decode cL_law 1382 = .ok (.imul, 1) := by decide +kernel
theorem dL_law_1383 : decode cL_law 1383 = .ok (.if_icmp .eq 5, 3) := by decide +kernel
theorem dL_law_1386 : decode cL_law 1386 = .ok (.iconst 0, 1) := by decide +kernel
theorem dL_law_1387 : decode cL_law 1387 = .ok (.ireturn, 1) := by decide +kernel
theorem dL_law_1388 : decode cL_law 1388 = .ok (.aload_n 1, 1) := by decide +kernel
theorem dL_law_1389 : decode cL_law 1389 = .ok (.ldc 166, 2) := by decide +kernel
theorem dL_law_1391 : decode cL_law 1391 = .ok (.invokestatic 63, 3) := by decide +kernel
theorem dL_law_1394 : decode cL_law 1394 = .ok (.iconst 1, 1) := by decide +kernel
theorem dL_law_1395 : decode cL_law 1395 = .ok (.if_icmp .ne 65, 3) := by decide +kernel
theorem dL_law_1398 : decode cL_law 1398 = .ok (.aload_n 1, 1) := by decide +kernel
theorem dL_law_1399 : decode cL_law 1399 = .ok (.iconst 1, 1) := by decide +kernel
theorem dL_law_1400 : decode cL_law 1400 = .ok (.iconst 0, 1) := by decide +kernel
theorem dL_law_1401 : decode cL_law 1401 = .ok (.invokevirtual 163, 3) := by decide +kernel
theorem dL_law_1404 : decode cL_law 1404 = .ok (.iconst 1, 1) := by decide +kernel
theorem dL_law_1405 : decode cL_law 1405 = .ok (.if_icmp .ne 55, 3) := by decide +kernel
theorem dL_law_1408 : decode cL_law 1408 = .ok (.aload_n 1, 1) := by decide +kernel
theorem dL_law_1409 : decode cL_law 1409 = .ok (.iconst 1, 1) := by decide +kernel
theorem dL_law_1410 : decode cL_law 1410 = .ok (.iconst 1, 1) := by decide +kernel
theorem dL_law_1411 : decode cL_law 1411 = .ok (.invokevirtual 163, 3) := by decide +kernel
theorem dL_law_1414 : decode cL_law 1414 = .ok (.iconst 2, 1) := by decide +kernel
theorem dL_law_1415 : decode cL_law 1415 = .ok (.if_icmp .ne 45, 3) := by decide +kernel
theorem dL_law_1418 : decode cL_law 1418 = .ok (.aload_n 1, 1) := by decide +kernel
theorem dL_law_1419 : decode cL_law 1419 = .ok (.iconst 2, 1) := by decide +kernel
theorem dL_law_1420 : decode cL_law 1420 = .ok (.iconst 0, 1) := by decide +kernel
theorem dL_law_1421 : decode cL_law 1421 = .ok (.invokevirtual 163, 3) := by decide +kernel
theorem dL_law_1424 : decode cL_law 1424 = .ok (.iconst 3, 1) := by decide +kernel
theorem dL_law_1425 : decode cL_law 1425 = .ok (.if_icmp .ne 35, 3) := by decide +kernel
theorem dL_law_1428 : decode cL_law 1428 = .ok (.aload_n 1, 1) := by decide +kernel
theorem dL_law_1429 : decode cL_law 1429 = .ok (.iconst 2, 1) := by decide +kernel
theorem dL_law_1430 : decode cL_law 1430 = .ok (.iconst 1, 1) := by decide +kernel
theorem dL_law_1431 : decode cL_law 1431 = .ok (.invokevirtual 163, 3) := by decide +kernel
theorem dL_law_1434 : decode cL_law 1434 = .ok (.iconst 4, 1) := by decide +kernel
theorem dL_law_1435 : decode cL_law 1435 = .ok (.if_icmp .ne 25, 3) := by decide +kernel
theorem dL_law_1438 : decode cL_law 1438 = .ok (.aload_n 1, 1) := by decide +kernel
theorem dL_law_1439 : decode cL_law 1439 = .ok (.iconst 4, 1) := by decide +kernel
theorem dL_law_1440 : decode cL_law 1440 = .ok (.iconst 0, 1) := by decide +kernel
theorem dL_law_1441 : decode cL_law 1441 = .ok (.invokevirtual 163, 3) := by decide +kernel
theorem dL_law_1444 : decode cL_law 1444 = .ok (.bipush 15, 2) := by decide +kernel
theorem dL_law_1446 : decode cL_law 1446 = .ok (.if_icmp .ne 14, 3) := by decide +kernel
theorem dL_law_1449 : decode cL_law 1449 = .ok (.aload_n 1, 1) := by decide +kernel
theorem dL_law_1450 : decode cL_law 1450 = .ok (.iconst 4, 1) := by decide +kernel
theorem dL_law_1451 : decode cL_law 1451 = .ok (.iconst 1, 1) := by decide +kernel
theorem dL_law_1452 : decode cL_law 1452 = .ok (.invokevirtual 163, 3) := by decide +kernel
theorem dL_law_1455 : decode cL_law 1455 = .ok (.bipush 16, 2) := by decide +kernel
theorem dL_law_1457 : decode cL_law 1457 = .ok (.if_icmp .eq 5, 3) := by decide +kernel
theorem dL_law_1460 : decode cL_law 1460 = .ok (.iconst 0, 1) := by decide +kernel
theorem dL_law_1461 : decode cL_law 1461 = .ok (.ireturn, 1) := by decide +kernel
theorem dL_law_1462 : decode cL_law 1462 = .ok (.aload_n 1, 1) := by decide +kernel
theorem dL_law_1463 : decode cL_law 1463 = .ok (.ldc 168, 2) := by decide +kernel
theorem dL_law_1465 : decode cL_law 1465 = .ok (.invokestatic 63, 3) := by decide +kernel
theorem dL_law_1468 : decode cL_law 1468 = .ok (.iconst 3, 1) := by decide +kernel
theorem dL_law_1469 : decode cL_law 1469 = .ok (.if_icmp .ne 45, 3) := by decide +kernel
theorem dL_law_1472 : decode cL_law 1472 = .ok (.aload_n 1, 1) := by decide +kernel
theorem dL_law_1473 : decode cL_law 1473 = .ok (.iconst 4, 1) := by decide +kernel
theorem dL_law_1474 : decode cL_law 1474 = .ok (.invokevirtual 78, 3) := by decide +kernel
theorem dL_law_1477 : decode cL_law 1477 = .ok (.iconst 4, 1) := by decide +kernel
theorem dL_law_1478 : decode cL_law 1478 = .ok (.if_icmp .ne 36, 3) := by decide +kernel
theorem dL_law_1481 : decode cL_law 1481 = .ok (.aload_n 1, 1) := by decide +kernel
theorem dL_law_1482 : decode cL_law 1482 = .ok (.iconst 0, 1) := by decide +kernel
theorem dL_law_1483 : decode cL_law 1483 = .ok (.iconst 0, 1) := by decide +kernel
theorem dL_law_1484 : decode cL_law 1484 = .ok (.invokevirtual 81, 3) := by decide +kernel
theorem dL_law_1487 : decode cL_law 1487 = .ok (.bipush 23, 2) := by decide +kernel
theorem dL_law_1489 : decode cL_law 1489 = .ok (.if_icmp .ne 25, 3) := by decide +kernel
theorem dL_law_1492 : decode cL_law 1492 = .ok (.aload_n 1, 1) := by decide +kernel
theorem dL_law_1493 : decode cL_law 1493 = .ok (.iconst 1, 1) := by decide +kernel
theorem dL_law_1494 : decode cL_law 1494 = .ok (.iconst 0, 1) := by decide +kernel
theorem dL_law_1495 : decode cL_law 1495 = .ok (.invokevirtual 81, 3) := by decide +kernel
theorem dL_law_1498 : decode cL_law 1498 = .ok (.bipush 20, 2) := by decide +kernel
theorem dL_law_1500 : decode cL_law 1500 = .ok (.if_icmp .ne 14, 3) := by decide +kernel
theorem dL_law_1503 : decode cL_law 1503 = .ok (.aload_n 1, 1) := by decide +kernel
theorem dL_law_1504 : decode cL_law 1504 = .ok (.iconst 0, 1) := by decide +kernel
theorem dL_law_1505 : decode cL_law 1505 = .ok (.bipush 9, 2) := by decide +kernel
theorem dL_law_1507 : decode cL_law 1507 = .ok (.iconst 1, 1) := by decide +kernel
theorem dL_law_1508 : decode cL_law 1508 = .ok (.invokevirtual 74, 3) := by decide +kernel
theorem dL_law_1511 : decode cL_law 1511 = .ok (.ifCond .eq 5, 3) := by decide +kernel
theorem dL_law_1514 : decode cL_law 1514 = .ok (.iconst 0, 1) := by decide +kernel
theorem dL_law_1515 : decode cL_law 1515 = .ok (.ireturn, 1) := by decide +kernel
theorem dL_law_1516 : decode cL_law 1516 = .ok (.aload_n 0, 1) := by decide +kernel
theorem dL_law_1517 : decode cL_law 1517 = .ok (.bipush 6, 2) := by decide +kernel
theorem dL_law_1519 : decode cL_law 1519 = .ok (.invokestatic 29, 3) := by decide +kernel
theorem dL_law_1522 : decode cL_law 1522 = .ok (.bipush 12, 2) := by decide +kernel
theorem dL_law_1524 : decode cL_law 1524 = .ok (.invokestatic 35, 3) := by decide +kernel
theorem dL_law_1527 : decode cL_law 1527 = .ok (.istore 12, 2) := by decide +kernel
theorem dL_law_1529 : decode cL_law 1529 = .ok (.aload_n 1, 1) := by decide +kernel
theorem dL_law_1530 : decode cL_law 1530 = .ok (.ldc 170, 2) := by decide +kernel
theorem dL_law_1532 : decode cL_law 1532 = .ok (.invokestatic 63, 3) := by decide +kernel
theorem dL_law_1535 : decode cL_law 1535 = .ok (.iconst 3, 1) := by decide +kernel
theorem dL_law_1536 : decode cL_law 1536 = .ok (.if_icmp .ne 70, 3) := by decide +kernel
theorem dL_law_1539 : decode cL_law 1539 = .ok (.aload_n 1, 1) := by decide +kernel
theorem dL_law_1540 : decode cL_law 1540 = .ok (.iconst 0, 1) := by decide +kernel
theorem dL_law_1541 : decode cL_law 1541 = .ok (.invokevirtual 172, 3) := by decide +kernel
theorem dL_law_1544 : decode cL_law 1544 = .ok (.ldc 175, 2) := by decide +kernel
theorem dL_law_1546 : decode cL_law 1546 = .ok (.if_icmp .ne 60, 3) := by decide +kernel
theorem dL_law_1549 : decode cL_law 1549 = .ok (.aload_n 1, 1) := by decide +kernel
theorem dL_law_1550 : decode cL_law 1550 = .ok (.iload 12, 2) := by decide +kernel
theorem dL_law_1552 : decode cL_law 1552 = .ok (.iconst 2, 1) := by decide +kernel
theorem dL_law_1553 : decode cL_law 1553 = .ok (.iadd, 1) := by decide +kernel
theorem dL_law_1554 : decode cL_law 1554 = .ok (.bipush 16, 2) := by decide +kernel
theorem dL_law_1556 : decode cL_law 1556 = .ok (.iconst 1, 1) := by decide +kernel
theorem dL_law_1557 : decode cL_law 1557 = .ok (.invokevirtual 176, 3) := by decide +kernel
theorem dL_law_1560 : decode cL_law 1560 = .ok (.ifCond .ne 46, 3) := by decide +kernel
theorem dL_law_1563 : decode cL_law 1563 = .ok (.aload_n 1, 1) := by decide +kernel
theorem dL_law_1564 : decode cL_law 1564 = .ok (.iconst 0, 1) := by decide +kernel
theorem dL_law_1565 : decode cL_law 1565 = .ok (.invokevirtual 172, 3) := by decide +kernel
theorem dL_law_1568 : decode cL_law 1568 = .ok (.iconst 1, 1) := by decide +kernel
theorem dL_law_1569 : decode cL_law 1569 = .ok (.iload 12, 2) := by decide +kernel
theorem dL_law_1571 : decode cL_law 1571 = .ok (.iconst 1, 1) := by decide +kernel
theorem dL_law_1572 : decode cL_law 1572 = .ok (.iadd, 1) := by decide +kernel
theorem dL_law_1573 : decode cL_law 1573 = .ok (.ishl, 1) := by decide +kernel
theorem dL_law_1574 : decode cL_law 1574 = .ok (.iconst 1, 1) := by decide +kernel
theorem dL_law_1575 : decode cL_law 1575 = .ok (.isub, 1) := by decide +kernel
theorem dL_law_1576 : decode cL_law 1576 = .ok (.if_icmp .ne 30, 3) := by decide +kernel
theorem dL_law_1579 : decode cL_law 1579 = .ok (.aload_n 1, 1) := by decide +kernel
theorem dL_law_1580 : decode cL_law 1580 = .ok (.iload 12, 2) := by decide +kernel
theorem dL_law_1582 : decode cL_law 1582 = .ok (.iconst 1, 1) := by decide +kernel
theorem dL_law_1583 : decode cL_law 1583 = .ok (.iadd, 1) := by decide +kernel
theorem dL_law_1584 : decode cL_law 1584 = .ok (.bipush 16, 2) := by decide +kernel
theorem dL_law_1586 : decode cL_law 1586 = .ok (.iconst 0, 1) := by decide +kernel
theorem dL_law_1587 : decode cL_law 1587 = .ok (.invokevirtual 176, 3) := by decide +kernel
theorem dL_law_1590 : decode cL_law 1590 = .ok (.iconst 1, 1) := by decide +kernel
theorem dL_law_1591 : decode cL_law 1591 = .ok (.if_icmp .ne 15, 3) := by decide +kernel
theorem dL_law_1594 : decode cL_law 1594 = .ok (.aload_n 1, 1) := by decide +kernel
theorem dL_law_1595 : decode cL_law 1595 = .ok (.iconst 0, 1) := by decide +kernel
theorem dL_law_1596 : decode cL_law 1596 = .ok (.invokevirtual 172, 3) := by decide +kernel
theorem dL_law_1599 : decode cL_law 1599 = .ok (.iconst 1, 1) := by decide +kernel
theorem dL_law_1600 : decode cL_law 1600 = .ok (.iload 12, 2) := by decide +kernel
theorem dL_law_1602 : decode cL_law 1602 = .ok (.ishl, 1) := by decide +kernel
theorem dL_law_1603 : decode cL_law 1603 = .ok (.if_icmp .eq 5, 3) := by decide +kernel
theorem dL_law_1606 : decode cL_law 1606 = .ok (.iconst 0, 1) := by decide +kernel
theorem dL_law_1607 : decode cL_law 1607 = .ok (.ireturn, 1) := by decide +kernel
theorem dL_law_1608 : decode cL_law 1608 = .ok (.aload_n 1, 1) := by decide +kernel
theorem dL_law_1609 : decode cL_law 1609 = .ok (.iconst 0, 1) := by decide +kernel
theorem dL_law_1610 : decode cL_law 1610 = .ok (.invokevirtual 180, 3) := by decide +kernel
theorem dL_law_1613 : decode cL_law 1613 = .ok (.iconst 2, 1) := by decide +kernel
theorem dL_law_1614 : decode cL_law 1614 = .ok (.if_icmp .ne 76, 3) := by decide +kernel
theorem dL_law_1617 : decode cL_law 1617 = .ok (.aload_n 1, 1) := by decide +kernel
theorem dL_law_1618 : decode cL_law 1618 = .ok (.iconst 0, 1) := by decide +kernel
theorem dL_law_1619 : decode cL_law 1619 = .ok (.invokevirtual 172, 3) := by decide +kernel
theorem dL_law_1622 : decode cL_law 1622 = .ok (.ldc 175, 2) := by decide +kernel
theorem dL_law_1624 : decode cL_law 1624 = .ok (.iconst 1, 1) := by decide +kernel
theorem dL_law_1625 : decode cL_law 1625 = .ok (.iload 12, 2) := by decide +kernel
theorem dL_law_1627 : decode cL_law 1627 = .ok (.ishl, 1) := by decide +kernel
theorem dL_law_1628 : decode cL_law 1628 = .ok (.ineg, 1) := by decide +kernel
theorem dL_law_1629 : decode cL_law 1629 = .ok (.iand, 1) := by decide +kernel
theorem dL_law_1630 : decode cL_law 1630 = .ok (.if_icmp .ne 60, 3) := by decide +kernel
theorem dL_law_1633 : decode cL_law 1633 = .ok (.aload_n 1, 1) := by decide +kernel
theorem dL_law_1634 : decode cL_law 1634 = .ok (.iconst 0, 1) := by decide +kernel
theorem dL_law_1635 : decode cL_law 1635 = .ok (.invokevirtual 183, 3) := by decide +kernel
theorem dL_law_1638 : decode cL_law 1638 = .ok (.ifCond .eq 52, 3) := by decide +kernel
theorem dL_law_1641 : decode cL_law 1641 = .ok (.aload_n 1, 1) := by decide +kernel
theorem dL_law_1642 : decode cL_law 1642 = .ok (.iconst 0, 1) := by decide +kernel
theorem dL_law_1643 : decode cL_law 1643 = .ok (.invokevirtual 172, 3) := by decide +kernel
theorem dL_law_1646 : decode cL_law 1646 = .ok (.ldc 175, 2) := by decide +kernel
theorem dL_law_1648 : decode cL_law 1648 = .ok (.if_icmp .ne 42, 3) := by decide +kernel
theorem dL_law_1651 : decode cL_law 1651 = .ok (.aload_n 1, 1) := by decide +kernel
theorem dL_law_1652 : decode cL_law 1652 = .ok (.iconst 0, 1) := by decide +kernel
theorem dL_law_1653 : decode cL_law 1653 = .ok (.iconst 0, 1) := by decide +kernel
theorem dL_law_1654 : decode cL_law 1654 = .ok (.bipush 60, 2) := by decide +kernel
theorem dL_law_1656 : decode cL_law 1656 = .ok (.invokevirtual 131, 3) := by decide +kernel
theorem dL_law_1659 : decode cL_law 1659 = .ok (.ifCond .ne 31, 3) := by decide +kernel
theorem dL_law_1662 : decode cL_law 1662 = .ok (.aload_n 1, 1) := by decide +kernel
theorem dL_law_1663 : decode cL_law 1663 = .ok (.iconst 2, 1) := by decide +kernel
theorem dL_law_1664 : decode cL_law 1664 = .ok (.bipush 51, 2) := by decide +kernel
theorem dL_law_1666 : decode cL_law 1666 = .ok (.iconst 2, 1) := by decide +kernel
theorem dL_law_1667 : decode cL_law 1667 = .ok (.invokevirtual 74, 3) := by decide +kernel
theorem dL_law_1670 : decode cL_law 1670 = .ok (.bipush 8, 2) := by decide +kernel
theorem dL_law_1672 : decode cL_law 1672 = .ok (.if_icmp .ne 18, 3) := by decide +kernel
theorem dL_law_1675 : decode cL_law 1675 = .ok (.aload_n 1, 1) := by decide +kernel
theorem dL_law_1676 : decode cL_law 1676 = .ok (.iconst 5, 1) := by decide +kernel
theorem dL_law_1677 : decode cL_law 1677 = .ok (.iconst 5, 1) := by decide +kernel
theorem dL_law_1678 : decode cL_law 1678 = .ok (.iconst 0, 1) := by decide +kernel
theorem dL_law_1679 : decode cL_law 1679 = .ok (.iconst 1, 1) := by decide +kernel
theorem dL_law_1680 : decode cL_law 1680 = .ok (.invokevirtual 186, 3) := by decide +kernel
theorem dL_law_1683 : decode cL_law 1683 = .ok (.ifCond .ne 7, 3) := by decide +kernel
theorem dL_law_1686 : decode cL_law 1686 = .ok (.iconst 1, 1) := by decide +kernel
theorem dL_law_1687 : decode cL_law 1687 = .ok (.goto 4, 3) := by decide +kernel
theorem dL_law_1690 : decode cL_law 1690 = .ok (.iconst 0, 1) := by decide +kernel
theorem dL_law_1691 : decode cL_law 1691 = .ok (.ireturn, 1) := by decide +kernel
theorem dX7_stripe_0 : decode cX7_stripe 0 = .ok (.aload_n 0, 1) := by decide +kernel
theorem dX7_stripe_1 : decode cX7_stripe 1 = .ok (.iload_n 1, 1) := by decide +kernel
theorem dX7_stripe_2 : decode cX7_stripe 2 = .ok (.invokevirtual 130, 3) := by decide +kernel
theorem dX7_stripe_5 : decode cX7_stripe 5 = .ok (.ifCond .ne 13, 3) := by decide +kernel
theorem dX7_stripe_18 : decode cX7_stripe 18 = .ok (.iload_n 2, 1) := by decide +kernel
theorem dX7_stripe_19 : decode cX7_stripe 19 = .ok (.ifCond .lt 8, 3) := by decide +kernel
theorem dX7_stripe_22 : decode cX7_stripe 22 = .ok (.iload_n 2, 1) := by decide +kernel
theorem dX7_stripe_23 : decode cX7_stripe 23 = .ok (.iconst 1, 1) := by decide +kernel
theorem dX7_stripe_24 : decode cX7_stripe 24 = .ok (.if_icmp .le 13, 3) := by decide +kernel
theorem dX7_stripe_37 : decode cX7_stripe 37 = .ok (.iload_n 2, 1) := by decide +kernel
theorem dX7_stripe_38 : decode cX7_stripe 38 = .ok (.ifCond .ne 15, 3) := by decide +kernel
theorem dX7_stripe_41 : decode cX7_stripe 41 = .ok (.aload_n 0, 1) := by decide +kernel
theorem dX7_stripe_42 : decode cX7_stripe 42 = .ok (.getfield 72, 3) := by decide +kernel
theorem dX7_stripe_45 : decode cX7_stripe 45 = .ok (.getfield 146, 3) := by decide +kernel
theorem dX7_stripe_48 : decode cX7_stripe 48 = .ok (.iload_n 1, 1) := by decide +kernel
theorem dX7_stripe_49 : decode cX7_stripe 49 = .ok (.iaload, 1) := by decide +kernel
theorem dX7_stripe_50 : decode cX7_stripe 50 = .ok (.goto 12, 3) := by decide +kernel
theorem dX7_stripe_53 : decode cX7_stripe 53 = .ok (.aload_n 0, 1) := by decide +kernel
theorem dX7_stripe_54 : decode cX7_stripe 54 = .ok (.getfield 72, 3) := by decide +kernel
theorem dX7_stripe_57 : decode cX7_stripe 57 = .ok (.getfield 149, 3) := by decide +kernel
theorem dX7_stripe_60 : decode cX7_stripe 60 = .ok (.iload_n 1, 1) := by decide +kernel
theorem dX7_stripe_61 : decode cX7_stripe 61 = .ok (.iaload, 1) := by decide +kernel
theorem dX7_stripe_62 : decode cX7_stripe 62 = .ok (.ireturn, 1) := by decide +kernel
set_option maxRecDepth 100000 in
theorem jsL_29 : JS RL 29 yL_cell cL_cell 2 (some .int) 2 := ⟨⟨GT_4 208 rfl rfl, GT_4 206 rfl rfl, GT_1 0 rfl rfl, ⟨by decide, by decide, by decide +kernel⟩⟩, GT_4 207 rfl rfl⟩
set_option maxRecDepth 100000 in
theorem jsL_35 : JS RL 35 yL_in cL_in 2 (some .int) 2 := ⟨⟨GT_4 211 rfl rfl, GT_4 209 rfl rfl, GT_1 0 rfl rfl, ⟨by decide, by decide, by decide +kernel⟩⟩, GT_4 210 rfl rfl⟩
set_option maxRecDepth 100000 in
theorem jiL_41 : JI RL 41 yJ4_init_da8c8 cJ4_init_da8c8 1 0 := ⟨⟨GT_5 153 rfl rfl, GT_5 151 rfl rfl, GT_1 14 rfl rfl, ⟨by decide, by decide, by decide +kernel⟩⟩, rfl, GT_5 152 rfl rfl⟩
set_option maxRecDepth 100000 in
theorem jvL_44 : JV RL 44 yJ4_append_15ec4 cJ4_append_15ec4 2 (some (.object "java/lang/StringBuilder")) 1 := ⟨⟨GT_5 182 rfl rfl, GT_5 179 rfl rfl, GT_1 14 rfl rfl, ⟨by decide, by decide, by decide +kernel⟩⟩, GT_5 180 rfl rfl, GT_5 181 rfl rfl⟩
set_option maxRecDepth 100000 in
theorem jvL_48 : JV RL 48 yJ4_append_bf812 cJ4_append_bf812 2 (some (.object "java/lang/StringBuilder")) 1 := ⟨⟨GT_6 37 rfl rfl, GT_6 34 rfl rfl, GT_1 14 rfl rfl, ⟨by decide, by decide, by decide +kernel⟩⟩, GT_6 35 rfl rfl, GT_6 36 rfl rfl⟩
set_option maxRecDepth 100000 in
theorem jvL_59 : JV RL 59 yJ4_toString_0e30d cJ4_toString_0e30d 1 (some (.object "java/lang/String")) 0 := ⟨⟨GT_6 62 rfl rfl, GT_6 59 rfl rfl, GT_1 14 rfl rfl, ⟨by decide, by decide, by decide +kernel⟩⟩, GT_6 60 rfl rfl, GT_6 61 rfl rfl⟩
set_option maxRecDepth 100000 in
theorem jsL_63 : JS RL 63 yL_text cL_text 5 (some .int) 2 := ⟨⟨GT_4 215 rfl rfl, GT_4 213 rfl rfl, GT_1 0 rfl rfl, ⟨by decide, by decide, by decide +kernel⟩⟩, GT_4 214 rfl rfl⟩
set_option maxRecDepth 100000 in
theorem jwL_66 : Cond.methodLink RL 66 Lib.Math.max.name ∈ GT := GT_5 147 rfl rfl
set_option maxRecDepth 100000 in
theorem jwL_71 : Cond.methodLink RL 71 Lib.Math.min.name ∈ GT := GT_5 148 rfl rfl
set_option maxRecDepth 100000 in
theorem cvL_74 : CV RL 74 yX7_table cX7_table 5 (some .int) 3 7 := ⟨⟨GT_4 17 rfl rfl, GT_4 14 rfl rfl, GT_1 1 rfl rfl, ⟨by decide, by decide, by decide +kernel⟩⟩, GT_4 15 rfl rfl, GT_4 16 rfl rfl, by decide⟩
set_option maxRecDepth 100000 in
theorem cvL_78 : CV RL 78 yX7_go cX7_go 2 (some .int) 1 7 := ⟨⟨GT_3 193 rfl rfl, GT_3 190 rfl rfl, GT_1 1 rfl rfl, ⟨by decide, by decide, by decide +kernel⟩⟩, GT_3 191 rfl rfl, GT_3 192 rfl rfl, by decide⟩
set_option maxRecDepth 100000 in
theorem cvL_81 : CV RL 81 yX7_stripe cX7_stripe 3 (some .int) 2 7 := ⟨⟨GT_3 15 rfl rfl, GT_3 12 rfl rfl, GT_1 1 rfl rfl, ⟨by decide, by decide, by decide +kernel⟩⟩, GT_3 13 rfl rfl, GT_3 14 rfl rfl, by decide⟩
set_option maxRecDepth 100000 in
theorem cvL_84 : CV RL 84 yX7_field cX7_field 3 (some .int) 2 7 := ⟨⟨GT_3 117 rfl rfl, GT_3 114 rfl rfl, GT_1 1 rfl rfl, ⟨by decide, by decide, by decide +kernel⟩⟩, GT_3 115 rfl rfl, GT_3 116 rfl rfl, by decide⟩
set_option maxRecDepth 100000 in
theorem cvL_87 : CV RL 87 yX7_croft cX7_croft 3 (some .int) 2 7 := ⟨⟨GT_3 105 rfl rfl, GT_3 102 rfl rfl, GT_1 1 rfl rfl, ⟨by decide, by decide, by decide +kernel⟩⟩, GT_3 103 rfl rfl, GT_3 104 rfl rfl, by decide⟩
set_option maxRecDepth 100000 in
theorem cvL_90 : CV RL 90 yX7_count cX7_count 2 (some .int) 1 7 := ⟨⟨GT_4 203 rfl rfl, GT_4 200 rfl rfl, GT_1 1 rfl rfl, ⟨by decide, by decide, by decide +kernel⟩⟩, GT_4 201 rfl rfl, GT_4 202 rfl rfl, by decide⟩
set_option maxRecDepth 100000 in
theorem cvL_95 : CV RL 95 yX7_source cX7_source 3 (some .int) 2 7 := ⟨⟨GT_3 151 rfl rfl, GT_3 148 rfl rfl, GT_1 1 rfl rfl, ⟨by decide, by decide, by decide +kernel⟩⟩, GT_3 149 rfl rfl, GT_3 150 rfl rfl, by decide⟩
set_option maxRecDepth 100000 in
theorem cvL_104 : CV RL 104 yX7_unlike cX7_unlike 1 (some .int) 0 7 := ⟨⟨GT_4 90 rfl rfl, GT_4 87 rfl rfl, GT_1 1 rfl rfl, ⟨by decide, by decide, by decide +kernel⟩⟩, GT_4 88 rfl rfl, GT_4 89 rfl rfl, by decide⟩
set_option maxRecDepth 100000 in
theorem cvL_107 : CV RL 107 yX7_rule cX7_rule 2 (some .boolean) 1 7 := ⟨⟨GT_3 170 rfl rfl, GT_3 167 rfl rfl, GT_1 1 rfl rfl, ⟨by decide, by decide, by decide +kernel⟩⟩, GT_3 168 rfl rfl, GT_3 169 rfl rfl, by decide⟩
set_option maxRecDepth 100000 in
theorem cvL_113 : CV RL 113 yX7_swap cX7_swap 2 (some .int) 1 7 := ⟨⟨GT_4 108 rfl rfl, GT_4 105 rfl rfl, GT_1 1 rfl rfl, ⟨by decide, by decide, by decide +kernel⟩⟩, GT_4 106 rfl rfl, GT_4 107 rfl rfl, by decide⟩
set_option maxRecDepth 100000 in
theorem cvL_116 : CV RL 116 yX7_lot cX7_lot 3 (some .boolean) 2 7 := ⟨⟨GT_3 177 rfl rfl, GT_3 174 rfl rfl, GT_1 1 rfl rfl, ⟨by decide, by decide, by decide +kernel⟩⟩, GT_3 175 rfl rfl, GT_3 176 rfl rfl, by decide⟩
set_option maxRecDepth 100000 in
theorem cvL_122 : CV RL 122 yX7_plan cX7_plan 3 (some .int) 2 7 := ⟨⟨GT_4 45 rfl rfl, GT_4 42 rfl rfl, GT_1 1 rfl rfl, ⟨by decide, by decide, by decide +kernel⟩⟩, GT_4 43 rfl rfl, GT_4 44 rfl rfl, by decide⟩
set_option maxRecDepth 100000 in
theorem cvL_125 : CV RL 125 yX7_planned cX7_planned 4 (some .int) 3 7 := ⟨⟨GT_4 66 rfl rfl, GT_4 63 rfl rfl, GT_1 1 rfl rfl, ⟨by decide, by decide, by decide +kernel⟩⟩, GT_4 64 rfl rfl, GT_4 65 rfl rfl, by decide⟩
set_option maxRecDepth 100000 in
theorem cvL_128 : CV RL 128 yX7_act cX7_act 3 (some .boolean) 2 7 := ⟨⟨GT_3 159 rfl rfl, GT_3 156 rfl rfl, GT_1 1 rfl rfl, ⟨by decide, by decide, by decide +kernel⟩⟩, GT_3 157 rfl rfl, GT_3 158 rfl rfl, by decide⟩
set_option maxRecDepth 100000 in
theorem cvL_131 : CV RL 131 yX7_tried cX7_tried 6 (some .int) 3 7 := ⟨⟨GT_4 194 rfl rfl, GT_4 191 rfl rfl, GT_1 1 rfl rfl, ⟨by decide, by decide, by decide +kernel⟩⟩, GT_4 192 rfl rfl, GT_4 193 rfl rfl, by decide⟩
set_option maxRecDepth 100000 in
theorem cvL_136 : CV RL 136 yX7_lending cX7_lending 9 (some .int) 4 7 := ⟨⟨GT_4 116 rfl rfl, GT_4 113 rfl rfl, GT_1 1 rfl rfl, ⟨by decide, by decide, by decide +kernel⟩⟩, GT_4 114 rfl rfl, GT_4 115 rfl rfl, by decide⟩
set_option maxRecDepth 100000 in
theorem cvL_140 : CV RL 140 yX7_lend cX7_lend 3 (some .boolean) 2 7 := ⟨⟨GT_3 181 rfl rfl, GT_3 178 rfl rfl, GT_1 1 rfl rfl, ⟨by decide, by decide, by decide +kernel⟩⟩, GT_3 179 rfl rfl, GT_3 180 rfl rfl, by decide⟩
set_option maxRecDepth 100000 in
theorem cvL_145 : CV RL 145 yX7_turns cX7_turns 2 (some .int) 1 7 := ⟨⟨GT_4 120 rfl rfl, GT_4 117 rfl rfl, GT_1 1 rfl rfl, ⟨by decide, by decide, by decide +kernel⟩⟩, GT_4 118 rfl rfl, GT_4 119 rfl rfl, by decide⟩
set_option maxRecDepth 100000 in
theorem cvL_148 : CV RL 148 yX7_turn cX7_turn 3 (some .int) 2 7 := ⟨⟨GT_4 133 rfl rfl, GT_4 130 rfl rfl, GT_1 1 rfl rfl, ⟨by decide, by decide, by decide +kernel⟩⟩, GT_4 131 rfl rfl, GT_4 132 rfl rfl, by decide⟩
set_option maxRecDepth 100000 in
theorem cvL_153 : CV RL 153 yX7_rests cX7_rests 6 (some .int) 3 7 := ⟨⟨GT_4 70 rfl rfl, GT_4 67 rfl rfl, GT_1 1 rfl rfl, ⟨by decide, by decide, by decide +kernel⟩⟩, GT_4 68 rfl rfl, GT_4 69 rfl rfl, by decide⟩
set_option maxRecDepth 100000 in
theorem cvL_156 : CV RL 156 yX7_rest cX7_rest 7 (some .int) 4 7 := ⟨⟨GT_4 86 rfl rfl, GT_4 83 rfl rfl, GT_1 1 rfl rfl, ⟨by decide, by decide, by decide +kernel⟩⟩, GT_4 84 rfl rfl, GT_4 85 rfl rfl, by decide⟩
set_option maxRecDepth 100000 in
theorem cvL_163 : CV RL 163 yX7_odds cX7_odds 6 (some .int) 2 7 := ⟨⟨GT_4 137 rfl rfl, GT_4 134 rfl rfl, GT_1 1 rfl rfl, ⟨by decide, by decide, by decide +kernel⟩⟩, GT_4 135 rfl rfl, GT_4 136 rfl rfl, by decide⟩
set_option maxRecDepth 100000 in
theorem cvL_172 : CV RL 172 yX7_came cX7_came 4 (some .int) 1 7 := ⟨⟨GT_4 160 rfl rfl, GT_4 157 rfl rfl, GT_1 1 rfl rfl, ⟨by decide, by decide, by decide +kernel⟩⟩, GT_4 158 rfl rfl, GT_4 159 rfl rfl, by decide⟩
set_option maxRecDepth 100000 in
theorem cvL_176 : CV RL 176 yX7_see cX7_see 4 (some .int) 3 7 := ⟨⟨GT_4 144 rfl rfl, GT_4 141 rfl rfl, GT_1 1 rfl rfl, ⟨by decide, by decide, by decide +kernel⟩⟩, GT_4 142 rfl rfl, GT_4 143 rfl rfl, by decide⟩
set_option maxRecDepth 100000 in
theorem cvL_180 : CV RL 180 yX7_strike cX7_strike 2 (some .int) 1 7 := ⟨⟨GT_4 152 rfl rfl, GT_4 149 rfl rfl, GT_1 1 rfl rfl, ⟨by decide, by decide, by decide +kernel⟩⟩, GT_4 150 rfl rfl, GT_4 151 rfl rfl, by decide⟩
set_option maxRecDepth 100000 in
theorem cvL_183 : CV RL 183 yX7_known cX7_known 2 (some .boolean) 1 7 := ⟨⟨GT_4 156 rfl rfl, GT_4 153 rfl rfl, GT_1 1 rfl rfl, ⟨by decide, by decide, by decide +kernel⟩⟩, GT_4 154 rfl rfl, GT_4 155 rfl rfl, by decide⟩
set_option maxRecDepth 100000 in
theorem cvL_186 : CV RL 186 yX7_chance cX7_chance 9 (some .int) 4 7 := ⟨⟨GT_4 189 rfl rfl, GT_4 186 rfl rfl, GT_1 1 rfl rfl, ⟨by decide, by decide, by decide +kernel⟩⟩, GT_4 187 rfl rfl, GT_4 188 rfl rfl, by decide⟩
set_option maxRecDepth 100000 in
theorem nwL_39 : Cond.classLink RL 39 (RXf 9) ∈ GT ∧ Cond.instantiable (RXf 9) (nf 9) ∈ GT ∧ Cond.initialized (RXf 9) ∈ GT := ⟨GT_5 149 rfl rfl, GT_5 150 rfl rfl, GT_1 14 rfl rfl⟩
set_option maxRecDepth 100000 in
theorem jwL_175 : Cond.constant RL 175 16777215 ∈ GT := GT_6 135 rfl rfl
set_option maxRecDepth 100000 in
theorem frX7_146 : FR RX7 146 3 0 (3, 0, 0) := ⟨GT_2 131 rfl rfl, by decide, by decide, rfl⟩
/-- the bytes of the law's constants, where they lie in the pool, what they say -/
def cst : Nat → List Int32 := fun i => match i with
  | 0 => [115, 116, 114, 105, 112, 101, 32]
  | 1 => [59, 99, 114, 111, 102, 116, 32, 97, 32]
  | 2 => [32]
  | 3 => [32, 48, 59, 102, 105, 101, 108, 100, 32, 97, 32]
  | 4 => [32, 48, 59]
  | 5 => [115, 116, 114, 105, 112, 101, 32, 50, 48, 59, 99, 114, 111, 102, 116, 32, 97, 32, 50, 32, 48, 32, 48, 59, 102, 105, 101, 108, 100, 32, 97, 32, 53, 48, 32, 48, 59, 114, 117, 108, 101, 32, 115, 97, 118, 101, 100, 59]
  | 6 => [115, 116, 114, 105, 112, 101, 32, 49, 48, 49, 59, 115, 116, 114, 105, 112, 101, 32, 55, 59, 116, 105, 100, 101, 32]
  | 7 => [59, 99, 114, 111, 102, 116, 32, 97, 32, 49, 32, 48, 32, 48, 59]
  | 8 => [115, 116, 114, 105, 112, 101, 32, 53, 59, 115, 116, 114, 105, 112, 101, 32, 57, 59, 115, 116, 114, 105, 112, 101, 32, 50, 59, 99, 114, 111, 102, 116, 32, 97, 32, 49, 32, 48, 32, 48, 59, 99, 114, 111, 102, 116, 32, 98, 32, 49, 32, 48, 32, 48, 59, 102, 105, 101, 108, 100, 32, 97, 32, 57, 32, 48, 59, 102, 105, 101, 108, 100, 32, 98, 32, 57, 32, 48, 59, 114, 117, 108, 101, 32, 108, 111, 116, 115, 59, 104, 101, 97, 112, 32, 49, 59]
  | 9 => [115, 116, 114, 105, 112, 101, 32, 49, 48, 59, 115, 116, 114, 105, 112, 101, 32, 49, 59, 115, 116, 114, 105, 112, 101, 32, 50, 59, 115, 116, 114, 105, 112, 101, 32, 51, 59, 99, 114, 111, 102, 116, 32, 97, 32, 49, 32, 48, 32, 48, 59, 99, 114, 111, 102, 116, 32, 98, 32, 49, 32, 48, 32, 48, 59]
  | 10 => [115, 116, 114, 105, 112, 101, 32, 49, 48, 48, 59, 99, 114, 111, 102, 116, 32, 97, 32, 50, 32, 48, 32, 48, 59, 102, 105, 101, 108, 100, 32, 97, 32, 51, 48, 32, 48, 59]
  | 11 => [115, 116, 114, 105, 112, 101, 32, 57, 57, 57, 59, 99, 114, 111, 102, 116, 32, 97, 32, 51, 32, 57, 32, 48, 59, 99, 114, 111, 102, 116, 32, 98, 32, 49, 32, 48, 32, 48, 59, 102, 105, 101, 108, 100, 32, 98, 32, 57, 32, 48, 59, 108, 97, 119, 32, 119, 111, 114, 116, 104, 32, 50, 59]
  | 12 => [115, 116, 114, 105, 112, 101, 32, 49, 48, 48, 59, 99, 114, 111, 102, 116, 32, 97, 32, 48, 32, 48, 32, 57, 59, 99, 114, 111, 102, 116, 32, 98, 32, 48, 32, 48, 32, 57, 59]
  | 13 => [115, 116, 114, 105, 112, 101, 32, 49, 48, 59, 99, 114, 111, 102, 116, 32, 97, 32, 50, 32, 48, 32, 53, 59, 99, 114, 111, 102, 116, 32, 98, 32, 50, 32, 48, 32, 53, 59, 102, 105, 101, 108, 100, 32, 97, 32, 57, 32, 48, 59, 102, 105, 101, 108, 100, 32, 98, 32, 57, 32, 48, 59, 108, 97, 119, 32, 119, 111, 114, 116, 104, 32, 51, 59]
  | 14 => [103, 97, 108, 101, 32]
  | 15 => [32, 53, 59, 115, 116, 114, 105, 112, 101, 32, 48, 59, 99, 114, 111, 102, 116, 32, 97, 32, 48, 32, 48, 32, 48, 59]
  | 16 => [103, 97, 108, 101, 32, 53, 48, 32, 53, 59]
  | 17 => [103, 97, 108, 101, 32, 49, 48, 48, 32, 53, 59, 115, 116, 114, 105, 112, 101, 32, 51, 59, 115, 116, 114, 105, 112, 101, 32, 48, 59]
  | 18 => [115, 116, 114, 105, 112, 101, 32, 57, 57, 57, 59, 114, 117, 108, 101, 32, 115, 97, 118, 101, 100, 59, 99, 114, 111, 102, 116, 32, 97, 32, 48, 32, 48, 32, 53, 48, 59]
  | _ => []
def cix : Nat → Nat := fun i => match i with
  | 0 => 42
  | 1 => 51
  | 2 => 53
  | 3 => 55
  | 4 => 57
  | 5 => 93
  | 6 => 98
  | 7 => 100
  | 8 => 102
  | 9 => 111
  | 10 => 120
  | 11 => 134
  | 12 => 143
  | 13 => 151
  | 14 => 159
  | 15 => 161
  | 16 => 166
  | 17 => 168
  | 18 => 170
  | _ => 0
def ctx : Nat → String := fun i => match i with
  | 0 => "stripe "
  | 1 => ";croft a "
  | 2 => " "
  | 3 => " 0;field a "
  | 4 => " 0;"
  | 5 => "stripe 20;croft a 2 0 0;field a 50 0;rule saved;"
  | 6 => "stripe 101;stripe 7;tide "
  | 7 => ";croft a 1 0 0;"
  | 8 => "stripe 5;stripe 9;stripe 2;croft a 1 0 0;croft b 1 0 0;field a 9 0;field b 9 0;rule lots;heap 1;"
  | 9 => "stripe 10;stripe 1;stripe 2;stripe 3;croft a 1 0 0;croft b 1 0 0;"
  | 10 => "stripe 100;croft a 2 0 0;field a 30 0;"
  | 11 => "stripe 999;croft a 3 9 0;croft b 1 0 0;field b 9 0;law worth 2;"
  | 12 => "stripe 100;croft a 0 0 9;croft b 0 0 9;"
  | 13 => "stripe 10;croft a 2 0 5;croft b 2 0 5;field a 9 0;field b 9 0;law worth 3;"
  | 14 => "gale "
  | 15 => " 5;stripe 0;croft a 0 0 0;"
  | 16 => "gale 50 5;"
  | 17 => "gale 100 5;stripe 3;stripe 0;"
  | 18 => "stripe 999;rule saved;croft a 0 0 50;"
  | _ => ""
abbrev nC : Nat := 19
