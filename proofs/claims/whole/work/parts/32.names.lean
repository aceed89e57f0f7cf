theorem dX9_task_0 : decode cX9_task 0 = .ok (.iload_n 1, 1) := by decide +kernel
theorem dX9_task_1 : decode cX9_task 1 = .ok (.i2l, 1) := by decide +kernel
theorem dX9_task_2 : decode cX9_task 2 = .ok (.lconst 0, 1) := by decide +kernel
theorem dX9_task_3 : decode cX9_task 3 = .ok (.ldc2_w 128, 3) := by decide +kernel
theorem dX9_task_6 : decode cX9_task 6 = .ok (.invokestatic 97, 3) := by decide +kernel
theorem dX9_task_9 : decode cX9_task 9 = .ok (.ifCond .eq 10, 3) := by decide +kernel
theorem dX9_task_12 : decode cX9_task 12 = .ok (.iload_n 2, 1) := by decide +kernel
theorem dX9_task_13 : decode cX9_task 13 = .ok (.invokestatic 103, 3) := by decide +kernel
theorem dX9_task_16 : decode cX9_task 16 = .ok (.ifCond .ne 9, 3) := by decide +kernel
theorem dX9_task_19 : decode cX9_task 19 = .ok (.aload_n 0, 1) := by decide +kernel
theorem dX9_task_20 : decode cX9_task 20 = .ok (.iconst (-1), 1) := by decide +kernel
theorem dX9_task_21 : decode cX9_task 21 = .ok (.invokevirtual 107, 3) := by decide +kernel
theorem dX9_task_24 : decode cX9_task 24 = .ok (.ireturn, 1) := by decide +kernel
theorem dX9_task_25 : decode cX9_task 25 = .ok (.aload_n 0, 1) := by decide +kernel
theorem dX9_task_26 : decode cX9_task 26 = .ok (.getfield 35, 3) := by decide +kernel
theorem dX9_task_29 : decode cX9_task 29 = .ok (.iload_n 2, 1) := by decide +kernel
theorem dX9_task_30 : decode cX9_task 30 = .ok (.iaload, 1) := by decide +kernel
theorem dX9_task_31 : decode cX9_task 31 = .ok (.ifCond .ne 10, 3) := by decide +kernel
theorem dX9_task_34 : decode cX9_task 34 = .ok (.aload_n 0, 1) := by decide +kernel
theorem dX9_task_35 : decode cX9_task 35 = .ok (.bipush (-2), 2) := by decide +kernel
theorem dX9_task_37 : decode cX9_task 37 = .ok (.invokevirtual 107, 3) := by decide +kernel
theorem dX9_task_40 : decode cX9_task 40 = .ok (.ireturn, 1) := by decide +kernel
theorem dX9_task_41 : decode cX9_task 41 = .ok (.iload_n 1, 1) := by decide +kernel
theorem dX9_task_42 : decode cX9_task 42 = .ok (.invokestatic 130, 3) := by decide +kernel
theorem dX9_task_45 : decode cX9_task 45 = .ok (.istore 4, 2) := by decide +kernel
theorem dX9_task_47 : decode cX9_task 47 = .ok (.iload_n 3, 1) := by decide +kernel
theorem dX9_task_48 : decode cX9_task 48 = .ok (.ifCond .lt 20, 3) := by decide +kernel
theorem dX9_task_51 : decode cX9_task 51 = .ok (.iload_n 3, 1) := by decide +kernel
theorem dX9_task_52 : decode cX9_task 52 = .ok (.i2l, 1) := by decide +kernel
theorem dX9_task_53 : decode cX9_task 53 = .ok (.iload 4, 2) := by decide +kernel
theorem dX9_task_55 : decode cX9_task 55 = .ok (.i2l, 1) := by decide +kernel
theorem dX9_task_56 : decode cX9_task 56 = .ok (.ladd, 1) := by decide +kernel
theorem dX9_task_57 : decode cX9_task 57 = .ok (.aload_n 0, 1) := by decide +kernel
theorem dX9_task_58 : decode cX9_task 58 = .ok (.getfield 38, 3) := by decide +kernel
theorem dX9_task_61 : decode cX9_task 61 = .ok (.iload_n 2, 1) := by decide +kernel
theorem dX9_task_62 : decode cX9_task 62 = .ok (.iaload, 1) := by decide +kernel
theorem dX9_task_63 : decode cX9_task 63 = .ok (.i2l, 1) := by decide +kernel
theorem dX9_task_64 : decode cX9_task 64 = .ok (.lcmp, 1) := by decide +kernel
theorem dX9_task_65 : decode cX9_task 65 = .ok (.ifCond .le 9, 3) := by decide +kernel
theorem dX9_task_68 : decode cX9_task 68 = .ok (.aload_n 0, 1) := by decide +kernel
theorem dX9_task_69 : decode cX9_task 69 = .ok (.iconst (-1), 1) := by decide +kernel
theorem dX9_task_70 : decode cX9_task 70 = .ok (.invokevirtual 107, 3) := by decide +kernel
theorem dX9_task_73 : decode cX9_task 73 = .ok (.ireturn, 1) := by decide +kernel
theorem dX9_task_74 : decode cX9_task 74 = .ok (.aload_n 0, 1) := by decide +kernel
theorem dX9_task_75 : decode cX9_task 75 = .ok (.getfield 45, 3) := by decide +kernel
theorem dX9_task_78 : decode cX9_task 78 = .ok (.astore 5, 2) := by decide +kernel
theorem dX9_task_80 : decode cX9_task 80 = .ok (.iconst 0, 1) := by decide +kernel
theorem dX9_task_81 : decode cX9_task 81 = .ok (.istore 6, 2) := by decide +kernel
theorem dX9_task_83 : decode cX9_task 83 = .ok (.iload 6, 2) := by decide +kernel
theorem dX9_task_85 : decode cX9_task 85 = .ok (.iload 4, 2) := by decide +kernel
theorem dX9_task_87 : decode cX9_task 87 = .ok (.if_icmp .ge 28, 3) := by decide +kernel
theorem dX9_task_90 : decode cX9_task 90 = .ok (.aload 5, 2) := by decide +kernel
theorem dX9_task_92 : decode cX9_task 92 = .ok (.iload 6, 2) := by decide +kernel
theorem dX9_task_94 : decode cX9_task 94 = .ok (.aload_n 0, 1) := by decide +kernel
theorem dX9_task_95 : decode cX9_task 95 = .ok (.getfield 41, 3) := by decide +kernel
theorem dX9_task_98 : decode cX9_task 98 = .ok (.bipush 24, 2) := by decide +kernel
theorem dX9_task_100 : decode cX9_task 100 = .ok (.iload_n 2, 1) := by decide +kernel
theorem dX9_task_101 : decode cX9_task 101 = .ok (.imul, 1) := by decide +kernel
theorem dX9_task_102 : decode cX9_task 102 = .ok (.iload_n 3, 1) := by decide +kernel
theorem dX9_task_103 : decode cX9_task 103 = .ok (.iadd, 1) := by decide +kernel
theorem dX9_task_104 : decode cX9_task 104 = .ok (.iload 6, 2) := by decide +kernel
theorem dX9_task_106 : decode cX9_task 106 = .ok (.iadd, 1) := by decide +kernel
theorem dX9_task_107 : decode cX9_task 107 = .ok (.laload, 1) := by decide +kernel
theorem dX9_task_108 : decode cX9_task 108 = .ok (.lastore, 1) := by decide +kernel
theorem dX9_task_109 : decode cX9_task 109 = .ok (.iinc 6 1, 3) := by decide +kernel
theorem dX9_task_112 : decode cX9_task 112 = .ok (.goto (-29), 3) := by decide +kernel
theorem dX9_task_115 : decode cX9_task 115 = .ok (.aload 5, 2) := by decide +kernel
theorem dX9_task_117 : decode cX9_task 117 = .ok (.iconst 0, 1) := by decide +kernel
theorem dX9_task_118 : decode cX9_task 118 = .ok (.laload, 1) := by decide +kernel
theorem dX9_task_119 : decode cX9_task 119 = .ok (.lconst 0, 1) := by decide +kernel
theorem dX9_task_120 : decode cX9_task 120 = .ok (.ldc2_w 133, 3) := by decide +kernel
theorem dX9_task_123 : decode cX9_task 123 = .ok (.invokestatic 97, 3) := by decide +kernel
theorem dX9_task_126 : decode cX9_task 126 = .ok (.istore 6, 2) := by decide +kernel
theorem dX9_task_128 : decode cX9_task 128 = .ok (.iload 4, 2) := by decide +kernel
theorem dX9_task_130 : decode cX9_task 130 = .ok (.iconst 1, 1) := by decide +kernel
theorem dX9_task_131 : decode cX9_task 131 = .ok (.if_icmp .le 44, 3) := by decide +kernel
theorem dX9_task_134 : decode cX9_task 134 = .ok (.iload 6, 2) := by decide +kernel
theorem dX9_task_136 : decode cX9_task 136 = .ok (.ifCond .eq 36, 3) := by decide +kernel
theorem dX9_task_139 : decode cX9_task 139 = .ok (.aload 5, 2) := by decide +kernel
theorem dX9_task_141 : decode cX9_task 141 = .ok (.iconst 1, 1) := by decide +kernel
theorem dX9_task_142 : decode cX9_task 142 = .ok (.laload, 1) := by decide +kernel
theorem dX9_task_143 : decode cX9_task 143 = .ok (.lconst 0, 1) := by decide +kernel
theorem dX9_task_144 : decode cX9_task 144 = .ok (.aload 5, 2) := by decide +kernel
theorem dX9_task_146 : decode cX9_task 146 = .ok (.iconst 0, 1) := by decide +kernel
theorem dX9_task_147 : decode cX9_task 147 = .ok (.laload, 1) := by decide +kernel
theorem dX9_task_148 : decode cX9_task 148 = .ok (.invokestatic 97, 3) := by decide +kernel
theorem dX9_task_151 : decode cX9_task 151 = .ok (.ifCond .eq 21, 3) := by decide +kernel
theorem dX9_task_154 : decode cX9_task 154 = .ok (.aload 5, 2) := by decide +kernel
theorem dX9_task_156 : decode cX9_task 156 = .ok (.iconst 2, 1) := by decide +kernel
theorem dX9_task_157 : decode cX9_task 157 = .ok (.laload, 1) := by decide +kernel
theorem dX9_task_158 : decode cX9_task 158 = .ok (.lconst 0, 1) := by decide +kernel
theorem dX9_task_159 : decode cX9_task 159 = .ok (.ldc2_w 135, 3) := by decide +kernel
theorem dX9_task_162 : decode cX9_task 162 = .ok (.invokestatic 97, 3) := by decide +kernel
theorem dX9_task_165 : decode cX9_task 165 = .ok (.ifCond .eq 7, 3) := by decide +kernel
theorem dX9_task_168 : decode cX9_task 168 = .ok (.iconst 1, 1) := by decide +kernel
theorem dX9_task_169 : decode cX9_task 169 = .ok (.goto 4, 3) := by decide +kernel
theorem dX9_task_172 : decode cX9_task 172 = .ok (.iconst 0, 1) := by decide +kernel
theorem dX9_task_173 : decode cX9_task 173 = .ok (.istore 6, 2) := by decide +kernel
theorem dX9_task_175 : decode cX9_task 175 = .ok (.iload_n 1, 1) := by decide +kernel
theorem dX9_task_176 : decode cX9_task 176 = .ok (.iconst 2, 1) := by decide +kernel
theorem dX9_task_177 : decode cX9_task 177 = .ok (.if_icmp .ne 43, 3) := by decide +kernel
theorem dX9_task_180 : decode cX9_task 180 = .ok (.iload 6, 2) := by decide +kernel
theorem dX9_task_182 : decode cX9_task 182 = .ok (.ifCond .eq 35, 3) := by decide +kernel
theorem dX9_task_185 : decode cX9_task 185 = .ok (.aload 5, 2) := by decide +kernel
theorem dX9_task_187 : decode cX9_task 187 = .ok (.iconst 3, 1) := by decide +kernel
theorem dX9_task_188 : decode cX9_task 188 = .ok (.laload, 1) := by decide +kernel
theorem dX9_task_189 : decode cX9_task 189 = .ok (.lconst 0, 1) := by decide +kernel
theorem dX9_task_190 : decode cX9_task 190 = .ok (.ldc2_w 133, 3) := by decide +kernel
theorem dX9_task_193 : decode cX9_task 193 = .ok (.invokestatic 97, 3) := by decide +kernel
theorem dX9_task_196 : decode cX9_task 196 = .ok (.ifCond .eq 21, 3) := by decide +kernel
theorem dX9_task_199 : decode cX9_task 199 = .ok (.aload 5, 2) := by decide +kernel
theorem dX9_task_201 : decode cX9_task 201 = .ok (.iconst 4, 1) := by decide +kernel
theorem dX9_task_202 : decode cX9_task 202 = .ok (.laload, 1) := by decide +kernel
theorem dX9_task_203 : decode cX9_task 203 = .ok (.lconst 0, 1) := by decide +kernel
theorem dX9_task_204 : decode cX9_task 204 = .ok (.ldc2_w 135, 3) := by decide +kernel
theorem dX9_task_207 : decode cX9_task 207 = .ok (.invokestatic 97, 3) := by decide +kernel
theorem dX9_task_210 : decode cX9_task 210 = .ok (.ifCond .eq 7, 3) := by decide +kernel
theorem dX9_task_213 : decode cX9_task 213 = .ok (.iconst 1, 1) := by decide +kernel
theorem dX9_task_214 : decode cX9_task 214 = .ok (.goto 4, 3) := by decide +kernel
theorem dX9_task_217 : decode cX9_task 217 = .ok (.iconst 0, 1) := by decide +kernel
theorem dX9_task_218 : decode cX9_task 218 = .ok (.istore 6, 2) := by decide +kernel
theorem dX9_task_220 : decode cX9_task 220 = .ok (.iload_n 1, 1) := by decide +kernel
theorem dX9_task_221 : decode cX9_task 221 = .ok (.iconst 4, 1) := by decide +kernel
theorem dX9_task_222 : decode cX9_task 222 = .ok (.if_icmp .ne 29, 3) := by decide +kernel
theorem dX9_task_225 : decode cX9_task 225 = .ok (.iload 6, 2) := by decide +kernel
theorem dX9_task_227 : decode cX9_task 227 = .ok (.ifCond .eq 21, 3) := by decide +kernel
theorem dX9_task_230 : decode cX9_task 230 = .ok (.aload 5, 2) := by decide +kernel
theorem dX9_task_232 : decode cX9_task 232 = .ok (.iconst 3, 1) := by decide +kernel
theorem dX9_task_233 : decode cX9_task 233 = .ok (.laload, 1) := by decide +kernel
theorem dX9_task_234 : decode cX9_task 234 = .ok (.lconst 0, 1) := by decide +kernel
theorem dX9_task_235 : decode cX9_task 235 = .ok (.ldc2_w 135, 3) := by decide +kernel
theorem dX9_task_238 : decode cX9_task 238 = .ok (.invokestatic 97, 3) := by decide +kernel
theorem dX9_task_241 : decode cX9_task 241 = .ok (.ifCond .eq 7, 3) := by decide +kernel
theorem dX9_task_244 : decode cX9_task 244 = .ok (.iconst 1, 1) := by decide +kernel
theorem dX9_task_245 : decode cX9_task 245 = .ok (.goto 4, 3) := by decide +kernel
theorem dX9_task_248 : decode cX9_task 248 = .ok (.iconst 0, 1) := by decide +kernel
theorem dX9_task_249 : decode cX9_task 249 = .ok (.istore 6, 2) := by decide +kernel
theorem dX9_task_251 : decode cX9_task 251 = .ok (.iload 6, 2) := by decide +kernel
theorem dX9_task_253 : decode cX9_task 253 = .ok (.ifCond .ne 10, 3) := by decide +kernel
theorem dX9_task_256 : decode cX9_task 256 = .ok (.aload_n 0, 1) := by decide +kernel
theorem dX9_task_257 : decode cX9_task 257 = .ok (.bipush (-3), 2) := by decide +kernel
theorem dX9_task_259 : decode cX9_task 259 = .ok (.invokevirtual 107, 3) := by decide +kernel
theorem dX9_task_262 : decode cX9_task 262 = .ok (.ireturn, 1) := by decide +kernel
theorem dX9_task_263 : decode cX9_task 263 = .ok (.aload_n 0, 1) := by decide +kernel
theorem dX9_task_264 : decode cX9_task 264 = .ok (.getfield 10, 3) := by decide +kernel
theorem dX9_task_267 : decode cX9_task 267 = .ok (.getfield 94, 3) := by decide +kernel
theorem dX9_task_270 : decode cX9_task 270 = .ok (.bipush 12, 2) := by decide +kernel
theorem dX9_task_272 : decode cX9_task 272 = .ok (.if_icmp .ne 10, 3) := by decide +kernel
theorem dX9_task_275 : decode cX9_task 275 = .ok (.aload_n 0, 1) := by decide +kernel
theorem dX9_task_276 : decode cX9_task 276 = .ok (.bipush (-5), 2) := by decide +kernel
theorem dX9_task_278 : decode cX9_task 278 = .ok (.invokevirtual 107, 3) := by decide +kernel
theorem dX9_task_281 : decode cX9_task 281 = .ok (.ireturn, 1) := by decide +kernel
theorem dX9_task_282 : decode cX9_task 282 = .ok (.aload_n 0, 1) := by decide +kernel
theorem dX9_task_283 : decode cX9_task 283 = .ok (.iconst 0, 1) := by decide +kernel
theorem dX9_task_284 : decode cX9_task 284 = .ok (.invokevirtual 137, 3) := by decide +kernel
theorem dX9_task_287 : decode cX9_task 287 = .ok (.aload_n 0, 1) := by decide +kernel
theorem dX9_task_288 : decode cX9_task 288 = .ok (.getfield 10, 3) := by decide +kernel
theorem dX9_task_291 : decode cX9_task 291 = .ok (.getfield 94, 3) := by decide +kernel
theorem dX9_task_294 : decode cX9_task 294 = .ok (.istore 7, 2) := by decide +kernel
theorem dX9_task_296 : decode cX9_task 296 = .ok (.aload_n 0, 1) := by decide +kernel
theorem dX9_task_297 : decode cX9_task 297 = .ok (.getfield 10, 3) := by decide +kernel
theorem dX9_task_300 : decode cX9_task 300 = .ok (.getfield 141, 3) := by decide +kernel
theorem dX9_task_303 : decode cX9_task 303 = .ok (.iload 7, 2) := by decide +kernel
theorem dX9_task_305 : decode cX9_task 305 = .ok (.iload_n 1, 1) := by decide +kernel
theorem dX9_task_306 : decode cX9_task 306 = .ok (.iastore, 1) := by decide +kernel
theorem dX9_task_307 : decode cX9_task 307 = .ok (.iconst 0, 1) := by decide +kernel
theorem dX9_task_308 : decode cX9_task 308 = .ok (.istore 8, 2) := by decide +kernel
theorem dX9_task_310 : decode cX9_task 310 = .ok (.iload 8, 2) := by decide +kernel
theorem dX9_task_312 : decode cX9_task 312 = .ok (.iconst 5, 1) := by decide +kernel
theorem dX9_task_313 : decode cX9_task 313 = .ok (.if_icmp .ge 41, 3) := by decide +kernel
theorem dX9_task_316 : decode cX9_task 316 = .ok (.aload_n 0, 1) := by decide +kernel
theorem dX9_task_317 : decode cX9_task 317 = .ok (.getfield 10, 3) := by decide +kernel
theorem dX9_task_320 : decode cX9_task 320 = .ok (.getfield 144, 3) := by decide +kernel
theorem dX9_task_323 : decode cX9_task 323 = .ok (.iconst 5, 1) := by decide +kernel
theorem dX9_task_324 : decode cX9_task 324 = .ok (.iload 7, 2) := by decide +kernel
theorem dX9_task_326 : decode cX9_task 326 = .ok (.imul, 1) := by decide +kernel
theorem dX9_task_327 : decode cX9_task 327 = .ok (.iload 8, 2) := by decide +kernel
theorem dX9_task_329 : decode cX9_task 329 = .ok (.iadd, 1) := by decide +kernel
theorem dX9_task_330 : decode cX9_task 330 = .ok (.iload 8, 2) := by decide +kernel
theorem dX9_task_332 : decode cX9_task 332 = .ok (.iload 4, 2) := by decide +kernel
theorem dX9_task_334 : decode cX9_task 334 = .ok (.if_icmp .ge 12, 3) := by decide +kernel
theorem dX9_task_337 : decode cX9_task 337 = .ok (.aload 5, 2) := by decide +kernel
theorem dX9_task_339 : decode cX9_task 339 = .ok (.iload 8, 2) := by decide +kernel
theorem dX9_task_341 : decode cX9_task 341 = .ok (.laload, 1) := by decide +kernel
theorem dX9_task_342 : decode cX9_task 342 = .ok (.l2i, 1) := by decide +kernel
theorem dX9_task_343 : decode cX9_task 343 = .ok (.goto 4, 3) := by decide +kernel
theorem dX9_task_346 : decode cX9_task 346 = .ok (.iconst 0, 1) := by decide +kernel
theorem dX9_task_347 : decode cX9_task 347 = .ok (.iastore, 1) := by decide +kernel
theorem dX9_task_348 : decode cX9_task 348 = .ok (.iinc 8 1, 3) := by decide +kernel
theorem dX9_task_351 : decode cX9_task 351 = .ok (.goto (-41), 3) := by decide +kernel
theorem dX9_task_354 : decode cX9_task 354 = .ok (.iload 4, 2) := by decide +kernel
theorem dX9_task_356 : decode cX9_task 356 = .ok (.iconst 1, 1) := by decide +kernel
theorem dX9_task_357 : decode cX9_task 357 = .ok (.if_icmp .ne 22, 3) := by decide +kernel
theorem dX9_task_360 : decode cX9_task 360 = .ok (.aload_n 0, 1) := by decide +kernel
theorem dX9_task_361 : decode cX9_task 361 = .ok (.getfield 10, 3) := by decide +kernel
theorem dX9_task_364 : decode cX9_task 364 = .ok (.getfield 144, 3) := by decide +kernel
theorem dX9_task_367 : decode cX9_task 367 = .ok (.iconst 5, 1) := by decide +kernel
theorem dX9_task_368 : decode cX9_task 368 = .ok (.iload 7, 2) := by decide +kernel
theorem dX9_task_370 : decode cX9_task 370 = .ok (.imul, 1) := by decide +kernel
theorem dX9_task_371 : decode cX9_task 371 = .ok (.iconst 1, 1) := by decide +kernel
theorem dX9_task_372 : decode cX9_task 372 = .ok (.iadd, 1) := by decide +kernel
theorem dX9_task_373 : decode cX9_task 373 = .ok (.aload 5, 2) := by decide +kernel
theorem dX9_task_375 : decode cX9_task 375 = .ok (.iconst 0, 1) := by decide +kernel
theorem dX9_task_376 : decode cX9_task 376 = .ok (.laload, 1) := by decide +kernel
theorem dX9_task_377 : decode cX9_task 377 = .ok (.l2i, 1) := by decide +kernel
theorem dX9_task_378 : decode cX9_task 378 = .ok (.iastore, 1) := by decide +kernel
theorem dX9_task_379 : decode cX9_task 379 = .ok (.iconst 0, 1) := by decide +kernel
theorem dX9_task_380 : decode cX9_task 380 = .ok (.istore 8, 2) := by decide +kernel
theorem dX9_task_382 : decode cX9_task 382 = .ok (.iload 8, 2) := by decide +kernel
theorem dX9_task_384 : decode cX9_task 384 = .ok (.bipush 12, 2) := by decide +kernel
theorem dX9_task_386 : decode cX9_task 386 = .ok (.if_icmp .ge 43, 3) := by decide +kernel
theorem dX9_task_389 : decode cX9_task 389 = .ok (.aload_n 0, 1) := by decide +kernel
theorem dX9_task_390 : decode cX9_task 390 = .ok (.getfield 10, 3) := by decide +kernel
theorem dX9_task_393 : decode cX9_task 393 = .ok (.getfield 147, 3) := by decide +kernel
theorem dX9_task_396 : decode cX9_task 396 = .ok (.bipush 12, 2) := by decide +kernel
theorem dX9_task_398 : decode cX9_task 398 = .ok (.iload 7, 2) := by decide +kernel
theorem dX9_task_400 : decode cX9_task 400 = .ok (.imul, 1) := by decide +kernel
theorem dX9_task_401 : decode cX9_task 401 = .ok (.iload 8, 2) := by decide +kernel
theorem dX9_task_403 : decode cX9_task 403 = .ok (.iadd, 1) := by decide +kernel
theorem dX9_task_404 : decode cX9_task 404 = .ok (.iconst 0, 1) := by decide +kernel
theorem dX9_task_405 : decode cX9_task 405 = .ok (.bastore, 1) := by decide +kernel
theorem dX9_task_406 : decode cX9_task 406 = .ok (.aload_n 0, 1) := by decide +kernel
theorem dX9_task_407 : decode cX9_task 407 = .ok (.getfield 10, 3) := by decide +kernel
theorem dX9_task_410 : decode cX9_task 410 = .ok (.getfield 147, 3) := by decide +kernel
theorem dX9_task_413 : decode cX9_task 413 = .ok (.bipush 12, 2) := by decide +kernel
theorem dX9_task_415 : decode cX9_task 415 = .ok (.iload 8, 2) := by decide +kernel
theorem dX9_task_417 : decode cX9_task 417 = .ok (.imul, 1) := by decide +kernel
theorem dX9_task_418 : decode cX9_task 418 = .ok (.iload 7, 2) := by decide +kernel
theorem dX9_task_420 : decode cX9_task 420 = .ok (.iadd, 1) := by decide +kernel
theorem dX9_task_421 : decode cX9_task 421 = .ok (.iconst 0, 1) := by decide +kernel
theorem dX9_task_422 : decode cX9_task 422 = .ok (.bastore, 1) := by decide +kernel
theorem dX9_task_423 : decode cX9_task 423 = .ok (.iinc 8 1, 3) := by decide +kernel
theorem dX9_task_426 : decode cX9_task 426 = .ok (.goto (-44), 3) := by decide +kernel
theorem dX9_task_429 : decode cX9_task 429 = .ok (.aload_n 0, 1) := by decide +kernel
theorem dX9_task_430 : decode cX9_task 430 = .ok (.getfield 10, 3) := by decide +kernel
theorem dX9_task_433 : decode cX9_task 433 = .ok (.getfield 150, 3) := by decide +kernel
theorem dX9_task_436 : decode cX9_task 436 = .ok (.iload 7, 2) := by decide +kernel
theorem dX9_task_438 : decode cX9_task 438 = .ok (.aload 5, 2) := by decide +kernel
theorem dX9_task_440 : decode cX9_task 440 = .ok (.iconst 0, 1) := by decide +kernel
theorem dX9_task_441 : decode cX9_task 441 = .ok (.laload, 1) := by decide +kernel
theorem dX9_task_442 : decode cX9_task 442 = .ok (.l2i, 1) := by decide +kernel
theorem dX9_task_443 : decode cX9_task 443 = .ok (.iastore, 1) := by decide +kernel
theorem dX9_task_444 : decode cX9_task 444 = .ok (.aload_n 0, 1) := by decide +kernel
theorem dX9_task_445 : decode cX9_task 445 = .ok (.getfield 10, 3) := by decide +kernel
theorem dX9_task_448 : decode cX9_task 448 = .ok (.dup, 1) := by decide +kernel
theorem dX9_task_449 : decode cX9_task 449 = .ok (.getfield 94, 3) := by decide +kernel
theorem dX9_task_452 : decode cX9_task 452 = .ok (.iconst 1, 1) := by decide +kernel
theorem dX9_task_453 : decode cX9_task 453 = .ok (.iadd, 1) := by decide +kernel
theorem dX9_task_454 : decode cX9_task 454 = .ok (.putfield 94, 3) := by decide +kernel
theorem dX9_task_457 : decode cX9_task 457 = .ok (.iload 7, 2) := by decide +kernel
theorem dX9_task_459 : decode cX9_task 459 = .ok (.ireturn, 1) := by decide +kernel
theorem dX9_followed_0 : decode cX9_followed 0 = .ok (.iconst 0, 1) := by decide +kernel
theorem dX9_followed_1 : decode cX9_followed 1 = .ok (.istore_n 2, 1) := by decide +kernel
theorem dX9_followed_2 : decode cX9_followed 2 = .ok (.iconst 0, 1) := by decide +kernel
theorem dX9_followed_3 : decode cX9_followed 3 = .ok (.istore_n 3, 1) := by decide +kernel
theorem dX9_followed_4 : decode cX9_followed 4 = .ok (.iload_n 3, 1) := by decide +kernel
theorem dX9_followed_5 : decode cX9_followed 5 = .ok (.aload_n 0, 1) := by decide +kernel
theorem dX9_followed_6 : decode cX9_followed 6 = .ok (.getfield 10, 3) := by decide +kernel
theorem dX9_followed_9 : decode cX9_followed 9 = .ok (.getfield 94, 3) := by decide +kernel
theorem dX9_followed_12 : decode cX9_followed 12 = .ok (.if_icmp .ge 34, 3) := by decide +kernel
theorem dX9_followed_15 : decode cX9_followed 15 = .ok (.iload_n 2, 1) := by decide +kernel
theorem dX9_followed_16 : decode cX9_followed 16 = .ok (.aload_n 0, 1) := by decide +kernel
theorem dX9_followed_17 : decode cX9_followed 17 = .ok (.getfield 10, 3) := by decide +kernel
theorem dX9_followed_20 : decode cX9_followed 20 = .ok (.getfield 147, 3) := by decide +kernel
theorem dX9_followed_23 : decode cX9_followed 23 = .ok (.bipush 12, 2) := by decide +kernel
theorem dX9_followed_25 : decode cX9_followed 25 = .ok (.iload_n 1, 1) := by decide +kernel
theorem dX9_followed_26 : decode cX9_followed 26 = .ok (.imul, 1) := by decide +kernel
theorem dX9_followed_27 : decode cX9_followed 27 = .ok (.iload_n 3, 1) := by decide +kernel
theorem dX9_followed_28 : decode cX9_followed 28 = .ok (.iadd, 1) := by decide +kernel
theorem dX9_followed_29 : decode cX9_followed 29 = .ok (.baload, 1) := by decide +kernel
theorem dX9_followed_30 : decode cX9_followed 30 = .ok (.ifCond .eq 7, 3) := by decide +kernel
theorem dX9_followed_33 : decode cX9_followed 33 = .ok (.iconst 1, 1) := by decide +kernel
theorem dX9_followed_34 : decode cX9_followed 34 = .ok (.goto 4, 3) := by decide +kernel
theorem dX9_followed_37 : decode cX9_followed 37 = .ok (.iconst 0, 1) := by decide +kernel
theorem dX9_followed_38 : decode cX9_followed 38 = .ok (.iadd, 1) := by decide +kernel
theorem dX9_followed_39 : decode cX9_followed 39 = .ok (.istore_n 2, 1) := by decide +kernel
theorem dX9_followed_40 : decode cX9_followed 40 = .ok (.iinc 3 1, 3) := by decide +kernel
theorem dX9_followed_43 : decode cX9_followed 43 = .ok (.goto (-39), 3) := by decide +kernel
theorem dX9_followed_46 : decode cX9_followed 46 = .ok (.iload_n 2, 1) := by decide +kernel
theorem dX9_followed_47 : decode cX9_followed 47 = .ok (.ireturn, 1) := by decide +kernel
theorem dX9_all_0 : decode cX9_all 0 = .ok (.iconst 0, 1) := by decide +kernel
theorem dX9_all_1 : decode cX9_all 1 = .ok (.istore_n 2, 1) := by decide +kernel
theorem dX9_all_2 : decode cX9_all 2 = .ok (.iconst 0, 1) := by decide +kernel
theorem dX9_all_3 : decode cX9_all 3 = .ok (.istore_n 3, 1) := by decide +kernel
theorem dX9_all_4 : decode cX9_all 4 = .ok (.iload_n 3, 1) := by decide +kernel
theorem dX9_all_5 : decode cX9_all 5 = .ok (.bipush 12, 2) := by decide +kernel
theorem dX9_all_7 : decode cX9_all 7 = .ok (.if_icmp .gt 125, 3) := by decide +kernel
theorem dX9_all_10 : decode cX9_all 10 = .ok (.iconst 0, 1) := by decide +kernel
theorem dX9_all_11 : decode cX9_all 11 = .ok (.istore 4, 2) := by decide +kernel
theorem dX9_all_13 : decode cX9_all 13 = .ok (.iload 4, 2) := by decide +kernel
theorem dX9_all_15 : decode cX9_all 15 = .ok (.aload_n 0, 1) := by decide +kernel
theorem dX9_all_16 : decode cX9_all 16 = .ok (.getfield 10, 3) := by decide +kernel
theorem dX9_all_19 : decode cX9_all 19 = .ok (.getfield 94, 3) := by decide +kernel
theorem dX9_all_22 : decode cX9_all 22 = .ok (.if_icmp .ge 104, 3) := by decide +kernel
theorem dX9_all_25 : decode cX9_all 25 = .ok (.aload_n 0, 1) := by decide +kernel
theorem dX9_all_26 : decode cX9_all 26 = .ok (.getfield 10, 3) := by decide +kernel
theorem dX9_all_29 : decode cX9_all 29 = .ok (.getfield 147, 3) := by decide +kernel
theorem dX9_all_32 : decode cX9_all 32 = .ok (.bipush 12, 2) := by decide +kernel
theorem dX9_all_34 : decode cX9_all 34 = .ok (.iload_n 1, 1) := by decide +kernel
theorem dX9_all_35 : decode cX9_all 35 = .ok (.imul, 1) := by decide +kernel
theorem dX9_all_36 : decode cX9_all 36 = .ok (.iload 4, 2) := by decide +kernel
theorem dX9_all_38 : decode cX9_all 38 = .ok (.iadd, 1) := by decide +kernel
theorem dX9_all_39 : decode cX9_all 39 = .ok (.baload, 1) := by decide +kernel
theorem dX9_all_40 : decode cX9_all 40 = .ok (.istore 5, 2) := by decide +kernel
theorem dX9_all_42 : decode cX9_all 42 = .ok (.iconst 0, 1) := by decide +kernel
theorem dX9_all_43 : decode cX9_all 43 = .ok (.istore 6, 2) := by decide +kernel
theorem dX9_all_45 : decode cX9_all 45 = .ok (.iload 6, 2) := by decide +kernel
theorem dX9_all_47 : decode cX9_all 47 = .ok (.aload_n 0, 1) := by decide +kernel
theorem dX9_all_48 : decode cX9_all 48 = .ok (.getfield 10, 3) := by decide +kernel
theorem dX9_all_51 : decode cX9_all 51 = .ok (.getfield 94, 3) := by decide +kernel
theorem dX9_all_54 : decode cX9_all 54 = .ok (.if_icmp .ge 50, 3) := by decide +kernel
theorem dX9_all_57 : decode cX9_all 57 = .ok (.iload 5, 2) := by decide +kernel
theorem dX9_all_59 : decode cX9_all 59 = .ok (.ifCond .ne 32, 3) := by decide +kernel
theorem dX9_all_62 : decode cX9_all 62 = .ok (.iload_n 2, 1) := by decide +kernel
theorem dX9_all_63 : decode cX9_all 63 = .ok (.iload 6, 2) := by decide +kernel
theorem dX9_all_65 : decode cX9_all 65 = .ok (.ishr, 1) := by decide +kernel
theorem dX9_all_66 : decode cX9_all 66 = .ok (.iconst 1, 1) := by decide +kernel
theorem dX9_all_67 : decode cX9_all 67 = .ok (.iand, 1) := by decide +kernel
theorem dX9_all_68 : decode cX9_all 68 = .ok (.iconst 1, 1) := by decide +kernel
theorem dX9_all_69 : decode cX9_all 69 = .ok (.if_icmp .ne 26, 3) := by decide +kernel
theorem dX9_all_72 : decode cX9_all 72 = .ok (.aload_n 0, 1) := by decide +kernel
theorem dX9_all_73 : decode cX9_all 73 = .ok (.getfield 10, 3) := by decide +kernel
theorem dX9_all_76 : decode cX9_all 76 = .ok (.getfield 147, 3) := by decide +kernel
theorem dX9_all_79 : decode cX9_all 79 = .ok (.bipush 12, 2) := by decide +kernel
theorem dX9_all_81 : decode cX9_all 81 = .ok (.iload 6, 2) := by decide +kernel
theorem dX9_all_83 : decode cX9_all 83 = .ok (.imul, 1) := by decide +kernel
theorem dX9_all_84 : decode cX9_all 84 = .ok (.iload 4, 2) := by decide +kernel
theorem dX9_all_86 : decode cX9_all 86 = .ok (.iadd, 1) := by decide +kernel
theorem dX9_all_87 : decode cX9_all 87 = .ok (.baload, 1) := by decide +kernel
theorem dX9_all_88 : decode cX9_all 88 = .ok (.ifCond .eq 7, 3) := by decide +kernel
theorem dX9_all_91 : decode cX9_all 91 = .ok (.iconst 1, 1) := by decide +kernel
theorem dX9_all_92 : decode cX9_all 92 = .ok (.goto 4, 3) := by decide +kernel
theorem dX9_all_95 : decode cX9_all 95 = .ok (.iconst 0, 1) := by decide +kernel
theorem dX9_all_96 : decode cX9_all 96 = .ok (.istore 5, 2) := by decide +kernel
theorem dX9_all_98 : decode cX9_all 98 = .ok (.iinc 6 1, 3) := by decide +kernel
theorem dX9_all_101 : decode cX9_all 101 = .ok (.goto (-56), 3) := by decide +kernel
theorem dX9_all_104 : decode cX9_all 104 = .ok (.iload_n 2, 1) := by decide +kernel
theorem dX9_all_105 : decode cX9_all 105 = .ok (.iload 5, 2) := by decide +kernel
theorem dX9_all_107 : decode cX9_all 107 = .ok (.ifCond .eq 10, 3) := by decide +kernel
theorem dX9_all_110 : decode cX9_all 110 = .ok (.iconst 1, 1) := by decide +kernel
theorem dX9_all_111 : decode cX9_all 111 = .ok (.iload 4, 2) := by decide +kernel
theorem dX9_all_113 : decode cX9_all 113 = .ok (.ishl, 1) := by decide +kernel
theorem dX9_all_114 : decode cX9_all 114 = .ok (.goto 4, 3) := by decide +kernel
theorem dX9_all_117 : decode cX9_all 117 = .ok (.iconst 0, 1) := by decide +kernel
theorem dX9_all_118 : decode cX9_all 118 = .ok (.ior, 1) := by decide +kernel
theorem dX9_all_119 : decode cX9_all 119 = .ok (.istore_n 2, 1) := by decide +kernel
theorem dX9_all_120 : decode cX9_all 120 = .ok (.iinc 4 1, 3) := by decide +kernel
theorem dX9_all_123 : decode cX9_all 123 = .ok (.goto (-110), 3) := by decide +kernel
theorem dX9_all_126 : decode cX9_all 126 = .ok (.iinc 3 1, 3) := by decide +kernel
theorem dX9_all_129 : decode cX9_all 129 = .ok (.goto (-125), 3) := by decide +kernel
theorem dX9_all_132 : decode cX9_all 132 = .ok (.iload_n 2, 1) := by decide +kernel
theorem dX9_all_133 : decode cX9_all 133 = .ok (.ireturn, 1) := by decide +kernel
set_option maxRecDepth 20000 in
theorem ggX9_after_X9_isTask : GoodIn wsX9_after wsX9_isTask := goodIn_r _ [9, 1, 3, 10, 11, 8, 12, 49, 50, 51, 52, 53, 54, 55, 56, 57, 58, 59, 60, 61, 62, 63, 64, 65, 66, 67, 68, 69, 70, 71, 72, 73, 74, 75, 76, 77, 78, 79, 80, 81, 82, 83, 84, 85] (by decide +kernel) (by decide +kernel)
set_option maxRecDepth 20000 in
theorem gX9_after_X9_isTask : GoodIn wsX9_after (wsV RX9 151 RX9 yX9_isTask wsX9_isTask) := goodIn_app (goodIn_of _ (by decide +kernel)) ggX9_after_X9_isTask
set_option maxRecDepth 20000 in
theorem ggX9_after_X9_found : GoodIn wsX9_after wsX9_found := goodIn_r _ [16, 17, 49, 50, 51, 52, 53, 54, 55, 56, 57, 58, 59, 60, 61, 62, 63, 64, 65, 66, 67, 68, 69, 70, 71, 72, 73, 74, 75, 76, 77, 78, 79, 80] (by decide +kernel) (by decide +kernel)
set_option maxRecDepth 20000 in
theorem gX9_after_X9_found : GoodIn wsX9_after (wsV RX9 107 RX9 yX9_found wsX9_found) := goodIn_app (goodIn_of _ (by decide +kernel)) ggX9_after_X9_found
set_option maxRecDepth 20000 in
theorem ggX9_after_X9_all : GoodIn wsX9_after wsX9_all := goodIn_r _ [21, 1, 3, 2, 49, 50, 51, 52, 53, 54, 55, 56, 57, 58, 59, 60, 61, 62, 63, 64, 65, 66, 67, 68, 69, 70, 71, 72, 73, 74, 75, 76, 77, 78, 79, 80, 81, 82, 83, 84, 85] (by decide +kernel) (by decide +kernel)
set_option maxRecDepth 20000 in
theorem gX9_after_X9_all : GoodIn wsX9_after (wsV RX9 154 RX9 yX9_all wsX9_all) := goodIn_app (goodIn_of _ (by decide +kernel)) ggX9_after_X9_all
set_option maxRecDepth 20000 in
theorem ggX9_after_X9_remember : GoodIn wsX9_after wsX9_remember := goodIn_r _ [25, 26, 27, 28, 1, 29, 30, 31, 32, 33, 34, 35, 36, 37, 38, 39, 40, 41, 8, 42, 43, 44, 49, 50, 51, 52, 53, 54, 55, 56, 57, 58, 59, 60, 61, 62, 63, 64, 65, 66, 67, 68, 69, 70, 71, 72, 73, 74, 75, 76, 77, 78, 79, 80, 81, 82, 83, 84, 85] (by decide +kernel) (by decide +kernel)
set_option maxRecDepth 20000 in
theorem gX9_after_X9_remember : GoodIn wsX9_after (wsV RX9 137 RX9 yX9_remember wsX9_remember) := goodIn_app (goodIn_of _ (by decide +kernel)) ggX9_after_X9_remember
set_option maxRecDepth 20000 in
theorem ggX9_after_X9_followed : GoodIn wsX9_after wsX9_followed := goodIn_r _ [48, 1, 3, 2, 49, 50, 51, 52, 53, 54, 55, 56, 57, 58, 59, 60, 61, 62, 63, 64, 65, 66, 67, 68, 69, 70, 71, 72, 73, 74, 75, 76, 77, 78, 79, 80, 81, 82, 83, 84, 85] (by decide +kernel) (by decide +kernel)
set_option maxRecDepth 20000 in
theorem gX9_after_X9_followed : GoodIn wsX9_after (wsV RX9 160 RX9 yX9_followed wsX9_followed) := goodIn_app (goodIn_of _ (by decide +kernel)) ggX9_after_X9_followed
theorem dX9_after_0 : decode cX9_after 0 = .ok (.aload_n 0, 1) := by decide +kernel
theorem dX9_after_1 : decode cX9_after 1 = .ok (.iload_n 1, 1) := by decide +kernel
theorem dX9_after_2 : decode cX9_after 2 = .ok (.invokevirtual 151, 3) := by decide +kernel
theorem dX9_after_5 : decode cX9_after 5 = .ok (.ifCond .eq 11, 3) := by decide +kernel
theorem dX9_after_8 : decode cX9_after 8 = .ok (.aload_n 0, 1) := by decide +kernel
theorem dX9_after_9 : decode cX9_after 9 = .ok (.iload_n 2, 1) := by decide +kernel
theorem dX9_after_10 : decode cX9_after 10 = .ok (.invokevirtual 151, 3) := by decide +kernel
theorem dX9_after_13 : decode cX9_after 13 = .ok (.ifCond .ne 9, 3) := by decide +kernel
theorem dX9_after_16 : decode cX9_after 16 = .ok (.aload_n 0, 1) := by decide +kernel
theorem dX9_after_17 : decode cX9_after 17 = .ok (.iconst (-1), 1) := by decide +kernel
theorem dX9_after_18 : decode cX9_after 18 = .ok (.invokevirtual 107, 3) := by decide +kernel
theorem dX9_after_21 : decode cX9_after 21 = .ok (.ireturn, 1) := by decide +kernel
theorem dX9_after_22 : decode cX9_after 22 = .ok (.aload_n 0, 1) := by decide +kernel
theorem dX9_after_23 : decode cX9_after 23 = .ok (.getfield 10, 3) := by decide +kernel
theorem dX9_after_26 : decode cX9_after 26 = .ok (.getfield 147, 3) := by decide +kernel
theorem dX9_after_29 : decode cX9_after 29 = .ok (.bipush 12, 2) := by decide +kernel
theorem dX9_after_31 : decode cX9_after 31 = .ok (.iload_n 1, 1) := by decide +kernel
theorem dX9_after_32 : decode cX9_after 32 = .ok (.imul, 1) := by decide +kernel
theorem dX9_after_33 : decode cX9_after 33 = .ok (.iload_n 2, 1) := by decide +kernel
theorem dX9_after_34 : decode cX9_after 34 = .ok (.iadd, 1) := by decide +kernel
theorem dX9_after_35 : decode cX9_after 35 = .ok (.baload, 1) := by decide +kernel
theorem dX9_after_36 : decode cX9_after 36 = .ok (.istore_n 3, 1) := by decide +kernel
theorem dX9_after_37 : decode cX9_after 37 = .ok (.aload_n 0, 1) := by decide +kernel
theorem dX9_after_38 : decode cX9_after 38 = .ok (.getfield 10, 3) := by decide +kernel
theorem dX9_after_41 : decode cX9_after 41 = .ok (.getfield 147, 3) := by decide +kernel
theorem dX9_after_44 : decode cX9_after 44 = .ok (.bipush 12, 2) := by decide +kernel
theorem dX9_after_46 : decode cX9_after 46 = .ok (.iload_n 1, 1) := by decide +kernel
theorem dX9_after_47 : decode cX9_after 47 = .ok (.imul, 1) := by decide +kernel
theorem dX9_after_48 : decode cX9_after 48 = .ok (.iload_n 2, 1) := by decide +kernel
theorem dX9_after_49 : decode cX9_after 49 = .ok (.iadd, 1) := by decide +kernel
theorem dX9_after_50 : decode cX9_after 50 = .ok (.iconst 1, 1) := by decide +kernel
theorem dX9_after_51 : decode cX9_after 51 = .ok (.bastore, 1) := by decide +kernel
theorem dX9_after_52 : decode cX9_after 52 = .ok (.iconst 0, 1) := by decide +kernel
theorem dX9_after_53 : decode cX9_after 53 = .ok (.istore 4, 2) := by decide +kernel
theorem dX9_after_55 : decode cX9_after 55 = .ok (.iconst 0, 1) := by decide +kernel
theorem dX9_after_56 : decode cX9_after 56 = .ok (.istore 5, 2) := by decide +kernel
theorem dX9_after_58 : decode cX9_after 58 = .ok (.iload 5, 2) := by decide +kernel
theorem dX9_after_60 : decode cX9_after 60 = .ok (.aload_n 0, 1) := by decide +kernel
theorem dX9_after_61 : decode cX9_after 61 = .ok (.getfield 10, 3) := by decide +kernel
theorem dX9_after_64 : decode cX9_after 64 = .ok (.getfield 94, 3) := by decide +kernel
theorem dX9_after_67 : decode cX9_after 67 = .ok (.if_icmp .ge 37, 3) := by decide +kernel
theorem dX9_after_70 : decode cX9_after 70 = .ok (.iload 4, 2) := by decide +kernel
theorem dX9_after_72 : decode cX9_after 72 = .ok (.aload_n 0, 1) := by decide +kernel
theorem dX9_after_73 : decode cX9_after 73 = .ok (.iload 5, 2) := by decide +kernel
theorem dX9_after_75 : decode cX9_after 75 = .ok (.invokevirtual 154, 3) := by decide +kernel
theorem dX9_after_78 : decode cX9_after 78 = .ok (.iload 5, 2) := by decide +kernel
theorem dX9_after_80 : decode cX9_after 80 = .ok (.ishr, 1) := by decide +kernel
theorem dX9_after_81 : decode cX9_after 81 = .ok (.iconst 1, 1) := by decide +kernel
theorem dX9_after_82 : decode cX9_after 82 = .ok (.iand, 1) := by decide +kernel
theorem dX9_after_83 : decode cX9_after 83 = .ok (.iconst 1, 1) := by decide +kernel
theorem dX9_after_84 : decode cX9_after 84 = .ok (.if_icmp .ne 10, 3) := by decide +kernel
theorem dX9_after_87 : decode cX9_after 87 = .ok (.iconst 1, 1) := by decide +kernel
theorem dX9_after_88 : decode cX9_after 88 = .ok (.iload 5, 2) := by decide +kernel
theorem dX9_after_90 : decode cX9_after 90 = .ok (.ishl, 1) := by decide +kernel
theorem dX9_after_91 : decode cX9_after 91 = .ok (.goto 4, 3) := by decide +kernel
theorem dX9_after_94 : decode cX9_after 94 = .ok (.iconst 0, 1) := by decide +kernel
theorem dX9_after_95 : decode cX9_after 95 = .ok (.ior, 1) := by decide +kernel
theorem dX9_after_96 : decode cX9_after 96 = .ok (.istore 4, 2) := by decide +kernel
theorem dX9_after_98 : decode cX9_after 98 = .ok (.iinc 5 1, 3) := by decide +kernel
theorem dX9_after_101 : decode cX9_after 101 = .ok (.goto (-43), 3) := by decide +kernel
theorem dX9_after_104 : decode cX9_after 104 = .ok (.aload_n 0, 1) := by decide +kernel
theorem dX9_after_105 : decode cX9_after 105 = .ok (.getfield 10, 3) := by decide +kernel
theorem dX9_after_108 : decode cX9_after 108 = .ok (.getfield 147, 3) := by decide +kernel
theorem dX9_after_111 : decode cX9_after 111 = .ok (.bipush 12, 2) := by decide +kernel
theorem dX9_after_113 : decode cX9_after 113 = .ok (.iload_n 1, 1) := by decide +kernel
theorem dX9_after_114 : decode cX9_after 114 = .ok (.imul, 1) := by decide +kernel
theorem dX9_after_115 : decode cX9_after 115 = .ok (.iload_n 2, 1) := by decide +kernel
theorem dX9_after_116 : decode cX9_after 116 = .ok (.iadd, 1) := by decide +kernel
theorem dX9_after_117 : decode cX9_after 117 = .ok (.iload_n 3, 1) := by decide +kernel
theorem dX9_after_118 : decode cX9_after 118 = .ok (.bastore, 1) := by decide +kernel
theorem dX9_after_119 : decode cX9_after 119 = .ok (.iload 4, 2) := by decide +kernel
theorem dX9_after_121 : decode cX9_after 121 = .ok (.ifCond .eq 16, 3) := by decide +kernel
theorem dX9_after_124 : decode cX9_after 124 = .ok (.aload_n 0, 1) := by decide +kernel
theorem dX9_after_125 : decode cX9_after 125 = .ok (.iload 4, 2) := by decide +kernel
theorem dX9_after_127 : decode cX9_after 127 = .ok (.putfield 157, 3) := by decide +kernel
theorem dX9_after_130 : decode cX9_after 130 = .ok (.aload_n 0, 1) := by decide +kernel
theorem dX9_after_131 : decode cX9_after 131 = .ok (.bipush (-6), 2) := by decide +kernel
theorem dX9_after_133 : decode cX9_after 133 = .ok (.invokevirtual 107, 3) := by decide +kernel
theorem dX9_after_136 : decode cX9_after 136 = .ok (.ireturn, 1) := by decide +kernel
theorem dX9_after_137 : decode cX9_after 137 = .ok (.aload_n 0, 1) := by decide +kernel
theorem dX9_after_138 : decode cX9_after 138 = .ok (.iconst 0, 1) := by decide +kernel
theorem dX9_after_139 : decode cX9_after 139 = .ok (.invokevirtual 137, 3) := by decide +kernel
theorem dX9_after_142 : decode cX9_after 142 = .ok (.aload_n 0, 1) := by decide +kernel
theorem dX9_after_143 : decode cX9_after 143 = .ok (.getfield 10, 3) := by decide +kernel
theorem dX9_after_146 : decode cX9_after 146 = .ok (.getfield 147, 3) := by decide +kernel
theorem dX9_after_149 : decode cX9_after 149 = .ok (.bipush 12, 2) := by decide +kernel
theorem dX9_after_151 : decode cX9_after 151 = .ok (.iload_n 1, 1) := by decide +kernel
theorem dX9_after_152 : decode cX9_after 152 = .ok (.imul, 1) := by decide +kernel
theorem dX9_after_153 : decode cX9_after 153 = .ok (.iload_n 2, 1) := by decide +kernel
theorem dX9_after_154 : decode cX9_after 154 = .ok (.iadd, 1) := by decide +kernel
theorem dX9_after_155 : decode cX9_after 155 = .ok (.iconst 1, 1) := by decide +kernel
theorem dX9_after_156 : decode cX9_after 156 = .ok (.bastore, 1) := by decide +kernel
theorem dX9_after_157 : decode cX9_after 157 = .ok (.aload_n 0, 1) := by decide +kernel
theorem dX9_after_158 : decode cX9_after 158 = .ok (.iload_n 1, 1) := by decide +kernel
theorem dX9_after_159 : decode cX9_after 159 = .ok (.invokevirtual 160, 3) := by decide +kernel
theorem dX9_after_162 : decode cX9_after 162 = .ok (.ireturn, 1) := by decide +kernel
set_option maxRecDepth 20000 in
theorem ggX9_away_X9_isTask : GoodIn wsX9_away wsX9_isTask := goodIn_r _ [7, 1, 8, 9, 10, 6, 11, 44, 45, 46, 47, 48, 49, 50, 51, 52, 53, 54, 55, 56, 57, 58, 59, 60, 61, 62, 63, 64, 65, 66, 67, 68, 69, 70, 71, 72, 73, 74, 75, 76, 77, 78, 79, 80] (by decide +kernel) (by decide +kernel)
set_option maxRecDepth 20000 in
theorem gX9_away_X9_isTask : GoodIn wsX9_away (wsV RX9 151 RX9 yX9_isTask wsX9_isTask) := goodIn_app (goodIn_of _ (by decide +kernel)) ggX9_away_X9_isTask
set_option maxRecDepth 20000 in
theorem ggX9_away_X9_found : GoodIn wsX9_away wsX9_found := goodIn_r _ [15, 16, 44, 45, 46, 47, 48, 49, 50, 51, 52, 53, 54, 55, 56, 57, 58, 59, 60, 61, 62, 63, 64, 65, 66, 67, 68, 69, 70, 71, 72, 73, 74, 75] (by decide +kernel) (by decide +kernel)
set_option maxRecDepth 20000 in
theorem gX9_away_X9_found : GoodIn wsX9_away (wsV RX9 107 RX9 yX9_found wsX9_found) := goodIn_app (goodIn_of _ (by decide +kernel)) ggX9_away_X9_found
set_option maxRecDepth 20000 in
theorem ggX9_away_X9_remember : GoodIn wsX9_away wsX9_remember := goodIn_r _ [20, 21, 22, 23, 1, 24, 25, 26, 27, 28, 29, 30, 31, 32, 33, 34, 35, 36, 6, 37, 38, 39, 44, 45, 46, 47, 48, 49, 50, 51, 52, 53, 54, 55, 56, 57, 58, 59, 60, 61, 62, 63, 64, 65, 66, 67, 68, 69, 70, 71, 72, 73, 74, 75, 76, 77, 78, 79, 80] (by decide +kernel) (by decide +kernel)
set_option maxRecDepth 20000 in
theorem gX9_away_X9_remember : GoodIn wsX9_away (wsV RX9 137 RX9 yX9_remember wsX9_remember) := goodIn_app (goodIn_of _ (by decide +kernel)) ggX9_away_X9_remember
set_option maxRecDepth 20000 in
theorem ggX9_away_X9_followed : GoodIn wsX9_away wsX9_followed := goodIn_r _ [43, 1, 8, 2, 44, 45, 46, 47, 48, 49, 50, 51, 52, 53, 54, 55, 56, 57, 58, 59, 60, 61, 62, 63, 64, 65, 66, 67, 68, 69, 70, 71, 72, 73, 74, 75, 76, 77, 78, 79, 80] (by decide +kernel) (by decide +kernel)
set_option maxRecDepth 20000 in
theorem gX9_away_X9_followed : GoodIn wsX9_away (wsV RX9 160 RX9 yX9_followed wsX9_followed) := goodIn_app (goodIn_of _ (by decide +kernel)) ggX9_away_X9_followed
theorem dX9_away_0 : decode cX9_away 0 = .ok (.aload_n 0, 1) := by decide +kernel
theorem dX9_away_1 : decode cX9_away 1 = .ok (.iload_n 1, 1) := by decide +kernel
theorem dX9_away_2 : decode cX9_away 2 = .ok (.invokevirtual 151, 3) := by decide +kernel
theorem dX9_away_5 : decode cX9_away 5 = .ok (.ifCond .eq 11, 3) := by decide +kernel
theorem dX9_away_8 : decode cX9_away 8 = .ok (.aload_n 0, 1) := by decide +kernel
theorem dX9_away_9 : decode cX9_away 9 = .ok (.iload_n 2, 1) := by decide +kernel
theorem dX9_away_10 : decode cX9_away 10 = .ok (.invokevirtual 151, 3) := by decide +kernel
theorem dX9_away_13 : decode cX9_away 13 = .ok (.ifCond .ne 9, 3) := by decide +kernel
theorem dX9_away_16 : decode cX9_away 16 = .ok (.aload_n 0, 1) := by decide +kernel
theorem dX9_away_17 : decode cX9_away 17 = .ok (.iconst (-1), 1) := by decide +kernel
theorem dX9_away_18 : decode cX9_away 18 = .ok (.invokevirtual 107, 3) := by decide +kernel
theorem dX9_away_21 : decode cX9_away 21 = .ok (.ireturn, 1) := by decide +kernel
theorem dX9_away_22 : decode cX9_away 22 = .ok (.aload_n 0, 1) := by decide +kernel
theorem dX9_away_23 : decode cX9_away 23 = .ok (.getfield 10, 3) := by decide +kernel
theorem dX9_away_26 : decode cX9_away 26 = .ok (.getfield 147, 3) := by decide +kernel
theorem dX9_away_29 : decode cX9_away 29 = .ok (.bipush 12, 2) := by decide +kernel
theorem dX9_away_31 : decode cX9_away 31 = .ok (.iload_n 1, 1) := by decide +kernel
theorem dX9_away_32 : decode cX9_away 32 = .ok (.imul, 1) := by decide +kernel
theorem dX9_away_33 : decode cX9_away 33 = .ok (.iload_n 2, 1) := by decide +kernel
theorem dX9_away_34 : decode cX9_away 34 = .ok (.iadd, 1) := by decide +kernel
theorem dX9_away_35 : decode cX9_away 35 = .ok (.baload, 1) := by decide +kernel
theorem dX9_away_36 : decode cX9_away 36 = .ok (.ifCond .ne 10, 3) := by decide +kernel
theorem dX9_away_39 : decode cX9_away 39 = .ok (.aload_n 0, 1) := by decide +kernel
theorem dX9_away_40 : decode cX9_away 40 = .ok (.bipush (-7), 2) := by decide +kernel
theorem dX9_away_42 : decode cX9_away 42 = .ok (.invokevirtual 107, 3) := by decide +kernel
theorem dX9_away_45 : decode cX9_away 45 = .ok (.ireturn, 1) := by decide +kernel
theorem dX9_away_46 : decode cX9_away 46 = .ok (.aload_n 0, 1) := by decide +kernel
theorem dX9_away_47 : decode cX9_away 47 = .ok (.iconst 0, 1) := by decide +kernel
theorem dX9_away_48 : decode cX9_away 48 = .ok (.invokevirtual 137, 3) := by decide +kernel
theorem dX9_away_51 : decode cX9_away 51 = .ok (.aload_n 0, 1) := by decide +kernel
theorem dX9_away_52 : decode cX9_away 52 = .ok (.getfield 10, 3) := by decide +kernel
theorem dX9_away_55 : decode cX9_away 55 = .ok (.getfield 147, 3) := by decide +kernel
theorem dX9_away_58 : decode cX9_away 58 = .ok (.bipush 12, 2) := by decide +kernel
theorem dX9_away_60 : decode cX9_away 60 = .ok (.iload_n 1, 1) := by decide +kernel
theorem dX9_away_61 : decode cX9_away 61 = .ok (.imul, 1) := by decide +kernel
theorem dX9_away_62 : decode cX9_away 62 = .ok (.iload_n 2, 1) := by decide +kernel
theorem dX9_away_63 : decode cX9_away 63 = .ok (.iadd, 1) := by decide +kernel
theorem dX9_away_64 : decode cX9_away 64 = .ok (.iconst 0, 1) := by decide +kernel
theorem dX9_away_65 : decode cX9_away 65 = .ok (.bastore, 1) := by decide +kernel
theorem dX9_away_66 : decode cX9_away 66 = .ok (.aload_n 0, 1) := by decide +kernel
theorem dX9_away_67 : decode cX9_away 67 = .ok (.iload_n 1, 1) := by decide +kernel
theorem dX9_away_68 : decode cX9_away 68 = .ok (.invokevirtual 160, 3) := by decide +kernel
theorem dX9_away_71 : decode cX9_away 71 = .ok (.ireturn, 1) := by decide +kernel
set_option maxRecDepth 20000 in
theorem ggX9_isUnder_X9_isUnder : GoodIn wsX9_isUnder wsX9_isUnder := goodIn_r _ [0, 1, 2, 3] (by decide +kernel) (by decide +kernel)
set_option maxRecDepth 20000 in
theorem gX9_isUnder_X9_isUnder : GoodIn wsX9_isUnder (va_wsS RX9 163 yX9_isUnder wsX9_isUnder) := goodIn_app (goodIn_of _ (by decide +kernel)) ggX9_isUnder_X9_isUnder
theorem dX9_isUnder_0 : decode cX9_isUnder 0 = .ok (.iload_n 0, 1) := by decide +kernel
theorem dX9_isUnder_1 : decode cX9_isUnder 1 = .ok (.iload_n 1, 1) := by decide +kernel
theorem dX9_isUnder_2 : decode cX9_isUnder 2 = .ok (.if_icmp .eq 24, 3) := by decide +kernel
theorem dX9_isUnder_5 : decode cX9_isUnder 5 = .ok (.iload_n 0, 1) := by decide +kernel
theorem dX9_isUnder_6 : decode cX9_isUnder 6 = .ok (.ifCond .le 24, 3) := by decide +kernel
theorem dX9_isUnder_9 : decode cX9_isUnder 9 = .ok (.iload_n 0, 1) := by decide +kernel
theorem dX9_isUnder_10 : decode cX9_isUnder 10 = .ok (.iconst 3, 1) := by decide +kernel
theorem dX9_isUnder_11 : decode cX9_isUnder 11 = .ok (.if_icmp .ne 7, 3) := by decide +kernel
theorem dX9_isUnder_14 : decode cX9_isUnder 14 = .ok (.iconst 1, 1) := by decide +kernel
theorem dX9_isUnder_15 : decode cX9_isUnder 15 = .ok (.goto 4, 3) := by decide +kernel
theorem dX9_isUnder_18 : decode cX9_isUnder 18 = .ok (.iconst 0, 1) := by decide +kernel
theorem dX9_isUnder_19 : decode cX9_isUnder 19 = .ok (.iload_n 1, 1) := by decide +kernel
theorem dX9_isUnder_20 : decode cX9_isUnder 20 = .ok (.invokestatic 163, 3) := by decide +kernel
theorem dX9_isUnder_23 : decode cX9_isUnder 23 = .ok (.ifCond .eq 7, 3) := by decide +kernel
theorem dX9_isUnder_26 : decode cX9_isUnder 26 = .ok (.iconst 1, 1) := by decide +kernel
theorem dX9_isUnder_27 : decode cX9_isUnder 27 = .ok (.goto 4, 3) := by decide +kernel
theorem dX9_isUnder_30 : decode cX9_isUnder 30 = .ok (.iconst 0, 1) := by decide +kernel
theorem dX9_isUnder_31 : decode cX9_isUnder 31 = .ok (.ireturn, 1) := by decide +kernel
set_option maxRecDepth 20000 in
theorem ggX9_as_X9_isTask : GoodIn wsX9_as wsX9_isTask := goodIn_r _ [8, 2, 9, 10, 11, 7, 12, 21, 22, 23, 24, 25, 26, 27, 28, 29, 30, 31, 32, 33, 34, 35, 36, 37, 38, 39, 40, 41, 42, 43, 44, 45, 46, 47, 48, 49, 50, 51, 52, 53, 54, 55, 56, 57] (by decide +kernel) (by decide +kernel)
set_option maxRecDepth 20000 in
theorem gX9_as_X9_isTask : GoodIn wsX9_as (wsV RX9 151 RX9 yX9_isTask wsX9_isTask) := goodIn_app (goodIn_of _ (by decide +kernel)) ggX9_as_X9_isTask
set_option maxRecDepth 20000 in
theorem ggX9_as_X9_in : GoodIn wsX9_as wsX9_in := goodIn_r _ [12] (by decide +kernel) (by decide +kernel)
set_option maxRecDepth 20000 in
theorem gX9_as_X9_in : GoodIn wsX9_as (va_wsS RX9 97 yX9_in wsX9_in) := goodIn_app (goodIn_of _ (by decide +kernel)) ggX9_as_X9_in
set_option maxRecDepth 20000 in
theorem ggX9_as_X9_found : GoodIn wsX9_as wsX9_found := goodIn_r _ [16, 17, 21, 22, 23, 24, 25, 26, 27, 28, 29, 30, 31, 32, 33, 34, 35, 36, 37, 38, 39, 40, 41, 42, 43, 44, 45, 46, 47, 48, 49, 50, 51, 52] (by decide +kernel) (by decide +kernel)
set_option maxRecDepth 20000 in
theorem gX9_as_X9_found : GoodIn wsX9_as (wsV RX9 107 RX9 yX9_found wsX9_found) := goodIn_app (goodIn_of _ (by decide +kernel)) ggX9_as_X9_found
set_option maxRecDepth 20000 in
theorem ggX9_as_X9_isUnder : GoodIn wsX9_as wsX9_isUnder := goodIn_r _ [20, 18, 19, 7] (by decide +kernel) (by decide +kernel)
set_option maxRecDepth 20000 in
theorem gX9_as_X9_isUnder : GoodIn wsX9_as (va_wsS RX9 163 yX9_isUnder wsX9_isUnder) := goodIn_app (goodIn_of _ (by decide +kernel)) ggX9_as_X9_isUnder
theorem dX9_as_0 : decode cX9_as 0 = .ok (.aload_n 0, 1) := by decide +kernel
theorem dX9_as_1 : decode cX9_as 1 = .ok (.iload_n 1, 1) := by decide +kernel
theorem dX9_as_2 : decode cX9_as 2 = .ok (.invokevirtual 151, 3) := by decide +kernel
theorem dX9_as_5 : decode cX9_as 5 = .ok (.ifCond .eq 15, 3) := by decide +kernel
theorem dX9_as_8 : decode cX9_as 8 = .ok (.iload_n 2, 1) := by decide +kernel
theorem dX9_as_9 : decode cX9_as 9 = .ok (.i2l, 1) := by decide +kernel
theorem dX9_as_10 : decode cX9_as 10 = .ok (.lconst 0, 1) := by decide +kernel
theorem dX9_as_11 : decode cX9_as 11 = .ok (.ldc2_w 128, 3) := by decide +kernel
theorem dX9_as_14 : decode cX9_as 14 = .ok (.invokestatic 97, 3) := by decide +kernel
theorem dX9_as_17 : decode cX9_as 17 = .ok (.ifCond .ne 9, 3) := by decide +kernel
theorem dX9_as_20 : decode cX9_as 20 = .ok (.aload_n 0, 1) := by decide +kernel
theorem dX9_as_21 : decode cX9_as 21 = .ok (.iconst (-1), 1) := by decide +kernel
theorem dX9_as_22 : decode cX9_as 22 = .ok (.invokevirtual 107, 3) := by decide +kernel
theorem dX9_as_25 : decode cX9_as 25 = .ok (.ireturn, 1) := by decide +kernel
theorem dX9_as_26 : decode cX9_as 26 = .ok (.aload_n 0, 1) := by decide +kernel
theorem dX9_as_27 : decode cX9_as 27 = .ok (.getfield 10, 3) := by decide +kernel
theorem dX9_as_30 : decode cX9_as 30 = .ok (.getfield 141, 3) := by decide +kernel
theorem dX9_as_33 : decode cX9_as 33 = .ok (.iload_n 1, 1) := by decide +kernel
theorem dX9_as_34 : decode cX9_as 34 = .ok (.iaload, 1) := by decide +kernel
theorem dX9_as_35 : decode cX9_as 35 = .ok (.iload_n 2, 1) := by decide +kernel
theorem dX9_as_36 : decode cX9_as 36 = .ok (.invokestatic 163, 3) := by decide +kernel
theorem dX9_as_39 : decode cX9_as 39 = .ok (.ifCond .eq 7, 3) := by decide +kernel
theorem dX9_as_42 : decode cX9_as 42 = .ok (.iload_n 1, 1) := by decide +kernel
theorem dX9_as_43 : decode cX9_as 43 = .ok (.goto 9, 3) := by decide +kernel
theorem dX9_as_46 : decode cX9_as 46 = .ok (.aload_n 0, 1) := by decide +kernel
theorem dX9_as_47 : decode cX9_as 47 = .ok (.bipush (-4), 2) := by decide +kernel
theorem dX9_as_49 : decode cX9_as 49 = .ok (.invokevirtual 107, 3) := by decide +kernel
theorem dX9_as_52 : decode cX9_as 52 = .ok (.ireturn, 1) := by decide +kernel
theorem dX9_number_0 : decode cX9_number 0 = .ok (.aload_n 0, 1) := by decide +kernel
theorem dX9_number_1 : decode cX9_number 1 = .ok (.getfield 10, 3) := by decide +kernel
theorem dX9_number_4 : decode cX9_number 4 = .ok (.getfield 144, 3) := by decide +kernel
theorem dX9_number_7 : decode cX9_number 7 = .ok (.iconst 5, 1) := by decide +kernel
theorem dX9_number_8 : decode cX9_number 8 = .ok (.iload_n 1, 1) := by decide +kernel
theorem dX9_number_9 : decode cX9_number 9 = .ok (.imul, 1) := by decide +kernel
theorem dX9_number_10 : decode cX9_number 10 = .ok (.iload_n 2, 1) := by decide +kernel
theorem dX9_number_11 : decode cX9_number 11 = .ok (.iadd, 1) := by decide +kernel
theorem dX9_number_12 : decode cX9_number 12 = .ok (.iaload, 1) := by decide +kernel
theorem dX9_number_13 : decode cX9_number 13 = .ok (.ireturn, 1) := by decide +kernel
set_option maxRecDepth 20000 in
theorem ggX9_ask_X9_isTask : GoodIn wsX9_ask wsX9_isTask := goodIn_r _ [8, 2, 9, 10, 11, 7, 12, 23, 24, 25, 26, 27, 28, 29, 30, 31, 32, 33, 34, 35, 36, 37, 38, 39, 40, 41, 42, 43, 44, 45, 46, 47, 48, 49, 50, 51, 52, 53, 54, 55, 56, 57, 58, 59] (by decide +kernel) (by decide +kernel)
set_option maxRecDepth 20000 in
theorem gX9_ask_X9_isTask : GoodIn wsX9_ask (wsV RX9 151 RX9 yX9_isTask wsX9_isTask) := goodIn_app (goodIn_of _ (by decide +kernel)) ggX9_ask_X9_isTask
set_option maxRecDepth 20000 in
theorem ggX9_ask_X9_in : GoodIn wsX9_ask wsX9_in := goodIn_r _ [12] (by decide +kernel) (by decide +kernel)
set_option maxRecDepth 20000 in
theorem gX9_ask_X9_in : GoodIn wsX9_ask (va_wsS RX9 97 yX9_in wsX9_in) := goodIn_app (goodIn_of _ (by decide +kernel)) ggX9_ask_X9_in
set_option maxRecDepth 20000 in
theorem ggX9_ask_X9_found : GoodIn wsX9_ask wsX9_found := goodIn_r _ [16, 17, 23, 24, 25, 26, 27, 28, 29, 30, 31, 32, 33, 34, 35, 36, 37, 38, 39, 40, 41, 42, 43, 44, 45, 46, 47, 48, 49, 50, 51, 52, 53, 54] (by decide +kernel) (by decide +kernel)
set_option maxRecDepth 20000 in
theorem gX9_ask_X9_found : GoodIn wsX9_ask (wsV RX9 107 RX9 yX9_found wsX9_found) := goodIn_app (goodIn_of _ (by decide +kernel)) ggX9_ask_X9_found
set_option maxRecDepth 20000 in
theorem ggX9_ask_X9_number : GoodIn wsX9_ask wsX9_number := goodIn_r _ [21, 2, 22, 23, 24, 25, 26, 27, 28, 29, 30, 31, 32, 33, 34, 35, 36, 37, 38, 39, 40, 41, 42, 43, 44, 45, 46, 47, 48, 49, 50, 51, 52, 53, 54, 55, 56, 57, 58, 59] (by decide +kernel) (by decide +kernel)
set_option maxRecDepth 20000 in
theorem gX9_ask_X9_number : GoodIn wsX9_ask (wsV RX9 169 RX9 yX9_number wsX9_number) := goodIn_app (goodIn_of _ (by decide +kernel)) ggX9_ask_X9_number
theorem dX9_ask_0 : decode cX9_ask 0 = .ok (.aload_n 0, 1) := by decide +kernel
theorem dX9_ask_1 : decode cX9_ask 1 = .ok (.iload_n 1, 1) := by decide +kernel
theorem dX9_ask_2 : decode cX9_ask 2 = .ok (.invokevirtual 151, 3) := by decide +kernel
theorem dX9_ask_5 : decode cX9_ask 5 = .ok (.ifCond .eq 15, 3) := by decide +kernel
theorem dX9_ask_8 : decode cX9_ask 8 = .ok (.iload_n 2, 1) := by decide +kernel
theorem dX9_ask_9 : decode cX9_ask 9 = .ok (.i2l, 1) := by decide +kernel
theorem dX9_ask_10 : decode cX9_ask 10 = .ok (.lconst 0, 1) := by decide +kernel
theorem dX9_ask_11 : decode cX9_ask 11 = .ok (.ldc2_w 167, 3) := by decide +kernel
theorem dX9_ask_14 : decode cX9_ask 14 = .ok (.invokestatic 97, 3) := by decide +kernel
theorem dX9_ask_17 : decode cX9_ask 17 = .ok (.ifCond .ne 9, 3) := by decide +kernel
theorem dX9_ask_20 : decode cX9_ask 20 = .ok (.aload_n 0, 1) := by decide +kernel
theorem dX9_ask_21 : decode cX9_ask 21 = .ok (.iconst (-1), 1) := by decide +kernel
theorem dX9_ask_22 : decode cX9_ask 22 = .ok (.invokevirtual 107, 3) := by decide +kernel
theorem dX9_ask_25 : decode cX9_ask 25 = .ok (.ireturn, 1) := by decide +kernel
theorem dX9_ask_26 : decode cX9_ask 26 = .ok (.iload_n 2, 1) := by decide +kernel
theorem dX9_ask_27 : decode cX9_ask 27 = .ok (.ifCond .ne 15, 3) := by decide +kernel
theorem dX9_ask_30 : decode cX9_ask 30 = .ok (.aload_n 0, 1) := by decide +kernel
theorem dX9_ask_31 : decode cX9_ask 31 = .ok (.getfield 10, 3) := by decide +kernel
theorem dX9_ask_34 : decode cX9_ask 34 = .ok (.getfield 141, 3) := by decide +kernel
theorem dX9_ask_37 : decode cX9_ask 37 = .ok (.iload_n 1, 1) := by decide +kernel
theorem dX9_ask_38 : decode cX9_ask 38 = .ok (.iaload, 1) := by decide +kernel
theorem dX9_ask_39 : decode cX9_ask 39 = .ok (.goto 11, 3) := by decide +kernel
theorem dX9_ask_42 : decode cX9_ask 42 = .ok (.aload_n 0, 1) := by decide +kernel
theorem dX9_ask_43 : decode cX9_ask 43 = .ok (.iload_n 1, 1) := by decide +kernel
theorem dX9_ask_44 : decode cX9_ask 44 = .ok (.iload_n 2, 1) := by decide +kernel
theorem dX9_ask_45 : decode cX9_ask 45 = .ok (.iconst 1, 1) := by decide +kernel
theorem dX9_ask_46 : decode cX9_ask 46 = .ok (.isub, 1) := by decide +kernel
theorem dX9_ask_47 : decode cX9_ask 47 = .ok (.invokevirtual 169, 3) := by decide +kernel
theorem dX9_ask_50 : decode cX9_ask 50 = .ok (.ireturn, 1) := by decide +kernel
set_option maxRecDepth 20000 in
theorem ggX9_follows_X9_isTask : GoodIn wsX9_follows wsX9_isTask := goodIn_r _ [7, 1, 8, 9, 10, 6, 11, 21, 22, 23, 24, 25, 26, 27, 28, 29, 30, 31, 32, 33, 34, 35, 36, 37, 38, 39, 40, 41, 42, 43, 44, 45, 46, 47, 48, 49, 50, 51, 52, 53, 54, 55, 56, 57] (by decide +kernel) (by decide +kernel)
set_option maxRecDepth 20000 in
theorem gX9_follows_X9_isTask : GoodIn wsX9_follows (wsV RX9 151 RX9 yX9_isTask wsX9_isTask) := goodIn_app (goodIn_of _ (by decide +kernel)) ggX9_follows_X9_isTask
set_option maxRecDepth 20000 in
theorem ggX9_follows_X9_found : GoodIn wsX9_follows wsX9_found := goodIn_r _ [15, 16, 21, 22, 23, 24, 25, 26, 27, 28, 29, 30, 31, 32, 33, 34, 35, 36, 37, 38, 39, 40, 41, 42, 43, 44, 45, 46, 47, 48, 49, 50, 51, 52] (by decide +kernel) (by decide +kernel)
set_option maxRecDepth 20000 in
theorem gX9_follows_X9_found : GoodIn wsX9_follows (wsV RX9 107 RX9 yX9_found wsX9_found) := goodIn_app (goodIn_of _ (by decide +kernel)) ggX9_follows_X9_found
set_option maxRecDepth 20000 in
theorem ggX9_follows_X9_all : GoodIn wsX9_follows wsX9_all := goodIn_r _ [20, 1, 8, 2, 21, 22, 23, 24, 25, 26, 27, 28, 29, 30, 31, 32, 33, 34, 35, 36, 37, 38, 39, 40, 41, 42, 43, 44, 45, 46, 47, 48, 49, 50, 51, 52, 53, 54, 55, 56, 57] (by decide +kernel) (by decide +kernel)
set_option maxRecDepth 20000 in
theorem gX9_follows_X9_all : GoodIn wsX9_follows (wsV RX9 154 RX9 yX9_all wsX9_all) := goodIn_app (goodIn_of _ (by decide +kernel)) ggX9_follows_X9_all
theorem dX9_follows_0 : decode cX9_follows 0 = .ok (.aload_n 0, 1) := by decide +kernel
theorem dX9_follows_1 : decode cX9_follows 1 = .ok (.iload_n 1, 1) := by decide +kernel
theorem dX9_follows_2 : decode cX9_follows 2 = .ok (.invokevirtual 151, 3) := by decide +kernel
theorem dX9_follows_5 : decode cX9_follows 5 = .ok (.ifCond .eq 11, 3) := by decide +kernel
theorem dX9_follows_8 : decode cX9_follows 8 = .ok (.aload_n 0, 1) := by decide +kernel
theorem dX9_follows_9 : decode cX9_follows 9 = .ok (.iload_n 2, 1) := by decide +kernel
theorem dX9_follows_10 : decode cX9_follows 10 = .ok (.invokevirtual 151, 3) := by decide +kernel
theorem dX9_follows_13 : decode cX9_follows 13 = .ok (.ifCond .ne 9, 3) := by decide +kernel
theorem dX9_follows_16 : decode cX9_follows 16 = .ok (.aload_n 0, 1) := by decide +kernel
theorem dX9_follows_17 : decode cX9_follows 17 = .ok (.iconst (-1), 1) := by decide +kernel
theorem dX9_follows_18 : decode cX9_follows 18 = .ok (.invokevirtual 107, 3) := by decide +kernel
theorem dX9_follows_21 : decode cX9_follows 21 = .ok (.ireturn, 1) := by decide +kernel
theorem dX9_follows_22 : decode cX9_follows 22 = .ok (.aload_n 0, 1) := by decide +kernel
theorem dX9_follows_23 : decode cX9_follows 23 = .ok (.getfield 10, 3) := by decide +kernel
theorem dX9_follows_26 : decode cX9_follows 26 = .ok (.getfield 147, 3) := by decide +kernel
theorem dX9_follows_29 : decode cX9_follows 29 = .ok (.bipush 12, 2) := by decide +kernel
theorem dX9_follows_31 : decode cX9_follows 31 = .ok (.iload_n 1, 1) := by decide +kernel
theorem dX9_follows_32 : decode cX9_follows 32 = .ok (.imul, 1) := by decide +kernel
theorem dX9_follows_33 : decode cX9_follows 33 = .ok (.iload_n 2, 1) := by decide +kernel
theorem dX9_follows_34 : decode cX9_follows 34 = .ok (.iadd, 1) := by decide +kernel
theorem dX9_follows_35 : decode cX9_follows 35 = .ok (.baload, 1) := by decide +kernel
theorem dX9_follows_36 : decode cX9_follows 36 = .ok (.ifCond .eq 7, 3) := by decide +kernel
theorem dX9_follows_39 : decode cX9_follows 39 = .ok (.iconst 1, 1) := by decide +kernel
theorem dX9_follows_40 : decode cX9_follows 40 = .ok (.goto 21, 3) := by decide +kernel
theorem dX9_follows_43 : decode cX9_follows 43 = .ok (.aload_n 0, 1) := by decide +kernel
theorem dX9_follows_44 : decode cX9_follows 44 = .ok (.iload_n 1, 1) := by decide +kernel
theorem dX9_follows_45 : decode cX9_follows 45 = .ok (.invokevirtual 154, 3) := by decide +kernel
theorem dX9_follows_48 : decode cX9_follows 48 = .ok (.iload_n 2, 1) := by decide +kernel
theorem dX9_follows_49 : decode cX9_follows 49 = .ok (.ishr, 1) := by decide +kernel
theorem dX9_follows_50 : decode cX9_follows 50 = .ok (.iconst 1, 1) := by decide +kernel
theorem dX9_follows_51 : decode cX9_follows 51 = .ok (.iand, 1) := by decide +kernel
theorem dX9_follows_52 : decode cX9_follows 52 = .ok (.iconst 1, 1) := by decide +kernel
theorem dX9_follows_53 : decode cX9_follows 53 = .ok (.if_icmp .ne 7, 3) := by decide +kernel
theorem dX9_follows_56 : decode cX9_follows 56 = .ok (.iconst 2, 1) := by decide +kernel
theorem dX9_follows_57 : decode cX9_follows 57 = .ok (.goto 4, 3) := by decide +kernel
theorem dX9_follows_60 : decode cX9_follows 60 = .ok (.iconst 0, 1) := by decide +kernel
theorem dX9_follows_61 : decode cX9_follows 61 = .ok (.ireturn, 1) := by decide +kernel
set_option maxRecDepth 20000 in
theorem ggX9_sort_X9_isReady : GoodIn wsX9_sort wsX9_isReady := goodIn_r _ [8, 1, 2, 9, 10, 11, 12, 13, 14, 15, 16, 17, 18, 19, 20, 21, 22, 23, 24, 25, 26, 27, 28, 29, 30, 31, 32, 33, 34, 35, 36, 37, 38, 39, 40, 41, 42, 43, 44, 45, 46] (by decide +kernel) (by decide +kernel)
set_option maxRecDepth 20000 in
theorem gX9_sort_X9_isReady : GoodIn wsX9_sort (wsV RX9 173 RX9 yX9_isReady wsX9_isReady) := goodIn_app (goodIn_of _ (by decide +kernel)) ggX9_sort_X9_isReady
theorem dX9_sort_0 : decode cX9_sort 0 = .ok (.iconst 0, 1) := by decide +kernel
theorem dX9_sort_1 : decode cX9_sort 1 = .ok (.istore_n 1, 1) := by decide +kernel
theorem dX9_sort_2 : decode cX9_sort 2 = .ok (.iconst 0, 1) := by decide +kernel
theorem dX9_sort_3 : decode cX9_sort 3 = .ok (.istore_n 2, 1) := by decide +kernel
theorem dX9_sort_4 : decode cX9_sort 4 = .ok (.iload_n 2, 1) := by decide +kernel
theorem dX9_sort_5 : decode cX9_sort 5 = .ok (.aload_n 0, 1) := by decide +kernel
theorem dX9_sort_6 : decode cX9_sort 6 = .ok (.getfield 10, 3) := by decide +kernel
theorem dX9_sort_9 : decode cX9_sort 9 = .ok (.getfield 94, 3) := by decide +kernel
theorem dX9_sort_12 : decode cX9_sort 12 = .ok (.if_icmp .ge 48, 3) := by decide +kernel
theorem dX9_sort_15 : decode cX9_sort 15 = .ok (.iconst 0, 1) := by decide +kernel
theorem dX9_sort_16 : decode cX9_sort 16 = .ok (.istore_n 3, 1) := by decide +kernel
theorem dX9_sort_17 : decode cX9_sort 17 = .ok (.iload_n 1, 1) := by decide +kernel
theorem dX9_sort_18 : decode cX9_sort 18 = .ok (.iload_n 3, 1) := by decide +kernel
theorem dX9_sort_19 : decode cX9_sort 19 = .ok (.ishr, 1) := by decide +kernel
theorem dX9_sort_20 : decode cX9_sort 20 = .ok (.iconst 1, 1) := by decide +kernel
theorem dX9_sort_21 : decode cX9_sort 21 = .ok (.iand, 1) := by decide +kernel
theorem dX9_sort_22 : decode cX9_sort 22 = .ok (.iconst 1, 1) := by decide +kernel
theorem dX9_sort_23 : decode cX9_sort 23 = .ok (.if_icmp .eq 12, 3) := by decide +kernel
theorem dX9_sort_26 : decode cX9_sort 26 = .ok (.aload_n 0, 1) := by decide +kernel
theorem dX9_sort_27 : decode cX9_sort 27 = .ok (.iload_n 3, 1) := by decide +kernel
theorem dX9_sort_28 : decode cX9_sort 28 = .ok (.iload_n 1, 1) := by decide +kernel
theorem dX9_sort_29 : decode cX9_sort 29 = .ok (.invokevirtual 173, 3) := by decide +kernel
theorem dX9_sort_32 : decode cX9_sort 32 = .ok (.ifCond .ne 9, 3) := by decide +kernel
theorem dX9_sort_35 : decode cX9_sort 35 = .ok (.iinc 3 1, 3) := by decide +kernel
theorem dX9_sort_38 : decode cX9_sort 38 = .ok (.goto (-21), 3) := by decide +kernel
theorem dX9_sort_41 : decode cX9_sort 41 = .ok (.aload_n 0, 1) := by decide +kernel
theorem dX9_sort_42 : decode cX9_sort 42 = .ok (.getfield 48, 3) := by decide +kernel
theorem dX9_sort_45 : decode cX9_sort 45 = .ok (.iload_n 2, 1) := by decide +kernel
theorem dX9_sort_46 : decode cX9_sort 46 = .ok (.iload_n 3, 1) := by decide +kernel
theorem dX9_sort_47 : decode cX9_sort 47 = .ok (.iastore, 1) := by decide +kernel
theorem dX9_sort_48 : decode cX9_sort 48 = .ok (.iload_n 1, 1) := by decide +kernel
theorem dX9_sort_49 : decode cX9_sort 49 = .ok (.iconst 1, 1) := by decide +kernel
theorem dX9_sort_50 : decode cX9_sort 50 = .ok (.iload_n 3, 1) := by decide +kernel
theorem dX9_sort_51 : decode cX9_sort 51 = .ok (.ishl, 1) := by decide +kernel
theorem dX9_sort_52 : decode cX9_sort 52 = .ok (.ior, 1) := by decide +kernel
theorem dX9_sort_53 : decode cX9_sort 53 = .ok (.istore_n 1, 1) := by decide +kernel
theorem dX9_sort_54 : decode cX9_sort 54 = .ok (.iinc 2 1, 3) := by decide +kernel
theorem dX9_sort_57 : decode cX9_sort 57 = .ok (.goto (-53), 3) := by decide +kernel
theorem dX9_sort_60 : decode cX9_sort 60 = .ok (.return_, 1) := by decide +kernel
theorem dX9_isReady_0 : decode cX9_isReady 0 = .ok (.iconst 1, 1) := by decide +kernel
theorem dX9_isReady_1 : decode cX9_isReady 1 = .ok (.istore_n 3, 1) := by decide +kernel
theorem dX9_isReady_2 : decode cX9_isReady 2 = .ok (.iconst 0, 1) := by decide +kernel
theorem dX9_isReady_3 : decode cX9_isReady 3 = .ok (.istore 4, 2) := by decide +kernel
theorem dX9_isReady_5 : decode cX9_isReady 5 = .ok (.iload 4, 2) := by decide +kernel
theorem dX9_isReady_7 : decode cX9_isReady 7 = .ok (.aload_n 0, 1) := by decide +kernel
theorem dX9_isReady_8 : decode cX9_isReady 8 = .ok (.getfield 10, 3) := by decide +kernel
theorem dX9_isReady_11 : decode cX9_isReady 11 = .ok (.getfield 94, 3) := by decide +kernel
theorem dX9_isReady_14 : decode cX9_isReady 14 = .ok (.if_icmp .ge 47, 3) := by decide +kernel
theorem dX9_isReady_17 : decode cX9_isReady 17 = .ok (.iload_n 3, 1) := by decide +kernel
theorem dX9_isReady_18 : decode cX9_isReady 18 = .ok (.ifCond .eq 35, 3) := by decide +kernel
theorem dX9_isReady_21 : decode cX9_isReady 21 = .ok (.aload_n 0, 1) := by decide +kernel
theorem dX9_isReady_22 : decode cX9_isReady 22 = .ok (.getfield 10, 3) := by decide +kernel
theorem dX9_isReady_25 : decode cX9_isReady 25 = .ok (.getfield 147, 3) := by decide +kernel
theorem dX9_isReady_28 : decode cX9_isReady 28 = .ok (.bipush 12, 2) := by decide +kernel
theorem dX9_isReady_30 : decode cX9_isReady 30 = .ok (.iload_n 1, 1) := by decide +kernel
theorem dX9_isReady_31 : decode cX9_isReady 31 = .ok (.imul, 1) := by decide +kernel
theorem dX9_isReady_32 : decode cX9_isReady 32 = .ok (.iload 4, 2) := by decide +kernel
theorem dX9_isReady_34 : decode cX9_isReady 34 = .ok (.iadd, 1) := by decide +kernel
theorem dX9_isReady_35 : decode cX9_isReady 35 = .ok (.baload, 1) := by decide +kernel
theorem dX9_isReady_36 : decode cX9_isReady 36 = .ok (.ifCond .eq 13, 3) := by decide +kernel
theorem dX9_isReady_39 : decode cX9_isReady 39 = .ok (.iload_n 2, 1) := by decide +kernel
theorem dX9_isReady_40 : decode cX9_isReady 40 = .ok (.iload 4, 2) := by decide +kernel
theorem dX9_isReady_42 : decode cX9_isReady 42 = .ok (.ishr, 1) := by decide +kernel
theorem dX9_isReady_43 : decode cX9_isReady 43 = .ok (.iconst 1, 1) := by decide +kernel
theorem dX9_isReady_44 : decode cX9_isReady 44 = .ok (.iand, 1) := by decide +kernel
theorem dX9_isReady_45 : decode cX9_isReady 45 = .ok (.iconst 1, 1) := by decide +kernel
theorem dX9_isReady_46 : decode cX9_isReady 46 = .ok (.if_icmp .ne 7, 3) := by decide +kernel
theorem dX9_isReady_49 : decode cX9_isReady 49 = .ok (.iconst 1, 1) := by decide +kernel
theorem dX9_isReady_50 : decode cX9_isReady 50 = .ok (.goto 4, 3) := by decide +kernel
theorem dX9_isReady_53 : decode cX9_isReady 53 = .ok (.iconst 0, 1) := by decide +kernel
theorem dX9_isReady_54 : decode cX9_isReady 54 = .ok (.istore_n 3, 1) := by decide +kernel
theorem dX9_isReady_55 : decode cX9_isReady 55 = .ok (.iinc 4 1, 3) := by decide +kernel
theorem dX9_isReady_58 : decode cX9_isReady 58 = .ok (.goto (-53), 3) := by decide +kernel
theorem dX9_isReady_61 : decode cX9_isReady 61 = .ok (.iload_n 3, 1) := by decide +kernel
theorem dX9_isReady_62 : decode cX9_isReady 62 = .ok (.ireturn, 1) := by decide +kernel
set_option maxRecDepth 20000 in
theorem ggX9_order_X9_in : GoodIn wsX9_order wsX9_in := goodIn_r _ [7] (by decide +kernel) (by decide +kernel)
set_option maxRecDepth 20000 in
theorem gX9_order_X9_in : GoodIn wsX9_order (va_wsS RX9 97 yX9_in wsX9_in) := goodIn_app (goodIn_of _ (by decide +kernel)) ggX9_order_X9_in
set_option maxRecDepth 20000 in
theorem ggX9_order_X9_found : GoodIn wsX9_order wsX9_found := goodIn_r _ [11, 12, 22, 23, 24, 25, 26, 27, 28, 29, 30, 31, 32, 33, 34, 35, 36, 37, 38, 39, 40, 41, 42, 43, 44, 45, 46, 47, 48, 49, 50, 51, 52, 53] (by decide +kernel) (by decide +kernel)
set_option maxRecDepth 20000 in
theorem gX9_order_X9_found : GoodIn wsX9_order (wsV RX9 107 RX9 yX9_found wsX9_found) := goodIn_app (goodIn_of _ (by decide +kernel)) ggX9_order_X9_found
set_option maxRecDepth 20000 in
theorem ggX9_order_X9_sort : GoodIn wsX9_order wsX9_sort := goodIn_r _ [16, 1, 2, 3, 17, 18, 19, 6, 20, 21, 22, 23, 24, 25, 26, 27, 28, 29, 30, 31, 32, 33, 34, 35, 36, 37, 38, 39, 40, 41, 42, 43, 44, 45, 46, 47, 48, 49, 50, 51, 52, 53, 54, 55, 56, 57, 58] (by decide +kernel) (by decide +kernel)
set_option maxRecDepth 20000 in
theorem gX9_order_X9_sort : GoodIn wsX9_order (wsV RX9 176 RX9 yX9_sort wsX9_sort) := goodIn_app (goodIn_of _ (by decide +kernel)) ggX9_order_X9_sort
theorem dX9_order_0 : decode cX9_order 0 = .ok (.iload_n 1, 1) := by decide +kernel
theorem dX9_order_1 : decode cX9_order 1 = .ok (.i2l, 1) := by decide +kernel
theorem dX9_order_2 : decode cX9_order 2 = .ok (.lconst 0, 1) := by decide +kernel
theorem dX9_order_3 : decode cX9_order 3 = .ok (.aload_n 0, 1) := by decide +kernel
theorem dX9_order_4 : decode cX9_order 4 = .ok (.getfield 10, 3) := by decide +kernel
theorem dX9_order_7 : decode cX9_order 7 = .ok (.getfield 94, 3) := by decide +kernel
theorem dX9_order_10 : decode cX9_order 10 = .ok (.iconst 1, 1) := by decide +kernel
theorem dX9_order_11 : decode cX9_order 11 = .ok (.isub, 1) := by decide +kernel
theorem dX9_order_12 : decode cX9_order 12 = .ok (.i2l, 1) := by decide +kernel
theorem dX9_order_13 : decode cX9_order 13 = .ok (.invokestatic 97, 3) := by decide +kernel
theorem dX9_order_16 : decode cX9_order 16 = .ok (.ifCond .ne 10, 3) := by decide +kernel
theorem dX9_order_19 : decode cX9_order 19 = .ok (.aload_n 0, 1) := by decide +kernel
theorem dX9_order_20 : decode cX9_order 20 = .ok (.bipush (-7), 2) := by decide +kernel
theorem dX9_order_22 : decode cX9_order 22 = .ok (.invokevirtual 107, 3) := by decide +kernel
theorem dX9_order_25 : decode cX9_order 25 = .ok (.ireturn, 1) := by decide +kernel
theorem dX9_order_26 : decode cX9_order 26 = .ok (.aload_n 0, 1) := by decide +kernel
theorem dX9_order_27 : decode cX9_order 27 = .ok (.invokevirtual 176, 3) := by decide +kernel
theorem dX9_order_30 : decode cX9_order 30 = .ok (.aload_n 0, 1) := by decide +kernel
theorem dX9_order_31 : decode cX9_order 31 = .ok (.getfield 48, 3) := by decide +kernel
theorem dX9_order_34 : decode cX9_order 34 = .ok (.iload_n 1, 1) := by decide +kernel
theorem dX9_order_35 : decode cX9_order 35 = .ok (.iaload, 1) := by decide +kernel
theorem dX9_order_36 : decode cX9_order 36 = .ok (.ireturn, 1) := by decide +kernel
set_option maxRecDepth 20000 in
theorem ggX9_span_X9_isTask : GoodIn wsX9_span wsX9_isTask := goodIn_r _ [7, 1, 8, 9, 10, 6, 11, 45, 46, 47, 48, 49, 50, 51, 52, 53, 54, 55, 56, 57, 58, 59, 60, 61, 62, 63, 64, 65, 66, 67, 68, 69, 70, 71, 72, 73, 74, 75, 76, 77, 78, 79, 80, 81] (by decide +kernel) (by decide +kernel)
set_option maxRecDepth 20000 in
theorem gX9_span_X9_isTask : GoodIn wsX9_span (wsV RX9 151 RX9 yX9_isTask wsX9_isTask) := goodIn_app (goodIn_of _ (by decide +kernel)) ggX9_span_X9_isTask
set_option maxRecDepth 20000 in
theorem ggX9_span_X9_number : GoodIn wsX9_span wsX9_number := goodIn_r _ [15, 1, 16, 45, 46, 47, 48, 49, 50, 51, 52, 53, 54, 55, 56, 57, 58, 59, 60, 61, 62, 63, 64, 65, 66, 67, 68, 69, 70, 71, 72, 73, 74, 75, 76, 77, 78, 79, 80, 81] (by decide +kernel) (by decide +kernel)
set_option maxRecDepth 20000 in
theorem gX9_span_X9_number : GoodIn wsX9_span (wsV RX9 169 RX9 yX9_number wsX9_number) := goodIn_app (goodIn_of _ (by decide +kernel)) ggX9_span_X9_number
set_option maxRecDepth 20000 in
theorem ggX9_span_X9_in : GoodIn wsX9_span wsX9_in := goodIn_r _ [11] (by decide +kernel) (by decide +kernel)
set_option maxRecDepth 20000 in
theorem gX9_span_X9_in : GoodIn wsX9_span (va_wsS RX9 97 yX9_in wsX9_in) := goodIn_app (goodIn_of _ (by decide +kernel)) ggX9_span_X9_in
set_option maxRecDepth 20000 in
theorem ggX9_span_X9_found : GoodIn wsX9_span wsX9_found := goodIn_r _ [20, 21, 45, 46, 47, 48, 49, 50, 51, 52, 53, 54, 55, 56, 57, 58, 59, 60, 61, 62, 63, 64, 65, 66, 67, 68, 69, 70, 71, 72, 73, 74, 75, 76] (by decide +kernel) (by decide +kernel)
set_option maxRecDepth 20000 in
theorem gX9_span_X9_found : GoodIn wsX9_span (wsV RX9 107 RX9 yX9_found wsX9_found) := goodIn_app (goodIn_of _ (by decide +kernel)) ggX9_span_X9_found
set_option maxRecDepth 20000 in
theorem ggX9_span_X9_remember : GoodIn wsX9_span wsX9_remember := goodIn_r _ [25, 26, 27, 28, 1, 29, 30, 31, 32, 33, 34, 35, 36, 37, 38, 39, 40, 41, 6, 42, 43, 44, 45, 46, 47, 48, 49, 50, 51, 52, 53, 54, 55, 56, 57, 58, 59, 60, 61, 62, 63, 64, 65, 66, 67, 68, 69, 70, 71, 72, 73, 74, 75, 76, 77, 78, 79, 80, 81] (by decide +kernel) (by decide +kernel)
set_option maxRecDepth 20000 in
theorem gX9_span_X9_remember : GoodIn wsX9_span (wsV RX9 137 RX9 yX9_remember wsX9_remember) := goodIn_app (goodIn_of _ (by decide +kernel)) ggX9_span_X9_remember
theorem dX9_span_0 : decode cX9_span 0 = .ok (.aload_n 0, 1) := by decide +kernel
theorem dX9_span_1 : decode cX9_span 1 = .ok (.iload_n 1, 1) := by decide +kernel
theorem dX9_span_2 : decode cX9_span 2 = .ok (.invokevirtual 151, 3) := by decide +kernel
theorem dX9_span_5 : decode cX9_span 5 = .ok (.ifCond .eq 25, 3) := by decide +kernel
theorem dX9_span_8 : decode cX9_span 8 = .ok (.iload_n 2, 1) := by decide +kernel
theorem dX9_span_9 : decode cX9_span 9 = .ok (.i2l, 1) := by decide +kernel
theorem dX9_span_10 : decode cX9_span 10 = .ok (.aload_n 0, 1) := by decide +kernel
theorem dX9_span_11 : decode cX9_span 11 = .ok (.iload_n 1, 1) := by decide +kernel
theorem dX9_span_12 : decode cX9_span 12 = .ok (.iconst 1, 1) := by decide +kernel
theorem dX9_span_13 : decode cX9_span 13 = .ok (.invokevirtual 169, 3) := by decide +kernel
theorem dX9_span_16 : decode cX9_span 16 = .ok (.i2l, 1) := by decide +kernel
theorem dX9_span_17 : decode cX9_span 17 = .ok (.aload_n 0, 1) := by decide +kernel
theorem dX9_span_18 : decode cX9_span 18 = .ok (.iload_n 1, 1) := by decide +kernel
theorem dX9_span_19 : decode cX9_span 19 = .ok (.iconst 0, 1) := by decide +kernel
theorem dX9_span_20 : decode cX9_span 20 = .ok (.invokevirtual 169, 3) := by decide +kernel
theorem dX9_span_23 : decode cX9_span 23 = .ok (.i2l, 1) := by decide +kernel
theorem dX9_span_24 : decode cX9_span 24 = .ok (.invokestatic 97, 3) := by decide +kernel
theorem dX9_span_27 : decode cX9_span 27 = .ok (.ifCond .ne 9, 3) := by decide +kernel
theorem dX9_span_30 : decode cX9_span 30 = .ok (.aload_n 0, 1) := by decide +kernel
theorem dX9_span_31 : decode cX9_span 31 = .ok (.iconst (-1), 1) := by decide +kernel
theorem dX9_span_32 : decode cX9_span 32 = .ok (.invokevirtual 107, 3) := by decide +kernel
theorem dX9_span_35 : decode cX9_span 35 = .ok (.ireturn, 1) := by decide +kernel
theorem dX9_span_36 : decode cX9_span 36 = .ok (.aload_n 0, 1) := by decide +kernel
theorem dX9_span_37 : decode cX9_span 37 = .ok (.iconst 1, 1) := by decide +kernel
theorem dX9_span_38 : decode cX9_span 38 = .ok (.invokevirtual 137, 3) := by decide +kernel
theorem dX9_span_41 : decode cX9_span 41 = .ok (.aload_n 0, 1) := by decide +kernel
theorem dX9_span_42 : decode cX9_span 42 = .ok (.getfield 10, 3) := by decide +kernel
theorem dX9_span_45 : decode cX9_span 45 = .ok (.getfield 150, 3) := by decide +kernel
theorem dX9_span_48 : decode cX9_span 48 = .ok (.iload_n 1, 1) := by decide +kernel
theorem dX9_span_49 : decode cX9_span 49 = .ok (.iaload, 1) := by decide +kernel
theorem dX9_span_50 : decode cX9_span 50 = .ok (.istore_n 3, 1) := by decide +kernel
theorem dX9_span_51 : decode cX9_span 51 = .ok (.aload_n 0, 1) := by decide +kernel
theorem dX9_span_52 : decode cX9_span 52 = .ok (.getfield 10, 3) := by decide +kernel
theorem dX9_span_55 : decode cX9_span 55 = .ok (.getfield 150, 3) := by decide +kernel
theorem dX9_span_58 : decode cX9_span 58 = .ok (.iload_n 1, 1) := by decide +kernel
theorem dX9_span_59 : decode cX9_span 59 = .ok (.iload_n 2, 1) := by decide +kernel
theorem dX9_span_60 : decode cX9_span 60 = .ok (.iastore, 1) := by decide +kernel
theorem dX9_span_61 : decode cX9_span 61 = .ok (.iload_n 3, 1) := by decide +kernel
theorem dX9_span_62 : decode cX9_span 62 = .ok (.ireturn, 1) := by decide +kernel
set_option maxRecDepth 20000 in
theorem ggX9_early_X9_sort : GoodIn wsX9_early wsX9_sort := goodIn_r _ [15, 1, 2, 3, 16, 17, 18, 14, 19, 5, 20, 21, 22, 23, 24, 25, 26, 27, 28, 29, 30, 31, 32, 33, 34, 35, 36, 37, 38, 39, 40, 41, 42, 43, 44, 45, 46, 47, 48, 49, 50, 51, 52, 53, 54, 55, 56] (by decide +kernel) (by decide +kernel)
set_option maxRecDepth 20000 in
theorem gX9_early_X9_sort : GoodIn wsX9_early (wsV RX9 176 RX9 yX9_sort wsX9_sort) := goodIn_app (goodIn_of _ (by decide +kernel)) ggX9_early_X9_sort
theorem dX9_early_0 : decode cX9_early 0 = .ok (.aload_n 0, 1) := by decide +kernel
theorem dX9_early_1 : decode cX9_early 1 = .ok (.invokevirtual 176, 3) := by decide +kernel
theorem dX9_early_4 : decode cX9_early 4 = .ok (.iconst 0, 1) := by decide +kernel
theorem dX9_early_5 : decode cX9_early 5 = .ok (.istore_n 1, 1) := by decide +kernel
theorem dX9_early_6 : decode cX9_early 6 = .ok (.iconst 0, 1) := by decide +kernel
theorem dX9_early_7 : decode cX9_early 7 = .ok (.istore_n 2, 1) := by decide +kernel
theorem dX9_early_8 : decode cX9_early 8 = .ok (.iload_n 2, 1) := by decide +kernel
theorem dX9_early_9 : decode cX9_early 9 = .ok (.aload_n 0, 1) := by decide +kernel
theorem dX9_early_10 : decode cX9_early 10 = .ok (.getfield 10, 3) := by decide +kernel
theorem dX9_early_13 : decode cX9_early 13 = .ok (.getfield 94, 3) := by decide +kernel
theorem dX9_early_16 : decode cX9_early 16 = .ok (.if_icmp .ge 110, 3) := by decide +kernel
theorem dX9_early_19 : decode cX9_early 19 = .ok (.aload_n 0, 1) := by decide +kernel
theorem dX9_early_20 : decode cX9_early 20 = .ok (.getfield 48, 3) := by decide +kernel
theorem dX9_early_23 : decode cX9_early 23 = .ok (.iload_n 2, 1) := by decide +kernel
theorem dX9_early_24 : decode cX9_early 24 = .ok (.iaload, 1) := by decide +kernel
theorem dX9_early_25 : decode cX9_early 25 = .ok (.istore_n 3, 1) := by decide +kernel
theorem dX9_early_26 : decode cX9_early 26 = .ok (.aload_n 0, 1) := by decide +kernel
theorem dX9_early_27 : decode cX9_early 27 = .ok (.getfield 54, 3) := by decide +kernel
theorem dX9_early_30 : decode cX9_early 30 = .ok (.iload_n 3, 1) := by decide +kernel
theorem dX9_early_31 : decode cX9_early 31 = .ok (.iconst 0, 1) := by decide +kernel
theorem dX9_early_32 : decode cX9_early 32 = .ok (.iastore, 1) := by decide +kernel
theorem dX9_early_33 : decode cX9_early 33 = .ok (.iconst 0, 1) := by decide +kernel
theorem dX9_early_34 : decode cX9_early 34 = .ok (.istore 4, 2) := by decide +kernel
theorem dX9_early_36 : decode cX9_early 36 = .ok (.iload 4, 2) := by decide +kernel
theorem dX9_early_38 : decode cX9_early 38 = .ok (.aload_n 0, 1) := by decide +kernel
theorem dX9_early_39 : decode cX9_early 39 = .ok (.getfield 10, 3) := by decide +kernel
theorem dX9_early_42 : decode cX9_early 42 = .ok (.getfield 94, 3) := by decide +kernel
theorem dX9_early_45 : decode cX9_early 45 = .ok (.if_icmp .ge 57, 3) := by decide +kernel
theorem dX9_early_48 : decode cX9_early 48 = .ok (.aload_n 0, 1) := by decide +kernel
theorem dX9_early_49 : decode cX9_early 49 = .ok (.getfield 10, 3) := by decide +kernel
theorem dX9_early_52 : decode cX9_early 52 = .ok (.getfield 147, 3) := by decide +kernel
theorem dX9_early_55 : decode cX9_early 55 = .ok (.bipush 12, 2) := by decide +kernel
theorem dX9_early_57 : decode cX9_early 57 = .ok (.iload_n 3, 1) := by decide +kernel
theorem dX9_early_58 : decode cX9_early 58 = .ok (.imul, 1) := by decide +kernel
theorem dX9_early_59 : decode cX9_early 59 = .ok (.iload 4, 2) := by decide +kernel
theorem dX9_early_61 : decode cX9_early 61 = .ok (.iadd, 1) := by decide +kernel
theorem dX9_early_62 : decode cX9_early 62 = .ok (.baload, 1) := by decide +kernel
theorem dX9_early_63 : decode cX9_early 63 = .ok (.ifCond .eq 33, 3) := by decide +kernel
theorem dX9_early_66 : decode cX9_early 66 = .ok (.aload_n 0, 1) := by decide +kernel
theorem dX9_early_67 : decode cX9_early 67 = .ok (.getfield 54, 3) := by decide +kernel
theorem dX9_early_70 : decode cX9_early 70 = .ok (.iload_n 3, 1) := by decide +kernel
theorem dX9_early_71 : decode cX9_early 71 = .ok (.aload_n 0, 1) := by decide +kernel
theorem dX9_early_72 : decode cX9_early 72 = .ok (.getfield 54, 3) := by decide +kernel
theorem dX9_early_75 : decode cX9_early 75 = .ok (.iload_n 3, 1) := by decide +kernel
theorem dX9_early_76 : decode cX9_early 76 = .ok (.iaload, 1) := by decide +kernel
theorem dX9_early_77 : decode cX9_early 77 = .ok (.aload_n 0, 1) := by decide +kernel
theorem dX9_early_78 : decode cX9_early 78 = .ok (.getfield 54, 3) := by decide +kernel
theorem dX9_early_81 : decode cX9_early 81 = .ok (.iload 4, 2) := by decide +kernel
theorem dX9_early_83 : decode cX9_early 83 = .ok (.iaload, 1) := by decide +kernel
theorem dX9_early_84 : decode cX9_early 84 = .ok (.aload_n 0, 1) := by decide +kernel
theorem dX9_early_85 : decode cX9_early 85 = .ok (.getfield 51, 3) := by decide +kernel
theorem dX9_early_88 : decode cX9_early 88 = .ok (.iload 4, 2) := by decide +kernel
theorem dX9_early_90 : decode cX9_early 90 = .ok (.iaload, 1) := by decide +kernel
theorem dX9_early_91 : decode cX9_early 91 = .ok (.iadd, 1) := by decide +kernel
theorem dX9_early_92 : decode cX9_early 92 = .ok (.invokestatic 179, 3) := by decide +kernel
theorem dX9_early_95 : decode cX9_early 95 = .ok (.iastore, 1) := by decide +kernel
theorem dX9_early_96 : decode cX9_early 96 = .ok (.iinc 4 1, 3) := by decide +kernel
theorem dX9_early_99 : decode cX9_early 99 = .ok (.goto (-63), 3) := by decide +kernel
theorem dX9_early_102 : decode cX9_early 102 = .ok (.iload_n 1, 1) := by decide +kernel
theorem dX9_early_103 : decode cX9_early 103 = .ok (.aload_n 0, 1) := by decide +kernel
theorem dX9_early_104 : decode cX9_early 104 = .ok (.getfield 54, 3) := by decide +kernel
theorem dX9_early_107 : decode cX9_early 107 = .ok (.iload_n 3, 1) := by decide +kernel
theorem dX9_early_108 : decode cX9_early 108 = .ok (.iaload, 1) := by decide +kernel
theorem dX9_early_109 : decode cX9_early 109 = .ok (.aload_n 0, 1) := by decide +kernel
theorem dX9_early_110 : decode cX9_early 110 = .ok (.getfield 51, 3) := by decide +kernel
theorem dX9_early_113 : decode cX9_early 113 = .ok (.iload_n 3, 1) := by decide +kernel
theorem dX9_early_114 : decode cX9_early 114 = .ok (.iaload, 1) := by decide +kernel
theorem dX9_early_115 : decode cX9_early 115 = .ok (.iadd, 1) := by decide +kernel
theorem dX9_early_116 : decode cX9_early 116 = .ok (.invokestatic 179, 3) := by decide +kernel
theorem dX9_early_119 : decode cX9_early 119 = .ok (.istore_n 1, 1) := by decide +kernel
theorem dX9_early_120 : decode cX9_early 120 = .ok (.iinc 2 1, 3) := by decide +kernel
theorem dX9_early_123 : decode cX9_early 123 = .ok (.goto (-115), 3) := by decide +kernel
theorem dX9_early_126 : decode cX9_early 126 = .ok (.iload_n 1, 1) := by decide +kernel
theorem dX9_early_127 : decode cX9_early 127 = .ok (.ireturn, 1) := by decide +kernel
set_option maxRecDepth 20000 in
theorem ggX9_earlyTold_X9_early : GoodIn wsX9_earlyTold wsX9_early := goodIn_r _ [9, 1, 2, 10, 11, 12, 3, 13, 14, 15, 16, 17, 18, 19, 8, 20, 21, 22, 23, 24, 25, 26, 27, 28, 29, 30, 31, 32, 33, 34, 35, 36, 37, 38, 39, 40, 41, 42, 43, 44, 45, 46, 47, 48, 49, 50, 51, 52, 53, 54, 55, 56, 57, 58, 59, 60, 61] (by decide +kernel) (by decide +kernel)
set_option maxRecDepth 20000 in
theorem gX9_earlyTold_X9_early : GoodIn wsX9_earlyTold (wsV RX9 184 RX9 yX9_early wsX9_early) := goodIn_app (goodIn_of _ (by decide +kernel)) ggX9_earlyTold_X9_early
theorem dX9_earlyTold_0 : decode cX9_earlyTold 0 = .ok (.iconst 0, 1) := by decide +kernel
theorem dX9_earlyTold_1 : decode cX9_earlyTold 1 = .ok (.istore_n 1, 1) := by decide +kernel
theorem dX9_earlyTold_2 : decode cX9_earlyTold 2 = .ok (.iload_n 1, 1) := by decide +kernel
theorem dX9_earlyTold_3 : decode cX9_earlyTold 3 = .ok (.aload_n 0, 1) := by decide +kernel
theorem dX9_earlyTold_4 : decode cX9_earlyTold 4 = .ok (.getfield 10, 3) := by decide +kernel
theorem dX9_earlyTold_7 : decode cX9_earlyTold 7 = .ok (.getfield 94, 3) := by decide +kernel
theorem dX9_earlyTold_10 : decode cX9_earlyTold 10 = .ok (.if_icmp .ge 24, 3) := by decide +kernel
theorem dX9_earlyTold_13 : decode cX9_earlyTold 13 = .ok (.aload_n 0, 1) := by decide +kernel
theorem dX9_earlyTold_14 : decode cX9_earlyTold 14 = .ok (.getfield 51, 3) := by decide +kernel
theorem dX9_earlyTold_17 : decode cX9_earlyTold 17 = .ok (.iload_n 1, 1) := by decide +kernel
theorem dX9_earlyTold_18 : decode cX9_earlyTold 18 = .ok (.aload_n 0, 1) := by decide +kernel
theorem dX9_earlyTold_19 : decode cX9_earlyTold 19 = .ok (.getfield 10, 3) := by decide +kernel
theorem dX9_earlyTold_22 : decode cX9_earlyTold 22 = .ok (.getfield 150, 3) := by decide +kernel
theorem dX9_earlyTold_25 : decode cX9_earlyTold 25 = .ok (.iload_n 1, 1) := by decide +kernel
theorem dX9_earlyTold_26 : decode cX9_earlyTold 26 = .ok (.iaload, 1) := by decide +kernel
theorem dX9_earlyTold_27 : decode cX9_earlyTold 27 = .ok (.iastore, 1) := by decide +kernel
theorem dX9_earlyTold_28 : decode cX9_earlyTold 28 = .ok (.iinc 1 1, 3) := by decide +kernel
theorem dX9_earlyTold_31 : decode cX9_earlyTold 31 = .ok (.goto (-29), 3) := by decide +kernel
theorem dX9_earlyTold_34 : decode cX9_earlyTold 34 = .ok (.aload_n 0, 1) := by decide +kernel
theorem dX9_earlyTold_35 : decode cX9_earlyTold 35 = .ok (.invokevirtual 184, 3) := by decide +kernel
theorem dX9_earlyTold_38 : decode cX9_earlyTold 38 = .ok (.ireturn, 1) := by decide +kernel
set_option maxRecDepth 20000 in
theorem ggX9_length_X9_earlyTold : GoodIn wsX9_length wsX9_earlyTold := goodIn_r _ [5, 6, 7, 8, 9, 10, 11, 12, 4, 13, 14, 15, 16, 17, 18, 19, 20, 21, 22, 23, 24, 25, 26, 27, 28, 29, 30, 31, 32, 33, 34, 35, 36, 37, 38, 39, 40, 41, 42, 43, 44, 45, 46, 47, 48, 49, 50, 51, 52, 53, 54, 55, 56, 57, 58, 59, 60, 61, 62, 63, 64, 65] (by decide +kernel) (by decide +kernel)
set_option maxRecDepth 20000 in
theorem gX9_length_X9_earlyTold : GoodIn wsX9_length (wsV RX9 188 RX9 yX9_earlyTold wsX9_earlyTold) := goodIn_app (goodIn_of _ (by decide +kernel)) ggX9_length_X9_earlyTold
theorem dX9_length_0 : decode cX9_length 0 = .ok (.aload_n 0, 1) := by decide +kernel
theorem dX9_length_1 : decode cX9_length 1 = .ok (.invokevirtual 188, 3) := by decide +kernel
theorem dX9_length_4 : decode cX9_length 4 = .ok (.ireturn, 1) := by decide +kernel
set_option maxRecDepth 20000 in
theorem ggX9_lateTold_X9_earlyTold : GoodIn wsX9_lateTold wsX9_earlyTold := goodIn_r _ [15, 1, 2, 10, 16, 17, 18, 19, 14, 20, 3, 21, 4, 22, 23, 8, 24, 25, 26, 27, 28, 29, 30, 31, 32, 33, 34, 35, 36, 37, 38, 39, 40, 41, 42, 43, 44, 45, 46, 47, 48, 49, 50, 51, 52, 53, 54, 55, 56, 57, 58, 59, 60, 61, 62, 63, 64, 65, 66, 67, 68, 69] (by decide +kernel) (by decide +kernel)
set_option maxRecDepth 20000 in
theorem gX9_lateTold_X9_earlyTold : GoodIn wsX9_lateTold (wsV RX9 188 RX9 yX9_earlyTold wsX9_earlyTold) := goodIn_app (goodIn_of _ (by decide +kernel)) ggX9_lateTold_X9_earlyTold
theorem dX9_lateTold_0 : decode cX9_lateTold 0 = .ok (.aload_n 0, 1) := by decide +kernel
theorem dX9_lateTold_1 : decode cX9_lateTold 1 = .ok (.invokevirtual 188, 3) := by decide +kernel
theorem dX9_lateTold_4 : decode cX9_lateTold 4 = .ok (.istore_n 1, 1) := by decide +kernel
theorem dX9_lateTold_5 : decode cX9_lateTold 5 = .ok (.aload_n 0, 1) := by decide +kernel
theorem dX9_lateTold_6 : decode cX9_lateTold 6 = .ok (.getfield 10, 3) := by decide +kernel
theorem dX9_lateTold_9 : decode cX9_lateTold 9 = .ok (.getfield 94, 3) := by decide +kernel
theorem dX9_lateTold_12 : decode cX9_lateTold 12 = .ok (.iconst 1, 1) := by decide +kernel
theorem dX9_lateTold_13 : decode cX9_lateTold 13 = .ok (.isub, 1) := by decide +kernel
theorem dX9_lateTold_14 : decode cX9_lateTold 14 = .ok (.istore_n 2, 1) := by decide +kernel
theorem dX9_lateTold_15 : decode cX9_lateTold 15 = .ok (.iload_n 2, 1) := by decide +kernel
theorem dX9_lateTold_16 : decode cX9_lateTold 16 = .ok (.ifCond .lt 87, 3) := by decide +kernel
theorem dX9_lateTold_19 : decode cX9_lateTold 19 = .ok (.aload_n 0, 1) := by decide +kernel
theorem dX9_lateTold_20 : decode cX9_lateTold 20 = .ok (.getfield 48, 3) := by decide +kernel
theorem dX9_lateTold_23 : decode cX9_lateTold 23 = .ok (.iload_n 2, 1) := by decide +kernel
theorem dX9_lateTold_24 : decode cX9_lateTold 24 = .ok (.iaload, 1) := by decide +kernel
theorem dX9_lateTold_25 : decode cX9_lateTold 25 = .ok (.istore_n 3, 1) := by decide +kernel
theorem dX9_lateTold_26 : decode cX9_lateTold 26 = .ok (.iload_n 1, 1) := by decide +kernel
theorem dX9_lateTold_27 : decode cX9_lateTold 27 = .ok (.istore 4, 2) := by decide +kernel
theorem dX9_lateTold_29 : decode cX9_lateTold 29 = .ok (.iconst 0, 1) := by decide +kernel
theorem dX9_lateTold_30 : decode cX9_lateTold 30 = .ok (.istore 5, 2) := by decide +kernel
theorem dX9_lateTold_32 : decode cX9_lateTold 32 = .ok (.iload 5, 2) := by decide +kernel
theorem dX9_lateTold_34 : decode cX9_lateTold 34 = .ok (.aload_n 0, 1) := by decide +kernel
theorem dX9_lateTold_35 : decode cX9_lateTold 35 = .ok (.getfield 10, 3) := by decide +kernel
theorem dX9_lateTold_38 : decode cX9_lateTold 38 = .ok (.getfield 94, 3) := by decide +kernel
theorem dX9_lateTold_41 : decode cX9_lateTold 41 = .ok (.if_icmp .ge 41, 3) := by decide +kernel
theorem dX9_lateTold_44 : decode cX9_lateTold 44 = .ok (.aload_n 0, 1) := by decide +kernel
theorem dX9_lateTold_45 : decode cX9_lateTold 45 = .ok (.getfield 10, 3) := by decide +kernel
theorem dX9_lateTold_48 : decode cX9_lateTold 48 = .ok (.getfield 147, 3) := by decide +kernel
theorem dX9_lateTold_51 : decode cX9_lateTold 51 = .ok (.bipush 12, 2) := by decide +kernel
theorem dX9_lateTold_53 : decode cX9_lateTold 53 = .ok (.iload 5, 2) := by decide +kernel
theorem dX9_lateTold_55 : decode cX9_lateTold 55 = .ok (.imul, 1) := by decide +kernel
theorem dX9_lateTold_56 : decode cX9_lateTold 56 = .ok (.iload_n 3, 1) := by decide +kernel
theorem dX9_lateTold_57 : decode cX9_lateTold 57 = .ok (.iadd, 1) := by decide +kernel
theorem dX9_lateTold_58 : decode cX9_lateTold 58 = .ok (.baload, 1) := by decide +kernel
theorem dX9_lateTold_59 : decode cX9_lateTold 59 = .ok (.ifCond .eq 17, 3) := by decide +kernel
theorem dX9_lateTold_62 : decode cX9_lateTold 62 = .ok (.iload 4, 2) := by decide +kernel
theorem dX9_lateTold_64 : decode cX9_lateTold 64 = .ok (.aload_n 0, 1) := by decide +kernel
theorem dX9_lateTold_65 : decode cX9_lateTold 65 = .ok (.getfield 57, 3) := by decide +kernel
theorem dX9_lateTold_68 : decode cX9_lateTold 68 = .ok (.iload 5, 2) := by decide +kernel
theorem dX9_lateTold_70 : decode cX9_lateTold 70 = .ok (.iaload, 1) := by decide +kernel
theorem dX9_lateTold_71 : decode cX9_lateTold 71 = .ok (.invokestatic 191, 3) := by decide +kernel
theorem dX9_lateTold_74 : decode cX9_lateTold 74 = .ok (.istore 4, 2) := by decide +kernel
theorem dX9_lateTold_76 : decode cX9_lateTold 76 = .ok (.iinc 5 1, 3) := by decide +kernel
theorem dX9_lateTold_79 : decode cX9_lateTold 79 = .ok (.goto (-47), 3) := by decide +kernel
theorem dX9_lateTold_82 : decode cX9_lateTold 82 = .ok (.aload_n 0, 1) := by decide +kernel
theorem dX9_lateTold_83 : decode cX9_lateTold 83 = .ok (.getfield 57, 3) := by decide +kernel
theorem dX9_lateTold_86 : decode cX9_lateTold 86 = .ok (.iload_n 3, 1) := by decide +kernel
theorem dX9_lateTold_87 : decode cX9_lateTold 87 = .ok (.iload 4, 2) := by decide +kernel
theorem dX9_lateTold_89 : decode cX9_lateTold 89 = .ok (.aload_n 0, 1) := by decide +kernel
theorem dX9_lateTold_90 : decode cX9_lateTold 90 = .ok (.getfield 51, 3) := by decide +kernel
theorem dX9_lateTold_93 : decode cX9_lateTold 93 = .ok (.iload_n 3, 1) := by decide +kernel
theorem dX9_lateTold_94 : decode cX9_lateTold 94 = .ok (.iaload, 1) := by decide +kernel
theorem dX9_lateTold_95 : decode cX9_lateTold 95 = .ok (.isub, 1) := by decide +kernel
theorem dX9_lateTold_96 : decode cX9_lateTold 96 = .ok (.iastore, 1) := by decide +kernel
theorem dX9_lateTold_97 : decode cX9_lateTold 97 = .ok (.iinc 2 (-1), 3) := by decide +kernel
theorem dX9_lateTold_100 : decode cX9_lateTold 100 = .ok (.goto (-85), 3) := by decide +kernel
theorem dX9_lateTold_103 : decode cX9_lateTold 103 = .ok (.return_, 1) := by decide +kernel
set_option maxRecDepth 20000 in
theorem ggX9_early__X9_isTask : GoodIn wsX9_early_ wsX9_isTask := goodIn_r _ [7, 8, 9, 10, 11, 6, 12, 49, 50, 51, 52, 53, 54, 55, 56, 57, 58, 59, 60, 61, 62, 63, 64, 65, 66, 67, 68, 69, 70, 71, 72, 73, 74, 75, 76, 77, 78, 79, 80, 81, 82, 83, 84, 85] (by decide +kernel) (by decide +kernel)
set_option maxRecDepth 20000 in
theorem gX9_early__X9_isTask : GoodIn wsX9_early_ (wsV RX9 151 RX9 yX9_isTask wsX9_isTask) := goodIn_app (goodIn_of _ (by decide +kernel)) ggX9_early__X9_isTask
set_option maxRecDepth 20000 in
theorem ggX9_early__X9_found : GoodIn wsX9_early_ wsX9_found := goodIn_r _ [16, 17, 49, 50, 51, 52, 53, 54, 55, 56, 57, 58, 59, 60, 61, 62, 63, 64, 65, 66, 67, 68, 69, 70, 71, 72, 73, 74, 75, 76, 77, 78, 79, 80] (by decide +kernel) (by decide +kernel)
set_option maxRecDepth 20000 in
theorem gX9_early__X9_found : GoodIn wsX9_early_ (wsV RX9 107 RX9 yX9_found wsX9_found) := goodIn_app (goodIn_of _ (by decide +kernel)) ggX9_early__X9_found
set_option maxRecDepth 20000 in
theorem ggX9_early__X9_lateTold : GoodIn wsX9_early_ wsX9_lateTold := goodIn_r _ [21, 8, 9, 22, 23, 1, 24, 25, 26, 27, 28, 29, 30, 31, 6, 32, 33, 34, 35, 36, 37, 2, 38, 39, 40, 41, 42, 43, 44, 45, 46, 47, 48, 49, 50, 51, 52, 53, 54, 55, 56, 57, 58, 59, 60, 61, 62, 63, 64, 65, 66, 67, 68, 69, 70, 71, 72, 73, 74, 75, 76, 77, 78, 79, 80, 81, 82, 83, 84, 85] (by decide +kernel) (by decide +kernel)
set_option maxRecDepth 20000 in
theorem gX9_early__X9_lateTold : GoodIn wsX9_early_ (wsV RX9 194 RX9 yX9_lateTold wsX9_lateTold) := goodIn_app (goodIn_of _ (by decide +kernel)) ggX9_early__X9_lateTold
theorem dX9_early__0 : decode cX9_early_ 0 = .ok (.aload_n 0, 1) := by decide +kernel
theorem dX9_early__1 : decode cX9_early_ 1 = .ok (.iload_n 1, 1) := by decide +kernel
theorem dX9_early__2 : decode cX9_early_ 2 = .ok (.invokevirtual 151, 3) := by decide +kernel
theorem dX9_early__5 : decode cX9_early_ 5 = .ok (.ifCond .ne 9, 3) := by decide +kernel
theorem dX9_early__8 : decode cX9_early_ 8 = .ok (.aload_n 0, 1) := by decide +kernel
theorem dX9_early__9 : decode cX9_early_ 9 = .ok (.iconst (-1), 1) := by decide +kernel
theorem dX9_early__10 : decode cX9_early_ 10 = .ok (.invokevirtual 107, 3) := by decide +kernel
theorem dX9_early__13 : decode cX9_early_ 13 = .ok (.ireturn, 1) := by decide +kernel
theorem dX9_early__14 : decode cX9_early_ 14 = .ok (.aload_n 0, 1) := by decide +kernel
theorem dX9_early__15 : decode cX9_early_ 15 = .ok (.invokevirtual 194, 3) := by decide +kernel
theorem dX9_early__18 : decode cX9_early_ 18 = .ok (.iload_n 2, 1) := by decide +kernel
theorem dX9_early__19 : decode cX9_early_ 19 = .ok (.ifCond .eq 12, 3) := by decide +kernel
theorem dX9_early__22 : decode cX9_early_ 22 = .ok (.aload_n 0, 1) := by decide +kernel
theorem dX9_early__23 : decode cX9_early_ 23 = .ok (.getfield 57, 3) := by decide +kernel
theorem dX9_early__26 : decode cX9_early_ 26 = .ok (.iload_n 1, 1) := by decide +kernel
theorem dX9_early__27 : decode cX9_early_ 27 = .ok (.iaload, 1) := by decide +kernel
theorem dX9_early__28 : decode cX9_early_ 28 = .ok (.goto 9, 3) := by decide +kernel
theorem dX9_early__31 : decode cX9_early_ 31 = .ok (.aload_n 0, 1) := by decide +kernel
theorem dX9_early__32 : decode cX9_early_ 32 = .ok (.getfield 54, 3) := by decide +kernel
theorem dX9_early__35 : decode cX9_early_ 35 = .ok (.iload_n 1, 1) := by decide +kernel
theorem dX9_early__36 : decode cX9_early_ 36 = .ok (.iaload, 1) := by decide +kernel
theorem dX9_early__37 : decode cX9_early_ 37 = .ok (.ireturn, 1) := by decide +kernel
set_option maxRecDepth 20000 in
theorem ggX9_tight_X9_lateTold : GoodIn wsX9_tight wsX9_lateTold := goodIn_r _ [9, 1, 2, 10, 11, 4, 12, 13, 14, 15, 16, 17, 18, 19, 8, 20, 21, 22, 23, 24, 25, 3, 26, 27, 28, 29, 30, 31, 32, 33, 34, 35, 36, 37, 38, 39, 40, 41, 42, 43, 44, 45, 46, 47, 48, 49, 50, 51, 52, 53, 54, 55, 56, 57, 58, 59, 60, 61, 62, 63, 64, 65, 66, 67, 68, 69, 70, 71, 72, 73] (by decide +kernel) (by decide +kernel)
set_option maxRecDepth 20000 in
theorem gX9_tight_X9_lateTold : GoodIn wsX9_tight (wsV RX9 194 RX9 yX9_lateTold wsX9_lateTold) := goodIn_app (goodIn_of _ (by decide +kernel)) ggX9_tight_X9_lateTold
theorem dX9_tight_0 : decode cX9_tight 0 = .ok (.aload_n 0, 1) := by decide +kernel
theorem dX9_tight_1 : decode cX9_tight 1 = .ok (.invokevirtual 194, 3) := by decide +kernel
theorem dX9_tight_4 : decode cX9_tight 4 = .ok (.iconst 0, 1) := by decide +kernel
theorem dX9_tight_5 : decode cX9_tight 5 = .ok (.istore_n 1, 1) := by decide +kernel
theorem dX9_tight_6 : decode cX9_tight 6 = .ok (.iconst 0, 1) := by decide +kernel
theorem dX9_tight_7 : decode cX9_tight 7 = .ok (.istore_n 2, 1) := by decide +kernel
theorem dX9_tight_8 : decode cX9_tight 8 = .ok (.iload_n 2, 1) := by decide +kernel
theorem dX9_tight_9 : decode cX9_tight 9 = .ok (.aload_n 0, 1) := by decide +kernel
theorem dX9_tight_10 : decode cX9_tight 10 = .ok (.getfield 10, 3) := by decide +kernel
theorem dX9_tight_13 : decode cX9_tight 13 = .ok (.getfield 94, 3) := by decide +kernel
theorem dX9_tight_16 : decode cX9_tight 16 = .ok (.if_icmp .ge 34, 3) := by decide +kernel
theorem dX9_tight_19 : decode cX9_tight 19 = .ok (.iload_n 1, 1) := by decide +kernel
theorem dX9_tight_20 : decode cX9_tight 20 = .ok (.aload_n 0, 1) := by decide +kernel
theorem dX9_tight_21 : decode cX9_tight 21 = .ok (.getfield 54, 3) := by decide +kernel
theorem dX9_tight_24 : decode cX9_tight 24 = .ok (.iload_n 2, 1) := by decide +kernel
theorem dX9_tight_25 : decode cX9_tight 25 = .ok (.iaload, 1) := by decide +kernel
theorem dX9_tight_26 : decode cX9_tight 26 = .ok (.aload_n 0, 1) := by decide +kernel
theorem dX9_tight_27 : decode cX9_tight 27 = .ok (.getfield 57, 3) := by decide +kernel
theorem dX9_tight_30 : decode cX9_tight 30 = .ok (.iload_n 2, 1) := by decide +kernel
theorem dX9_tight_31 : decode cX9_tight 31 = .ok (.iaload, 1) := by decide +kernel
theorem dX9_tight_32 : decode cX9_tight 32 = .ok (.if_icmp .ne 9, 3) := by decide +kernel
theorem dX9_tight_35 : decode cX9_tight 35 = .ok (.iconst 1, 1) := by decide +kernel
theorem dX9_tight_36 : decode cX9_tight 36 = .ok (.iload_n 2, 1) := by decide +kernel
theorem dX9_tight_37 : decode cX9_tight 37 = .ok (.ishl, 1) := by decide +kernel
theorem dX9_tight_38 : decode cX9_tight 38 = .ok (.goto 4, 3) := by decide +kernel
theorem dX9_tight_41 : decode cX9_tight 41 = .ok (.iconst 0, 1) := by decide +kernel
theorem dX9_tight_42 : decode cX9_tight 42 = .ok (.ior, 1) := by decide +kernel
theorem dX9_tight_43 : decode cX9_tight 43 = .ok (.istore_n 1, 1) := by decide +kernel
theorem dX9_tight_44 : decode cX9_tight 44 = .ok (.iinc 2 1, 3) := by decide +kernel
theorem dX9_tight_47 : decode cX9_tight 47 = .ok (.goto (-39), 3) := by decide +kernel
theorem dX9_tight_50 : decode cX9_tight 50 = .ok (.iload_n 1, 1) := by decide +kernel
theorem dX9_tight_51 : decode cX9_tight 51 = .ok (.ireturn, 1) := by decide +kernel
set_option maxRecDepth 20000 in
theorem ggX9_costOf_X9_number : GoodIn wsX9_costOf wsX9_number := goodIn_r _ [12, 2, 13, 17, 18, 19, 20, 21, 22, 23, 24, 25, 26, 27, 28, 29, 30, 31, 32, 33, 34, 35, 36, 37, 38, 39, 40, 41, 42, 43, 44, 45, 46, 47, 48, 49, 50, 51, 52, 53] (by decide +kernel) (by decide +kernel)
set_option maxRecDepth 20000 in
theorem gX9_costOf_X9_number : GoodIn wsX9_costOf (wsV RX9 169 RX9 yX9_number wsX9_number) := goodIn_app (goodIn_of _ (by decide +kernel)) ggX9_costOf_X9_number
set_option maxRecDepth 20000 in
theorem ggX9_costOf_X9_in : GoodIn wsX9_costOf wsX9_in := goodIn_r _ [16] (by decide +kernel) (by decide +kernel)
set_option maxRecDepth 20000 in
theorem gX9_costOf_X9_in : GoodIn wsX9_costOf (va_wsS RX9 97 yX9_in wsX9_in) := goodIn_app (goodIn_of _ (by decide +kernel)) ggX9_costOf_X9_in
