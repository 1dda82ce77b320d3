theorem dX7_cool_82 : decode cX7_cool 82 = .ok (.if_icmp .ne 28, 3) := by decide +kernel
theorem dX7_cool_85 : decode cX7_cool 85 = .ok (.iload 6, 2) := by decide +kernel
theorem dX7_cool_87 : decode cX7_cool 87 = .ok (.ifCond .eq 13, 3) := by decide +kernel
theorem dX7_cool_90 : decode cX7_cool 90 = .ok (.aload_n 0, 1) := by decide +kernel
theorem dX7_cool_91 : decode cX7_cool 91 = .ok (.getfield 19, 3) := by decide +kernel
theorem dX7_cool_94 : decode cX7_cool 94 = .ok (.iconst 4, 1) := by decide +kernel
theorem dX7_cool_95 : decode cX7_cool 95 = .ok (.iaload, 1) := by decide +kernel
theorem dX7_cool_96 : decode cX7_cool 96 = .ok (.i2l, 1) := by decide +kernel
theorem dX7_cool_97 : decode cX7_cool 97 = .ok (.goto 14, 3) := by decide +kernel
theorem dX7_cool_100 : decode cX7_cool 100 = .ok (.aload_n 0, 1) := by decide +kernel
theorem dX7_cool_101 : decode cX7_cool 101 = .ok (.getfield 19, 3) := by decide +kernel
theorem dX7_cool_104 : decode cX7_cool 104 = .ok (.iconst 3, 1) := by decide +kernel
theorem dX7_cool_105 : decode cX7_cool 105 = .ok (.iaload, 1) := by decide +kernel
theorem dX7_cool_106 : decode cX7_cool 106 = .ok (.i2l, 1) := by decide +kernel
theorem dX7_cool_107 : decode cX7_cool 107 = .ok (.goto 4, 3) := by decide +kernel
theorem dX7_cool_110 : decode cX7_cool 110 = .ok (.lconst 0, 1) := by decide +kernel
theorem dX7_cool_111 : decode cX7_cool 111 = .ok (.ladd, 1) := by decide +kernel
theorem dX7_cool_112 : decode cX7_cool 112 = .ok (.lstore 8, 2) := by decide +kernel
theorem dX7_cool_114 : decode cX7_cool 114 = .ok (.aload_n 0, 1) := by decide +kernel
theorem dX7_cool_115 : decode cX7_cool 115 = .ok (.getfield 35, 3) := by decide +kernel
theorem dX7_cool_118 : decode cX7_cool 118 = .ok (.iload 7, 2) := by decide +kernel
theorem dX7_cool_120 : decode cX7_cool 120 = .ok (.aload_n 0, 1) := by decide +kernel
theorem dX7_cool_121 : decode cX7_cool 121 = .ok (.getfield 31, 3) := by decide +kernel
theorem dX7_cool_124 : decode cX7_cool 124 = .ok (.iload 7, 2) := by decide +kernel
theorem dX7_cool_126 : decode cX7_cool 126 = .ok (.laload, 1) := by decide +kernel
theorem dX7_cool_127 : decode cX7_cool 127 = .ok (.ldc2_w 88, 3) := by decide +kernel
theorem dX7_cool_130 : decode cX7_cool 130 = .ok (.aload_n 0, 1) := by decide +kernel
theorem dX7_cool_131 : decode cX7_cool 131 = .ok (.getfield 19, 3) := by decide +kernel
theorem dX7_cool_134 : decode cX7_cool 134 = .ok (.iconst 0, 1) := by decide +kernel
theorem dX7_cool_135 : decode cX7_cool 135 = .ok (.iaload, 1) := by decide +kernel
theorem dX7_cool_136 : decode cX7_cool 136 = .ok (.i2l, 1) := by decide +kernel
theorem dX7_cool_137 : decode cX7_cool 137 = .ok (.lmul, 1) := by decide +kernel
theorem dX7_cool_138 : decode cX7_cool 138 = .ok (.ladd, 1) := by decide +kernel
theorem dX7_cool_139 : decode cX7_cool 139 = .ok (.lload 8, 2) := by decide +kernel
theorem dX7_cool_141 : decode cX7_cool 141 = .ok (.lmul, 1) := by decide +kernel
theorem dX7_cool_142 : decode cX7_cool 142 = .ok (.ldc2_w 90, 3) := by decide +kernel
theorem dX7_cool_145 : decode cX7_cool 145 = .ok (.ldiv, 1) := by decide +kernel
theorem dX7_cool_146 : decode cX7_cool 146 = .ok (.ldc2_w 92, 3) := by decide +kernel
theorem dX7_cool_149 : decode cX7_cool 149 = .ok (.lmul, 1) := by decide +kernel
theorem dX7_cool_150 : decode cX7_cool 150 = .ok (.aload_n 0, 1) := by decide +kernel
theorem dX7_cool_151 : decode cX7_cool 151 = .ok (.getfield 94, 3) := by decide +kernel
theorem dX7_cool_154 : decode cX7_cool 154 = .ok (.ldiv, 1) := by decide +kernel
theorem dX7_cool_155 : decode cX7_cool 155 = .ok (.lastore, 1) := by decide +kernel
theorem dX7_cool_156 : decode cX7_cool 156 = .ok (.iinc 7 1, 3) := by decide +kernel
theorem dX7_cool_159 : decode cX7_cool 159 = .ok (.goto (-118), 3) := by decide +kernel
theorem dX7_cool_162 : decode cX7_cool 162 = .ok (.iload_n 1, 1) := by decide +kernel
theorem dX7_cool_163 : decode cX7_cool 163 = .ok (.iconst 1, 1) := by decide +kernel
theorem dX7_cool_164 : decode cX7_cool 164 = .ok (.iand, 1) := by decide +kernel
theorem dX7_cool_165 : decode cX7_cool 165 = .ok (.iconst 1, 1) := by decide +kernel
theorem dX7_cool_166 : decode cX7_cool 166 = .ok (.if_icmp .ne 56, 3) := by decide +kernel
theorem dX7_cool_169 : decode cX7_cool 169 = .ok (.lload_n 2, 1) := by decide +kernel
theorem dX7_cool_170 : decode cX7_cool 170 = .ok (.lconst 0, 1) := by decide +kernel
theorem dX7_cool_171 : decode cX7_cool 171 = .ok (.lcmp, 1) := by decide +kernel
theorem dX7_cool_172 : decode cX7_cool 172 = .ok (.ifCond .le 50, 3) := by decide +kernel
theorem dX7_cool_175 : decode cX7_cool 175 = .ok (.aload_n 0, 1) := by decide +kernel
theorem dX7_cool_176 : decode cX7_cool 176 = .ok (.dup, 1) := by decide +kernel
theorem dX7_cool_177 : decode cX7_cool 177 = .ok (.getfield 94, 3) := by decide +kernel
theorem dX7_cool_180 : decode cX7_cool 180 = .ok (.lload_n 2, 1) := by decide +kernel
theorem dX7_cool_181 : decode cX7_cool 181 = .ok (.aload_n 0, 1) := by decide +kernel
theorem dX7_cool_182 : decode cX7_cool 182 = .ok (.getfield 19, 3) := by decide +kernel
theorem dX7_cool_185 : decode cX7_cool 185 = .ok (.iconst 5, 1) := by decide +kernel
theorem dX7_cool_186 : decode cX7_cool 186 = .ok (.iaload, 1) := by decide +kernel
theorem dX7_cool_187 : decode cX7_cool 187 = .ok (.i2l, 1) := by decide +kernel
theorem dX7_cool_188 : decode cX7_cool 188 = .ok (.lmul, 1) := by decide +kernel
theorem dX7_cool_189 : decode cX7_cool 189 = .ok (.ldc2_w 90, 3) := by decide +kernel
theorem dX7_cool_192 : decode cX7_cool 192 = .ok (.ldiv, 1) := by decide +kernel
theorem dX7_cool_193 : decode cX7_cool 193 = .ok (.lsub, 1) := by decide +kernel
theorem dX7_cool_194 : decode cX7_cool 194 = .ok (.putfield 94, 3) := by decide +kernel
theorem dX7_cool_197 : decode cX7_cool 197 = .ok (.aload_n 0, 1) := by decide +kernel
theorem dX7_cool_198 : decode cX7_cool 198 = .ok (.aload_n 0, 1) := by decide +kernel
theorem dX7_cool_199 : decode cX7_cool 199 = .ok (.getfield 94, 3) := by decide +kernel
theorem dX7_cool_202 : decode cX7_cool 202 = .ok (.ldc2_w 97, 3) := by decide +kernel
theorem dX7_cool_205 : decode cX7_cool 205 = .ok (.lcmp, 1) := by decide +kernel
theorem dX7_cool_206 : decode cX7_cool 206 = .ok (.ifCond .ge 9, 3) := by decide +kernel
theorem dX7_cool_209 : decode cX7_cool 209 = .ok (.ldc2_w 97, 3) := by decide +kernel
theorem dX7_cool_212 : decode cX7_cool 212 = .ok (.goto 7, 3) := by decide +kernel
theorem dX7_cool_215 : decode cX7_cool 215 = .ok (.aload_n 0, 1) := by decide +kernel
theorem dX7_cool_216 : decode cX7_cool 216 = .ok (.getfield 94, 3) := by decide +kernel
theorem dX7_cool_219 : decode cX7_cool 219 = .ok (.putfield 94, 3) := by decide +kernel
theorem dX7_cool_222 : decode cX7_cool 222 = .ok (.iload 6, 2) := by decide +kernel
theorem dX7_cool_224 : decode cX7_cool 224 = .ok (.ifCond .eq 55, 3) := by decide +kernel
theorem dX7_cool_227 : decode cX7_cool 227 = .ok (.lload 4, 2) := by decide +kernel
theorem dX7_cool_229 : decode cX7_cool 229 = .ok (.lconst 0, 1) := by decide +kernel
theorem dX7_cool_230 : decode cX7_cool 230 = .ok (.lcmp, 1) := by decide +kernel
theorem dX7_cool_231 : decode cX7_cool 231 = .ok (.ifCond .le 48, 3) := by decide +kernel
theorem dX7_cool_234 : decode cX7_cool 234 = .ok (.aload_n 0, 1) := by decide +kernel
theorem dX7_cool_235 : decode cX7_cool 235 = .ok (.dup, 1) := by decide +kernel
theorem dX7_cool_236 : decode cX7_cool 236 = .ok (.getfield 84, 3) := by decide +kernel
theorem dX7_cool_239 : decode cX7_cool 239 = .ok (.lload 4, 2) := by decide +kernel
theorem dX7_cool_241 : decode cX7_cool 241 = .ok (.aload_n 0, 1) := by decide +kernel
theorem dX7_cool_242 : decode cX7_cool 242 = .ok (.getfield 19, 3) := by decide +kernel
theorem dX7_cool_245 : decode cX7_cool 245 = .ok (.bipush 6, 2) := by decide +kernel
theorem dX7_cool_247 : decode cX7_cool 247 = .ok (.iaload, 1) := by decide +kernel
theorem dX7_cool_248 : decode cX7_cool 248 = .ok (.i2l, 1) := by decide +kernel
theorem dX7_cool_249 : decode cX7_cool 249 = .ok (.lmul, 1) := by decide +kernel
theorem dX7_cool_250 : decode cX7_cool 250 = .ok (.ldc2_w 97, 3) := by decide +kernel
theorem dX7_cool_253 : decode cX7_cool 253 = .ok (.ldiv, 1) := by decide +kernel
theorem dX7_cool_254 : decode cX7_cool 254 = .ok (.lsub, 1) := by decide +kernel
theorem dX7_cool_255 : decode cX7_cool 255 = .ok (.putfield 84, 3) := by decide +kernel
theorem dX7_cool_258 : decode cX7_cool 258 = .ok (.aload_n 0, 1) := by decide +kernel
theorem dX7_cool_259 : decode cX7_cool 259 = .ok (.aload_n 0, 1) := by decide +kernel
theorem dX7_cool_260 : decode cX7_cool 260 = .ok (.getfield 84, 3) := by decide +kernel
theorem dX7_cool_263 : decode cX7_cool 263 = .ok (.lconst 0, 1) := by decide +kernel
theorem dX7_cool_264 : decode cX7_cool 264 = .ok (.lcmp, 1) := by decide +kernel
theorem dX7_cool_265 : decode cX7_cool 265 = .ok (.ifCond .ge 7, 3) := by decide +kernel
theorem dX7_cool_268 : decode cX7_cool 268 = .ok (.lconst 0, 1) := by decide +kernel
theorem dX7_cool_269 : decode cX7_cool 269 = .ok (.goto 7, 3) := by decide +kernel
theorem dX7_cool_272 : decode cX7_cool 272 = .ok (.aload_n 0, 1) := by decide +kernel
theorem dX7_cool_273 : decode cX7_cool 273 = .ok (.getfield 84, 3) := by decide +kernel
theorem dX7_cool_276 : decode cX7_cool 276 = .ok (.putfield 84, 3) := by decide +kernel
theorem dX7_cool_279 : decode cX7_cool 279 = .ok (.iconst 0, 1) := by decide +kernel
theorem dX7_cool_280 : decode cX7_cool 280 = .ok (.istore 7, 2) := by decide +kernel
theorem dX7_cool_282 : decode cX7_cool 282 = .ok (.iload 7, 2) := by decide +kernel
theorem dX7_cool_284 : decode cX7_cool 284 = .ok (.iconst 4, 1) := by decide +kernel
theorem dX7_cool_285 : decode cX7_cool 285 = .ok (.if_icmp .ge 26, 3) := by decide +kernel
theorem dX7_cool_288 : decode cX7_cool 288 = .ok (.aload_n 0, 1) := by decide +kernel
theorem dX7_cool_289 : decode cX7_cool 289 = .ok (.getfield 31, 3) := by decide +kernel
theorem dX7_cool_292 : decode cX7_cool 292 = .ok (.iload 7, 2) := by decide +kernel
theorem dX7_cool_294 : decode cX7_cool 294 = .ok (.dup2, 1) := by decide +kernel
theorem dX7_cool_295 : decode cX7_cool 295 = .ok (.laload, 1) := by decide +kernel
theorem dX7_cool_296 : decode cX7_cool 296 = .ok (.aload_n 0, 1) := by decide +kernel
theorem dX7_cool_297 : decode cX7_cool 297 = .ok (.getfield 35, 3) := by decide +kernel
theorem dX7_cool_300 : decode cX7_cool 300 = .ok (.iload 7, 2) := by decide +kernel
theorem dX7_cool_302 : decode cX7_cool 302 = .ok (.laload, 1) := by decide +kernel
theorem dX7_cool_303 : decode cX7_cool 303 = .ok (.lsub, 1) := by decide +kernel
theorem dX7_cool_304 : decode cX7_cool 304 = .ok (.lastore, 1) := by decide +kernel
theorem dX7_cool_305 : decode cX7_cool 305 = .ok (.iinc 7 1, 3) := by decide +kernel
theorem dX7_cool_308 : decode cX7_cool 308 = .ok (.goto (-26), 3) := by decide +kernel
theorem dX7_cool_311 : decode cX7_cool 311 = .ok (.iconst 0, 1) := by decide +kernel
theorem dX7_cool_312 : decode cX7_cool 312 = .ok (.istore 7, 2) := by decide +kernel
theorem dX7_cool_314 : decode cX7_cool 314 = .ok (.iload 7, 2) := by decide +kernel
theorem dX7_cool_316 : decode cX7_cool 316 = .ok (.iconst 3, 1) := by decide +kernel
theorem dX7_cool_317 : decode cX7_cool 317 = .ok (.if_icmp .ge 92, 3) := by decide +kernel
theorem dX7_cool_320 : decode cX7_cool 320 = .ok (.iload_n 1, 1) := by decide +kernel
theorem dX7_cool_321 : decode cX7_cool 321 = .ok (.iconst 4, 1) := by decide +kernel
theorem dX7_cool_322 : decode cX7_cool 322 = .ok (.iand, 1) := by decide +kernel
theorem dX7_cool_323 : decode cX7_cool 323 = .ok (.iconst 4, 1) := by decide +kernel
theorem dX7_cool_324 : decode cX7_cool 324 = .ok (.if_icmp .ne 85, 3) := by decide +kernel
theorem dX7_cool_327 : decode cX7_cool 327 = .ok (.aload_n 0, 1) := by decide +kernel
theorem dX7_cool_328 : decode cX7_cool 328 = .ok (.getfield 31, 3) := by decide +kernel
theorem dX7_cool_331 : decode cX7_cool 331 = .ok (.iload 7, 2) := by decide +kernel
theorem dX7_cool_333 : decode cX7_cool 333 = .ok (.iconst 1, 1) := by decide +kernel
theorem dX7_cool_334 : decode cX7_cool 334 = .ok (.iadd, 1) := by decide +kernel
theorem dX7_cool_335 : decode cX7_cool 335 = .ok (.laload, 1) := by decide +kernel
theorem dX7_cool_336 : decode cX7_cool 336 = .ok (.invokestatic 99, 3) := by decide +kernel
theorem dX7_cool_339 : decode cX7_cool 339 = .ok (.aload_n 0, 1) := by decide +kernel
theorem dX7_cool_340 : decode cX7_cool 340 = .ok (.getfield 31, 3) := by decide +kernel
theorem dX7_cool_343 : decode cX7_cool 343 = .ok (.iload 7, 2) := by decide +kernel
theorem dX7_cool_345 : decode cX7_cool 345 = .ok (.laload, 1) := by decide +kernel
theorem dX7_cool_346 : decode cX7_cool 346 = .ok (.invokestatic 99, 3) := by decide +kernel
theorem dX7_cool_349 : decode cX7_cool 349 = .ok (.lcmp, 1) := by decide +kernel
theorem dX7_cool_350 : decode cX7_cool 350 = .ok (.ifCond .le 53, 3) := by decide +kernel
theorem dX7_cool_353 : decode cX7_cool 353 = .ok (.aload_n 0, 1) := by decide +kernel
theorem dX7_cool_354 : decode cX7_cool 354 = .ok (.getfield 31, 3) := by decide +kernel
theorem dX7_cool_357 : decode cX7_cool 357 = .ok (.iload 7, 2) := by decide +kernel
theorem dX7_cool_359 : decode cX7_cool 359 = .ok (.laload, 1) := by decide +kernel
theorem dX7_cool_360 : decode cX7_cool 360 = .ok (.aload_n 0, 1) := by decide +kernel
theorem dX7_cool_361 : decode cX7_cool 361 = .ok (.getfield 31, 3) := by decide +kernel
theorem dX7_cool_364 : decode cX7_cool 364 = .ok (.iload 7, 2) := by decide +kernel
theorem dX7_cool_366 : decode cX7_cool 366 = .ok (.iconst 1, 1) := by decide +kernel
theorem dX7_cool_367 : decode cX7_cool 367 = .ok (.iadd, 1) := by decide +kernel
theorem dX7_cool_368 : decode cX7_cool 368 = .ok (.laload, 1) := by decide +kernel
theorem dX7_cool_369 : decode cX7_cool 369 = .ok (.ladd, 1) := by decide +kernel
theorem dX7_cool_370 : decode cX7_cool 370 = .ok (.lstore 8, 2) := by decide +kernel
theorem dX7_cool_372 : decode cX7_cool 372 = .ok (.aload_n 0, 1) := by decide +kernel
theorem dX7_cool_373 : decode cX7_cool 373 = .ok (.getfield 31, 3) := by decide +kernel
theorem dX7_cool_376 : decode cX7_cool 376 = .ok (.iload 7, 2) := by decide +kernel
theorem dX7_cool_378 : decode cX7_cool 378 = .ok (.lload 8, 2) := by decide +kernel
theorem dX7_cool_380 : decode cX7_cool 380 = .ok (.invokestatic 103, 3) := by decide +kernel
theorem dX7_cool_383 : decode cX7_cool 383 = .ok (.lastore, 1) := by decide +kernel
theorem dX7_cool_384 : decode cX7_cool 384 = .ok (.aload_n 0, 1) := by decide +kernel
theorem dX7_cool_385 : decode cX7_cool 385 = .ok (.getfield 31, 3) := by decide +kernel
theorem dX7_cool_388 : decode cX7_cool 388 = .ok (.iload 7, 2) := by decide +kernel
theorem dX7_cool_390 : decode cX7_cool 390 = .ok (.iconst 1, 1) := by decide +kernel
theorem dX7_cool_391 : decode cX7_cool 391 = .ok (.iadd, 1) := by decide +kernel
theorem dX7_cool_392 : decode cX7_cool 392 = .ok (.lload 8, 2) := by decide +kernel
theorem dX7_cool_394 : decode cX7_cool 394 = .ok (.aload_n 0, 1) := by decide +kernel
theorem dX7_cool_395 : decode cX7_cool 395 = .ok (.getfield 31, 3) := by decide +kernel
theorem dX7_cool_398 : decode cX7_cool 398 = .ok (.iload 7, 2) := by decide +kernel
theorem dX7_cool_400 : decode cX7_cool 400 = .ok (.laload, 1) := by decide +kernel
theorem dX7_cool_401 : decode cX7_cool 401 = .ok (.lsub, 1) := by decide +kernel
theorem dX7_cool_402 : decode cX7_cool 402 = .ok (.lastore, 1) := by decide +kernel
theorem dX7_cool_403 : decode cX7_cool 403 = .ok (.iinc 7 1, 3) := by decide +kernel
theorem dX7_cool_406 : decode cX7_cool 406 = .ok (.goto (-92), 3) := by decide +kernel
theorem dX7_cool_409 : decode cX7_cool 409 = .ok (.return_, 1) := by decide +kernel
theorem dX7_freeze_0 : decode cX7_freeze 0 = .ok (.iconst 0, 1) := by decide +kernel
theorem dX7_freeze_1 : decode cX7_freeze 1 = .ok (.istore_n 2, 1) := by decide +kernel
theorem dX7_freeze_2 : decode cX7_freeze 2 = .ok (.iconst 0, 1) := by decide +kernel
theorem dX7_freeze_3 : decode cX7_freeze 3 = .ok (.istore_n 3, 1) := by decide +kernel
theorem dX7_freeze_4 : decode cX7_freeze 4 = .ok (.iload_n 3, 1) := by decide +kernel
theorem dX7_freeze_5 : decode cX7_freeze 5 = .ok (.iconst 4, 1) := by decide +kernel
theorem dX7_freeze_6 : decode cX7_freeze 6 = .ok (.if_icmp .ge 35, 3) := by decide +kernel
theorem dX7_freeze_9 : decode cX7_freeze 9 = .ok (.iload_n 2, 1) := by decide +kernel
theorem dX7_freeze_10 : decode cX7_freeze 10 = .ok (.ifCond .ne 19, 3) := by decide +kernel
theorem dX7_freeze_13 : decode cX7_freeze 13 = .ok (.aload_n 0, 1) := by decide +kernel
theorem dX7_freeze_14 : decode cX7_freeze 14 = .ok (.getfield 31, 3) := by decide +kernel
theorem dX7_freeze_17 : decode cX7_freeze 17 = .ok (.iload_n 3, 1) := by decide +kernel
theorem dX7_freeze_18 : decode cX7_freeze 18 = .ok (.laload, 1) := by decide +kernel
theorem dX7_freeze_19 : decode cX7_freeze 19 = .ok (.ldc2_w 106, 3) := by decide +kernel
theorem dX7_freeze_22 : decode cX7_freeze 22 = .ok (.iload_n 1, 1) := by decide +kernel
theorem dX7_freeze_23 : decode cX7_freeze 23 = .ok (.i2l, 1) := by decide +kernel
theorem dX7_freeze_24 : decode cX7_freeze 24 = .ok (.lmul, 1) := by decide +kernel
theorem dX7_freeze_25 : decode cX7_freeze 25 = .ok (.lcmp, 1) := by decide +kernel
theorem dX7_freeze_26 : decode cX7_freeze 26 = .ok (.ifCond .gt 7, 3) := by decide +kernel
theorem dX7_freeze_29 : decode cX7_freeze 29 = .ok (.iconst 1, 1) := by decide +kernel
theorem dX7_freeze_30 : decode cX7_freeze 30 = .ok (.goto 4, 3) := by decide +kernel
theorem dX7_freeze_33 : decode cX7_freeze 33 = .ok (.iconst 0, 1) := by decide +kernel
theorem dX7_freeze_34 : decode cX7_freeze 34 = .ok (.istore_n 2, 1) := by decide +kernel
theorem dX7_freeze_35 : decode cX7_freeze 35 = .ok (.iinc 3 1, 3) := by decide +kernel
theorem dX7_freeze_38 : decode cX7_freeze 38 = .ok (.goto (-34), 3) := by decide +kernel
theorem dX7_freeze_41 : decode cX7_freeze 41 = .ok (.aload_n 0, 1) := by decide +kernel
theorem dX7_freeze_42 : decode cX7_freeze 42 = .ok (.getfield 108, 3) := by decide +kernel
theorem dX7_freeze_45 : decode cX7_freeze 45 = .ok (.sipush 601, 3) := by decide +kernel
theorem dX7_freeze_48 : decode cX7_freeze 48 = .ok (.if_icmp .ge 7, 3) := by decide +kernel
theorem dX7_freeze_51 : decode cX7_freeze 51 = .ok (.iconst 1, 1) := by decide +kernel
theorem dX7_freeze_52 : decode cX7_freeze 52 = .ok (.goto 4, 3) := by decide +kernel
theorem dX7_freeze_55 : decode cX7_freeze 55 = .ok (.iconst 0, 1) := by decide +kernel
theorem dX7_freeze_56 : decode cX7_freeze 56 = .ok (.istore_n 3, 1) := by decide +kernel
theorem dX7_freeze_57 : decode cX7_freeze 57 = .ok (.iload_n 3, 1) := by decide +kernel
theorem dX7_freeze_58 : decode cX7_freeze 58 = .ok (.ifCond .ne 15, 3) := by decide +kernel
theorem dX7_freeze_61 : decode cX7_freeze 61 = .ok (.iload_n 2, 1) := by decide +kernel
theorem dX7_freeze_62 : decode cX7_freeze 62 = .ok (.ifCond .eq 11, 3) := by decide +kernel
theorem dX7_freeze_65 : decode cX7_freeze 65 = .ok (.aload_n 0, 1) := by decide +kernel
theorem dX7_freeze_66 : decode cX7_freeze 66 = .ok (.aload_n 0, 1) := by decide +kernel
theorem dX7_freeze_67 : decode cX7_freeze 67 = .ok (.getfield 112, 3) := by decide +kernel
theorem dX7_freeze_70 : decode cX7_freeze 70 = .ok (.putfield 108, 3) := by decide +kernel
theorem dX7_freeze_73 : decode cX7_freeze 73 = .ok (.iconst 0, 1) := by decide +kernel
theorem dX7_freeze_74 : decode cX7_freeze 74 = .ok (.istore 4, 2) := by decide +kernel
theorem dX7_freeze_76 : decode cX7_freeze 76 = .ok (.iload 4, 2) := by decide +kernel
theorem dX7_freeze_78 : decode cX7_freeze 78 = .ok (.iconst 4, 1) := by decide +kernel
theorem dX7_freeze_79 : decode cX7_freeze 79 = .ok (.if_icmp .ge 63, 3) := by decide +kernel
theorem dX7_freeze_82 : decode cX7_freeze 82 = .ok (.aload_n 0, 1) := by decide +kernel
theorem dX7_freeze_83 : decode cX7_freeze 83 = .ok (.getfield 108, 3) := by decide +kernel
theorem dX7_freeze_86 : decode cX7_freeze 86 = .ok (.sipush 601, 3) := by decide +kernel
theorem dX7_freeze_89 : decode cX7_freeze 89 = .ok (.if_icmp .ge 53, 3) := by decide +kernel
theorem dX7_freeze_92 : decode cX7_freeze 92 = .ok (.aload_n 0, 1) := by decide +kernel
theorem dX7_freeze_93 : decode cX7_freeze 93 = .ok (.getfield 31, 3) := by decide +kernel
theorem dX7_freeze_96 : decode cX7_freeze 96 = .ok (.iload 4, 2) := by decide +kernel
theorem dX7_freeze_98 : decode cX7_freeze 98 = .ok (.laload, 1) := by decide +kernel
theorem dX7_freeze_99 : decode cX7_freeze 99 = .ok (.lconst 0, 1) := by decide +kernel
theorem dX7_freeze_100 : decode cX7_freeze 100 = .ok (.lcmp, 1) := by decide +kernel
theorem dX7_freeze_101 : decode cX7_freeze 101 = .ok (.ifCond .ge 35, 3) := by decide +kernel
theorem dX7_freeze_104 : decode cX7_freeze 104 = .ok (.aload_n 0, 1) := by decide +kernel
theorem dX7_freeze_105 : decode cX7_freeze 105 = .ok (.dup, 1) := by decide +kernel
theorem dX7_freeze_106 : decode cX7_freeze 106 = .ok (.getfield 115, 3) := by decide +kernel
theorem dX7_freeze_109 : decode cX7_freeze 109 = .ok (.iload_n 3, 1) := by decide +kernel
theorem dX7_freeze_110 : decode cX7_freeze 110 = .ok (.ifCond .eq 13, 3) := by decide +kernel
theorem dX7_freeze_113 : decode cX7_freeze 113 = .ok (.aload_n 0, 1) := by decide +kernel
theorem dX7_freeze_114 : decode cX7_freeze 114 = .ok (.getfield 31, 3) := by decide +kernel
theorem dX7_freeze_117 : decode cX7_freeze 117 = .ok (.iload 4, 2) := by decide +kernel
theorem dX7_freeze_119 : decode cX7_freeze 119 = .ok (.laload, 1) := by decide +kernel
theorem dX7_freeze_120 : decode cX7_freeze 120 = .ok (.goto 4, 3) := by decide +kernel
theorem dX7_freeze_123 : decode cX7_freeze 123 = .ok (.lconst 0, 1) := by decide +kernel
theorem dX7_freeze_124 : decode cX7_freeze 124 = .ok (.lsub, 1) := by decide +kernel
theorem dX7_freeze_125 : decode cX7_freeze 125 = .ok (.putfield 115, 3) := by decide +kernel
theorem dX7_freeze_128 : decode cX7_freeze 128 = .ok (.aload_n 0, 1) := by decide +kernel
theorem dX7_freeze_129 : decode cX7_freeze 129 = .ok (.getfield 31, 3) := by decide +kernel
theorem dX7_freeze_132 : decode cX7_freeze 132 = .ok (.iload 4, 2) := by decide +kernel
theorem dX7_freeze_134 : decode cX7_freeze 134 = .ok (.lconst 0, 1) := by decide +kernel
theorem dX7_freeze_135 : decode cX7_freeze 135 = .ok (.lastore, 1) := by decide +kernel
theorem dX7_freeze_136 : decode cX7_freeze 136 = .ok (.iinc 4 1, 3) := by decide +kernel
theorem dX7_freeze_139 : decode cX7_freeze 139 = .ok (.goto (-63), 3) := by decide +kernel
theorem dX7_freeze_142 : decode cX7_freeze 142 = .ok (.iload_n 3, 1) := by decide +kernel
theorem dX7_freeze_143 : decode cX7_freeze 143 = .ok (.ifCond .eq 31, 3) := by decide +kernel
theorem dX7_freeze_146 : decode cX7_freeze 146 = .ok (.aload_n 0, 1) := by decide +kernel
theorem dX7_freeze_147 : decode cX7_freeze 147 = .ok (.getfield 115, 3) := by decide +kernel
theorem dX7_freeze_150 : decode cX7_freeze 150 = .ok (.ldc2_w 80, 3) := by decide +kernel
theorem dX7_freeze_153 : decode cX7_freeze 153 = .ok (.aload_n 0, 1) := by decide +kernel
theorem dX7_freeze_154 : decode cX7_freeze 154 = .ok (.getfield 19, 3) := by decide +kernel
theorem dX7_freeze_157 : decode cX7_freeze 157 = .ok (.bipush 8, 2) := by decide +kernel
theorem dX7_freeze_159 : decode cX7_freeze 159 = .ok (.iaload, 1) := by decide +kernel
theorem dX7_freeze_160 : decode cX7_freeze 160 = .ok (.i2l, 1) := by decide +kernel
theorem dX7_freeze_161 : decode cX7_freeze 161 = .ok (.lmul, 1) := by decide +kernel
theorem dX7_freeze_162 : decode cX7_freeze 162 = .ok (.lcmp, 1) := by decide +kernel
theorem dX7_freeze_163 : decode cX7_freeze 163 = .ok (.ifCond .lt 11, 3) := by decide +kernel
theorem dX7_freeze_166 : decode cX7_freeze 166 = .ok (.aload_n 0, 1) := by decide +kernel
theorem dX7_freeze_167 : decode cX7_freeze 167 = .ok (.aload_n 0, 1) := by decide +kernel
theorem dX7_freeze_168 : decode cX7_freeze 168 = .ok (.getfield 112, 3) := by decide +kernel
theorem dX7_freeze_171 : decode cX7_freeze 171 = .ok (.putfield 118, 3) := by decide +kernel
theorem dX7_freeze_174 : decode cX7_freeze 174 = .ok (.iconst 0, 1) := by decide +kernel
theorem dX7_freeze_175 : decode cX7_freeze 175 = .ok (.istore 4, 2) := by decide +kernel
theorem dX7_freeze_177 : decode cX7_freeze 177 = .ok (.iload 4, 2) := by decide +kernel
theorem dX7_freeze_179 : decode cX7_freeze 179 = .ok (.iconst 4, 1) := by decide +kernel
theorem dX7_freeze_180 : decode cX7_freeze 180 = .ok (.if_icmp .ge 55, 3) := by decide +kernel
theorem dX7_freeze_183 : decode cX7_freeze 183 = .ok (.aload_n 0, 1) := by decide +kernel
theorem dX7_freeze_184 : decode cX7_freeze 184 = .ok (.getfield 38, 3) := by decide +kernel
theorem dX7_freeze_187 : decode cX7_freeze 187 = .ok (.iload 4, 2) := by decide +kernel
theorem dX7_freeze_189 : decode cX7_freeze 189 = .ok (.aload_n 0, 1) := by decide +kernel
theorem dX7_freeze_190 : decode cX7_freeze 190 = .ok (.getfield 38, 3) := by decide +kernel
theorem dX7_freeze_193 : decode cX7_freeze 193 = .ok (.iload 4, 2) := by decide +kernel
theorem dX7_freeze_195 : decode cX7_freeze 195 = .ok (.iaload, 1) := by decide +kernel
theorem dX7_freeze_196 : decode cX7_freeze 196 = .ok (.sipush 601, 3) := by decide +kernel
theorem dX7_freeze_199 : decode cX7_freeze 199 = .ok (.if_icmp .ne 22, 3) := by decide +kernel
theorem dX7_freeze_202 : decode cX7_freeze 202 = .ok (.aload_n 0, 1) := by decide +kernel
theorem dX7_freeze_203 : decode cX7_freeze 203 = .ok (.getfield 31, 3) := by decide +kernel
theorem dX7_freeze_206 : decode cX7_freeze 206 = .ok (.iload 4, 2) := by decide +kernel
theorem dX7_freeze_208 : decode cX7_freeze 208 = .ok (.laload, 1) := by decide +kernel
theorem dX7_freeze_209 : decode cX7_freeze 209 = .ok (.lconst 0, 1) := by decide +kernel
theorem dX7_freeze_210 : decode cX7_freeze 210 = .ok (.lcmp, 1) := by decide +kernel
theorem dX7_freeze_211 : decode cX7_freeze 211 = .ok (.ifCond .gt 10, 3) := by decide +kernel
theorem dX7_freeze_214 : decode cX7_freeze 214 = .ok (.aload_n 0, 1) := by decide +kernel
theorem dX7_freeze_215 : decode cX7_freeze 215 = .ok (.getfield 112, 3) := by decide +kernel
theorem dX7_freeze_218 : decode cX7_freeze 218 = .ok (.goto 10, 3) := by decide +kernel
theorem dX7_freeze_221 : decode cX7_freeze 221 = .ok (.aload_n 0, 1) := by decide +kernel
theorem dX7_freeze_222 : decode cX7_freeze 222 = .ok (.getfield 38, 3) := by decide +kernel
theorem dX7_freeze_225 : decode cX7_freeze 225 = .ok (.iload 4, 2) := by decide +kernel
theorem dX7_freeze_227 : decode cX7_freeze 227 = .ok (.iaload, 1) := by decide +kernel
theorem dX7_freeze_228 : decode cX7_freeze 228 = .ok (.iastore, 1) := by decide +kernel
theorem dX7_freeze_229 : decode cX7_freeze 229 = .ok (.iinc 4 1, 3) := by decide +kernel
theorem dX7_freeze_232 : decode cX7_freeze 232 = .ok (.goto (-55), 3) := by decide +kernel
theorem dX7_freeze_235 : decode cX7_freeze 235 = .ok (.return_, 1) := by decide +kernel
set_option maxRecDepth 20000 in
theorem ggX7_run_X7_cool : GoodIn wsX7_run wsX7_cool := goodIn_r _ [17, 1, 8, 7, 18, 2, 4, 19, 6, 20, 21, 22, 16, 23, 24, 25, 26, 27, 28, 34, 35, 36, 37, 38, 39, 40, 41, 42, 43, 44, 45, 46, 47, 48, 49, 50, 51, 52, 53, 54, 55, 56] (by decide +kernel) (by decide +kernel)
set_option maxRecDepth 20000 in
theorem gX7_run_X7_cool : GoodIn wsX7_run (wsV RX7 121 RX7 yX7_cool wsX7_cool) := goodIn_app (goodIn_of _ (by decide +kernel)) ggX7_run_X7_cool
set_option maxRecDepth 20000 in
theorem ggX7_run_X7_freeze : GoodIn wsX7_run wsX7_freeze := goodIn_r _ [32, 1, 33, 10, 12, 9, 24, 7, 11, 3, 34, 35, 36, 37, 38, 39, 40, 41, 42, 43, 44, 45, 46, 47, 48, 49, 50, 51, 52, 53, 54, 55, 56] (by decide +kernel) (by decide +kernel)
set_option maxRecDepth 20000 in
theorem gX7_run_X7_freeze : GoodIn wsX7_run (wsV RX7 125 RX7 yX7_freeze wsX7_freeze) := goodIn_app (goodIn_of _ (by decide +kernel)) ggX7_run_X7_freeze
theorem dX7_run_0 : decode cX7_run 0 = .ok (.iconst 0, 1) := by decide +kernel
theorem dX7_run_1 : decode cX7_run 1 = .ok (.istore 6, 2) := by decide +kernel
theorem dX7_run_3 : decode cX7_run 3 = .ok (.iload 6, 2) := by decide +kernel
theorem dX7_run_5 : decode cX7_run 5 = .ok (.iconst 4, 1) := by decide +kernel
theorem dX7_run_6 : decode cX7_run 6 = .ok (.if_icmp .ge 32, 3) := by decide +kernel
theorem dX7_run_9 : decode cX7_run 9 = .ok (.aload_n 0, 1) := by decide +kernel
theorem dX7_run_10 : decode cX7_run 10 = .ok (.getfield 31, 3) := by decide +kernel
theorem dX7_run_13 : decode cX7_run 13 = .ok (.iload 6, 2) := by decide +kernel
theorem dX7_run_15 : decode cX7_run 15 = .ok (.ldc2_w 88, 3) := by decide +kernel
theorem dX7_run_18 : decode cX7_run 18 = .ok (.iload_n 2, 1) := by decide +kernel
theorem dX7_run_19 : decode cX7_run 19 = .ok (.i2l, 1) := by decide +kernel
theorem dX7_run_20 : decode cX7_run 20 = .ok (.lmul, 1) := by decide +kernel
theorem dX7_run_21 : decode cX7_run 21 = .ok (.lastore, 1) := by decide +kernel
theorem dX7_run_22 : decode cX7_run 22 = .ok (.aload_n 0, 1) := by decide +kernel
theorem dX7_run_23 : decode cX7_run 23 = .ok (.getfield 38, 3) := by decide +kernel
theorem dX7_run_26 : decode cX7_run 26 = .ok (.iload 6, 2) := by decide +kernel
theorem dX7_run_28 : decode cX7_run 28 = .ok (.sipush 601, 3) := by decide +kernel
theorem dX7_run_31 : decode cX7_run 31 = .ok (.iastore, 1) := by decide +kernel
theorem dX7_run_32 : decode cX7_run 32 = .ok (.iinc 6 1, 3) := by decide +kernel
theorem dX7_run_35 : decode cX7_run 35 = .ok (.goto (-32), 3) := by decide +kernel
theorem dX7_run_38 : decode cX7_run 38 = .ok (.aload_n 0, 1) := by decide +kernel
theorem dX7_run_39 : decode cX7_run 39 = .ok (.ldc2_w 90, 3) := by decide +kernel
theorem dX7_run_42 : decode cX7_run 42 = .ok (.aload_n 0, 1) := by decide +kernel
theorem dX7_run_43 : decode cX7_run 43 = .ok (.getfield 13, 3) := by decide +kernel
theorem dX7_run_46 : decode cX7_run 46 = .ok (.iload_n 1, 1) := by decide +kernel
theorem dX7_run_47 : decode cX7_run 47 = .ok (.iaload, 1) := by decide +kernel
theorem dX7_run_48 : decode cX7_run 48 = .ok (.i2l, 1) := by decide +kernel
theorem dX7_run_49 : decode cX7_run 49 = .ok (.lmul, 1) := by decide +kernel
theorem dX7_run_50 : decode cX7_run 50 = .ok (.putfield 94, 3) := by decide +kernel
theorem dX7_run_53 : decode cX7_run 53 = .ok (.aload_n 0, 1) := by decide +kernel
theorem dX7_run_54 : decode cX7_run 54 = .ok (.aload_n 0, 1) := by decide +kernel
theorem dX7_run_55 : decode cX7_run 55 = .ok (.getfield 19, 3) := by decide +kernel
theorem dX7_run_58 : decode cX7_run 58 = .ok (.bipush 7, 2) := by decide +kernel
theorem dX7_run_60 : decode cX7_run 60 = .ok (.iaload, 1) := by decide +kernel
theorem dX7_run_61 : decode cX7_run 61 = .ok (.i2l, 1) := by decide +kernel
theorem dX7_run_62 : decode cX7_run 62 = .ok (.putfield 84, 3) := by decide +kernel
theorem dX7_run_65 : decode cX7_run 65 = .ok (.aload_n 0, 1) := by decide +kernel
theorem dX7_run_66 : decode cX7_run 66 = .ok (.lconst 0, 1) := by decide +kernel
theorem dX7_run_67 : decode cX7_run 67 = .ok (.putfield 115, 3) := by decide +kernel
theorem dX7_run_70 : decode cX7_run 70 = .ok (.aload_n 0, 1) := by decide +kernel
theorem dX7_run_71 : decode cX7_run 71 = .ok (.sipush 601, 3) := by decide +kernel
theorem dX7_run_74 : decode cX7_run 74 = .ok (.putfield 108, 3) := by decide +kernel
theorem dX7_run_77 : decode cX7_run 77 = .ok (.aload_n 0, 1) := by decide +kernel
theorem dX7_run_78 : decode cX7_run 78 = .ok (.sipush 601, 3) := by decide +kernel
theorem dX7_run_81 : decode cX7_run 81 = .ok (.putfield 118, 3) := by decide +kernel
theorem dX7_run_84 : decode cX7_run 84 = .ok (.aload_n 0, 1) := by decide +kernel
theorem dX7_run_85 : decode cX7_run 85 = .ok (.iconst 0, 1) := by decide +kernel
theorem dX7_run_86 : decode cX7_run 86 = .ok (.putfield 112, 3) := by decide +kernel
theorem dX7_run_89 : decode cX7_run 89 = .ok (.aload_n 0, 1) := by decide +kernel
theorem dX7_run_90 : decode cX7_run 90 = .ok (.getfield 112, 3) := by decide +kernel
theorem dX7_run_93 : decode cX7_run 93 = .ok (.iload 5, 2) := by decide +kernel
theorem dX7_run_95 : decode cX7_run 95 = .ok (.if_icmp .ge 37, 3) := by decide +kernel
theorem dX7_run_98 : decode cX7_run 98 = .ok (.aload_n 0, 1) := by decide +kernel
theorem dX7_run_99 : decode cX7_run 99 = .ok (.getfield 118, 3) := by decide +kernel
theorem dX7_run_102 : decode cX7_run 102 = .ok (.sipush 601, 3) := by decide +kernel
theorem dX7_run_105 : decode cX7_run 105 = .ok (.if_icmp .ne 27, 3) := by decide +kernel
theorem dX7_run_108 : decode cX7_run 108 = .ok (.aload_n 0, 1) := by decide +kernel
theorem dX7_run_109 : decode cX7_run 109 = .ok (.dup, 1) := by decide +kernel
theorem dX7_run_110 : decode cX7_run 110 = .ok (.getfield 112, 3) := by decide +kernel
theorem dX7_run_113 : decode cX7_run 113 = .ok (.iconst 1, 1) := by decide +kernel
theorem dX7_run_114 : decode cX7_run 114 = .ok (.iadd, 1) := by decide +kernel
theorem dX7_run_115 : decode cX7_run 115 = .ok (.putfield 112, 3) := by decide +kernel
theorem dX7_run_118 : decode cX7_run 118 = .ok (.aload_n 0, 1) := by decide +kernel
theorem dX7_run_119 : decode cX7_run 119 = .ok (.iload 4, 2) := by decide +kernel
theorem dX7_run_121 : decode cX7_run 121 = .ok (.invokevirtual 121, 3) := by decide +kernel
theorem dX7_run_124 : decode cX7_run 124 = .ok (.aload_n 0, 1) := by decide +kernel
theorem dX7_run_125 : decode cX7_run 125 = .ok (.iload_n 3, 1) := by decide +kernel
theorem dX7_run_126 : decode cX7_run 126 = .ok (.invokevirtual 125, 3) := by decide +kernel
theorem dX7_run_129 : decode cX7_run 129 = .ok (.goto (-40), 3) := by decide +kernel
theorem dX7_run_132 : decode cX7_run 132 = .ok (.return_, 1) := by decide +kernel
set_option maxRecDepth 20000 in
theorem ggX7_timeOf_X7_run : GoodIn wsX7_timeOf wsX7_run := goodIn_r _ [9, 10, 11, 2, 12, 13, 14, 3, 15, 16, 1, 4, 17, 18, 19, 20, 8, 21, 22, 23, 24, 25, 26, 27, 28, 29, 30, 31, 32, 33, 34, 35, 36, 37, 38, 39, 40, 41, 42, 43, 44, 45, 46, 47, 48, 49, 50, 51, 52, 53, 54, 55, 56, 57, 58, 59, 60] (by decide +kernel) (by decide +kernel)
set_option maxRecDepth 20000 in
theorem gX7_timeOf_X7_run : GoodIn wsX7_timeOf (wsV RX7 128 RX7 yX7_run wsX7_run) := goodIn_app (goodIn_of _ (by decide +kernel)) ggX7_timeOf_X7_run
theorem dX7_timeOf_0 : decode cX7_timeOf 0 = .ok (.aload_n 0, 1) := by decide +kernel
theorem dX7_timeOf_1 : decode cX7_timeOf 1 = .ok (.iload_n 1, 1) := by decide +kernel
theorem dX7_timeOf_2 : decode cX7_timeOf 2 = .ok (.iload_n 2, 1) := by decide +kernel
theorem dX7_timeOf_3 : decode cX7_timeOf 3 = .ok (.iload_n 3, 1) := by decide +kernel
theorem dX7_timeOf_4 : decode cX7_timeOf 4 = .ok (.iload 4, 2) := by decide +kernel
theorem dX7_timeOf_6 : decode cX7_timeOf 6 = .ok (.sipush 600, 3) := by decide +kernel
theorem dX7_timeOf_9 : decode cX7_timeOf 9 = .ok (.invokevirtual 128, 3) := by decide +kernel
theorem dX7_timeOf_12 : decode cX7_timeOf 12 = .ok (.iload 5, 2) := by decide +kernel
theorem dX7_timeOf_14 : decode cX7_timeOf 14 = .ok (.ifCond .ne 10, 3) := by decide +kernel
theorem dX7_timeOf_17 : decode cX7_timeOf 17 = .ok (.aload_n 0, 1) := by decide +kernel
theorem dX7_timeOf_18 : decode cX7_timeOf 18 = .ok (.getfield 108, 3) := by decide +kernel
theorem dX7_timeOf_21 : decode cX7_timeOf 21 = .ok (.goto 28, 3) := by decide +kernel
theorem dX7_timeOf_24 : decode cX7_timeOf 24 = .ok (.iload 5, 2) := by decide +kernel
theorem dX7_timeOf_26 : decode cX7_timeOf 26 = .ok (.iconst 1, 1) := by decide +kernel
theorem dX7_timeOf_27 : decode cX7_timeOf 27 = .ok (.if_icmp .ne 18, 3) := by decide +kernel
theorem dX7_timeOf_30 : decode cX7_timeOf 30 = .ok (.aload_n 0, 1) := by decide +kernel
theorem dX7_timeOf_31 : decode cX7_timeOf 31 = .ok (.getfield 38, 3) := by decide +kernel
theorem dX7_timeOf_34 : decode cX7_timeOf 34 = .ok (.aload_n 0, 1) := by decide +kernel
theorem dX7_timeOf_35 : decode cX7_timeOf 35 = .ok (.getfield 19, 3) := by decide +kernel
theorem dX7_timeOf_38 : decode cX7_timeOf 38 = .ok (.bipush 9, 2) := by decide +kernel
theorem dX7_timeOf_40 : decode cX7_timeOf 40 = .ok (.iaload, 1) := by decide +kernel
theorem dX7_timeOf_41 : decode cX7_timeOf 41 = .ok (.iaload, 1) := by decide +kernel
theorem dX7_timeOf_42 : decode cX7_timeOf 42 = .ok (.goto 7, 3) := by decide +kernel
theorem dX7_timeOf_45 : decode cX7_timeOf 45 = .ok (.aload_n 0, 1) := by decide +kernel
theorem dX7_timeOf_46 : decode cX7_timeOf 46 = .ok (.getfield 118, 3) := by decide +kernel
theorem dX7_timeOf_49 : decode cX7_timeOf 49 = .ok (.ireturn, 1) := by decide +kernel
set_option maxRecDepth 20000 in
theorem ggX7_timeAs_X7_timeOf : GoodIn wsX7_timeAs wsX7_timeOf := goodIn_r _ [7, 8, 9, 2, 10, 11, 12, 13, 6, 14, 15, 16, 17, 18, 19, 20, 21, 22, 23, 24, 25, 26, 27, 28, 29, 30, 31, 32, 33, 34, 35, 36, 37, 38, 39, 40, 41, 42, 43, 44, 45, 46, 47, 48, 49, 50, 51, 52, 53, 54, 55, 56, 57, 58, 59, 60, 61, 62, 63, 64, 65] (by decide +kernel) (by decide +kernel)
set_option maxRecDepth 20000 in
theorem gX7_timeAs_X7_timeOf : GoodIn wsX7_timeAs (wsV RX7 132 RX7 yX7_timeOf wsX7_timeOf) := goodIn_app (goodIn_of _ (by decide +kernel)) ggX7_timeAs_X7_timeOf
theorem dX7_timeAs_0 : decode cX7_timeAs 0 = .ok (.aload_n 0, 1) := by decide +kernel
theorem dX7_timeAs_1 : decode cX7_timeAs 1 = .ok (.iload_n 1, 1) := by decide +kernel
theorem dX7_timeAs_2 : decode cX7_timeAs 2 = .ok (.aload_n 0, 1) := by decide +kernel
theorem dX7_timeAs_3 : decode cX7_timeAs 3 = .ok (.getfield 7, 3) := by decide +kernel
theorem dX7_timeAs_6 : decode cX7_timeAs 6 = .ok (.iload_n 1, 1) := by decide +kernel
theorem dX7_timeAs_7 : decode cX7_timeAs 7 = .ok (.iaload, 1) := by decide +kernel
theorem dX7_timeAs_8 : decode cX7_timeAs 8 = .ok (.iload_n 2, 1) := by decide +kernel
theorem dX7_timeAs_9 : decode cX7_timeAs 9 = .ok (.aload_n 0, 1) := by decide +kernel
theorem dX7_timeAs_10 : decode cX7_timeAs 10 = .ok (.getfield 19, 3) := by decide +kernel
theorem dX7_timeAs_13 : decode cX7_timeAs 13 = .ok (.bipush 10, 2) := by decide +kernel
theorem dX7_timeAs_15 : decode cX7_timeAs 15 = .ok (.iaload, 1) := by decide +kernel
theorem dX7_timeAs_16 : decode cX7_timeAs 16 = .ok (.iload_n 3, 1) := by decide +kernel
theorem dX7_timeAs_17 : decode cX7_timeAs 17 = .ok (.invokevirtual 132, 3) := by decide +kernel
theorem dX7_timeAs_20 : decode cX7_timeAs 20 = .ok (.ireturn, 1) := by decide +kernel
set_option maxRecDepth 20000 in
theorem ggX7_time_X7_isTwo : GoodIn wsX7_time wsX7_isTwo := goodIn_r _ [4, 5, 6, 3, 7] (by decide +kernel) (by decide +kernel)
set_option maxRecDepth 20000 in
theorem gX7_time_X7_isTwo : GoodIn wsX7_time (va_wsS RX7 66 yX7_isTwo wsX7_isTwo) := goodIn_app (goodIn_of _ (by decide +kernel)) ggX7_time_X7_isTwo
set_option maxRecDepth 20000 in
theorem ggX7_time_X7_isDegree : GoodIn wsX7_time wsX7_isDegree := goodIn_r _ [10, 5, 6, 3, 7] (by decide +kernel) (by decide +kernel)
set_option maxRecDepth 20000 in
theorem gX7_time_X7_isDegree : GoodIn wsX7_time (va_wsS RX7 136 yX7_isDegree wsX7_isDegree) := goodIn_app (goodIn_of _ (by decide +kernel)) ggX7_time_X7_isDegree
set_option maxRecDepth 20000 in
theorem ggX7_time_X7_isMeaning : GoodIn wsX7_time wsX7_isMeaning := goodIn_r _ [13, 5, 6, 3, 7] (by decide +kernel) (by decide +kernel)
set_option maxRecDepth 20000 in
theorem gX7_time_X7_isMeaning : GoodIn wsX7_time (va_wsS RX7 139 yX7_isMeaning wsX7_isMeaning) := goodIn_app (goodIn_of _ (by decide +kernel)) ggX7_time_X7_isMeaning
set_option maxRecDepth 20000 in
theorem ggX7_time_X7_timeAs : GoodIn wsX7_time wsX7_timeAs := goodIn_r _ [17, 18, 19, 20, 21, 22, 3, 23, 24, 25, 26, 27, 28, 29, 30, 31, 32, 33, 34, 35, 36, 37, 38, 39, 40, 41, 42, 43, 44, 45, 46, 47, 48, 49, 50, 51, 52, 53, 54, 55, 56, 57, 58, 59, 60, 61, 62, 63, 64, 65, 66, 67, 68, 69, 70, 71, 72, 73, 74, 75, 76, 77, 78, 79, 80, 81] (by decide +kernel) (by decide +kernel)
set_option maxRecDepth 20000 in
theorem gX7_time_X7_timeAs : GoodIn wsX7_time (wsV RX7 142 RX7 yX7_timeAs wsX7_timeAs) := goodIn_app (goodIn_of _ (by decide +kernel)) ggX7_time_X7_timeAs
theorem dX7_time_0 : decode cX7_time 0 = .ok (.iload_n 1, 1) := by decide +kernel
theorem dX7_time_1 : decode cX7_time 1 = .ok (.invokestatic 66, 3) := by decide +kernel
theorem dX7_time_4 : decode cX7_time 4 = .ok (.ifCond .ne 5, 3) := by decide +kernel
theorem dX7_time_7 : decode cX7_time 7 = .ok (.iconst (-1), 1) := by decide +kernel
theorem dX7_time_8 : decode cX7_time 8 = .ok (.ireturn, 1) := by decide +kernel
theorem dX7_time_9 : decode cX7_time 9 = .ok (.iload_n 2, 1) := by decide +kernel
theorem dX7_time_10 : decode cX7_time 10 = .ok (.invokestatic 136, 3) := by decide +kernel
theorem dX7_time_13 : decode cX7_time 13 = .ok (.ifCond .eq 20, 3) := by decide +kernel
theorem dX7_time_16 : decode cX7_time 16 = .ok (.iload_n 3, 1) := by decide +kernel
theorem dX7_time_17 : decode cX7_time 17 = .ok (.invokestatic 139, 3) := by decide +kernel
theorem dX7_time_20 : decode cX7_time 20 = .ok (.ifCond .eq 13, 3) := by decide +kernel
theorem dX7_time_23 : decode cX7_time 23 = .ok (.aload_n 0, 1) := by decide +kernel
theorem dX7_time_24 : decode cX7_time 24 = .ok (.iload_n 1, 1) := by decide +kernel
theorem dX7_time_25 : decode cX7_time 25 = .ok (.iload_n 2, 1) := by decide +kernel
theorem dX7_time_26 : decode cX7_time 26 = .ok (.iload_n 3, 1) := by decide +kernel
theorem dX7_time_27 : decode cX7_time 27 = .ok (.invokevirtual 142, 3) := by decide +kernel
theorem dX7_time_30 : decode cX7_time 30 = .ok (.goto 5, 3) := by decide +kernel
theorem dX7_time_33 : decode cX7_time 33 = .ok (.bipush (-2), 2) := by decide +kernel
theorem dX7_time_35 : decode cX7_time 35 = .ok (.ireturn, 1) := by decide +kernel
set_option maxRecDepth 20000 in
theorem ggX7_at_X7_isTwo : GoodIn wsX7_at wsX7_isTwo := goodIn_r _ [12, 13, 14, 11, 15] (by decide +kernel) (by decide +kernel)
set_option maxRecDepth 20000 in
theorem gX7_at_X7_isTwo : GoodIn wsX7_at (va_wsS RX7 66 yX7_isTwo wsX7_isTwo) := goodIn_app (goodIn_of _ (by decide +kernel)) ggX7_at_X7_isTwo
set_option maxRecDepth 20000 in
theorem ggX7_at_X7_isDegree : GoodIn wsX7_at wsX7_isDegree := goodIn_r _ [18, 13, 14, 11, 15] (by decide +kernel) (by decide +kernel)
set_option maxRecDepth 20000 in
theorem gX7_at_X7_isDegree : GoodIn wsX7_at (va_wsS RX7 136 yX7_isDegree wsX7_isDegree) := goodIn_app (goodIn_of _ (by decide +kernel)) ggX7_at_X7_isDegree
set_option maxRecDepth 20000 in
theorem ggX7_at_X7_in : GoodIn wsX7_at wsX7_in := goodIn_r _ [15] (by decide +kernel) (by decide +kernel)
set_option maxRecDepth 20000 in
theorem gX7_at_X7_in : GoodIn wsX7_at (va_wsS RX7 60 yX7_in wsX7_in) := goodIn_app (goodIn_of _ (by decide +kernel)) ggX7_at_X7_in
set_option maxRecDepth 20000 in
theorem ggX7_at_X7_run : GoodIn wsX7_at wsX7_run := goodIn_r _ [22, 5, 23, 24, 25, 26, 6, 4, 7, 8, 27, 28, 29, 30, 31, 32, 11, 33, 34, 35, 36, 37, 38, 39, 40, 41, 42, 43, 44, 45, 46, 47, 48, 49, 50, 51, 52, 53, 54, 55, 56, 57, 58, 59, 60, 61, 62, 63, 64, 65, 66, 67, 68, 69, 70, 71, 72] (by decide +kernel) (by decide +kernel)
set_option maxRecDepth 20000 in
theorem gX7_at_X7_run : GoodIn wsX7_at (wsV RX7 128 RX7 yX7_run wsX7_run) := goodIn_app (goodIn_of _ (by decide +kernel)) ggX7_at_X7_run
theorem dX7_at_0 : decode cX7_at 0 = .ok (.iload_n 1, 1) := by decide +kernel
theorem dX7_at_1 : decode cX7_at 1 = .ok (.invokestatic 66, 3) := by decide +kernel
theorem dX7_at_4 : decode cX7_at 4 = .ok (.ifCond .ne 6, 3) := by decide +kernel
theorem dX7_at_7 : decode cX7_at 7 = .ok (.ldc 146, 2) := by decide +kernel
theorem dX7_at_9 : decode cX7_at 9 = .ok (.ireturn, 1) := by decide +kernel
theorem dX7_at_10 : decode cX7_at 10 = .ok (.iload_n 2, 1) := by decide +kernel
theorem dX7_at_11 : decode cX7_at 11 = .ok (.invokestatic 136, 3) := by decide +kernel
theorem dX7_at_14 : decode cX7_at 14 = .ok (.ifCond .eq 25, 3) := by decide +kernel
theorem dX7_at_17 : decode cX7_at 17 = .ok (.iload_n 3, 1) := by decide +kernel
theorem dX7_at_18 : decode cX7_at 18 = .ok (.iconst 0, 1) := by decide +kernel
theorem dX7_at_19 : decode cX7_at 19 = .ok (.sipush 600, 3) := by decide +kernel
theorem dX7_at_22 : decode cX7_at 22 = .ok (.invokestatic 60, 3) := by decide +kernel
theorem dX7_at_25 : decode cX7_at 25 = .ok (.ifCond .eq 14, 3) := by decide +kernel
theorem dX7_at_28 : decode cX7_at 28 = .ok (.iload 4, 2) := by decide +kernel
theorem dX7_at_30 : decode cX7_at 30 = .ok (.iconst 0, 1) := by decide +kernel
theorem dX7_at_31 : decode cX7_at 31 = .ok (.bipush 6, 2) := by decide +kernel
theorem dX7_at_33 : decode cX7_at 33 = .ok (.invokestatic 60, 3) := by decide +kernel
theorem dX7_at_36 : decode cX7_at 36 = .ok (.ifCond .ne 6, 3) := by decide +kernel
theorem dX7_at_39 : decode cX7_at 39 = .ok (.ldc 147, 2) := by decide +kernel
theorem dX7_at_41 : decode cX7_at 41 = .ok (.ireturn, 1) := by decide +kernel
theorem dX7_at_42 : decode cX7_at 42 = .ok (.aload_n 0, 1) := by decide +kernel
theorem dX7_at_43 : decode cX7_at 43 = .ok (.iload_n 1, 1) := by decide +kernel
theorem dX7_at_44 : decode cX7_at 44 = .ok (.aload_n 0, 1) := by decide +kernel
theorem dX7_at_45 : decode cX7_at 45 = .ok (.getfield 7, 3) := by decide +kernel
theorem dX7_at_48 : decode cX7_at 48 = .ok (.iload_n 1, 1) := by decide +kernel
theorem dX7_at_49 : decode cX7_at 49 = .ok (.iaload, 1) := by decide +kernel
theorem dX7_at_50 : decode cX7_at 50 = .ok (.iload_n 2, 1) := by decide +kernel
theorem dX7_at_51 : decode cX7_at 51 = .ok (.aload_n 0, 1) := by decide +kernel
theorem dX7_at_52 : decode cX7_at 52 = .ok (.getfield 19, 3) := by decide +kernel
theorem dX7_at_55 : decode cX7_at 55 = .ok (.bipush 10, 2) := by decide +kernel
theorem dX7_at_57 : decode cX7_at 57 = .ok (.iaload, 1) := by decide +kernel
theorem dX7_at_58 : decode cX7_at 58 = .ok (.iload_n 3, 1) := by decide +kernel
theorem dX7_at_59 : decode cX7_at 59 = .ok (.invokevirtual 128, 3) := by decide +kernel
theorem dX7_at_62 : decode cX7_at 62 = .ok (.iload 4, 2) := by decide +kernel
theorem dX7_at_64 : decode cX7_at 64 = .ok (.iconst 4, 1) := by decide +kernel
theorem dX7_at_65 : decode cX7_at 65 = .ok (.if_icmp .ge 13, 3) := by decide +kernel
theorem dX7_at_68 : decode cX7_at 68 = .ok (.aload_n 0, 1) := by decide +kernel
theorem dX7_at_69 : decode cX7_at 69 = .ok (.getfield 31, 3) := by decide +kernel
theorem dX7_at_72 : decode cX7_at 72 = .ok (.iload 4, 2) := by decide +kernel
theorem dX7_at_74 : decode cX7_at 74 = .ok (.laload, 1) := by decide +kernel
theorem dX7_at_75 : decode cX7_at 75 = .ok (.goto 33, 3) := by decide +kernel
theorem dX7_at_78 : decode cX7_at 78 = .ok (.iload 4, 2) := by decide +kernel
theorem dX7_at_80 : decode cX7_at 80 = .ok (.iconst 4, 1) := by decide +kernel
theorem dX7_at_81 : decode cX7_at 81 = .ok (.if_icmp .ne 10, 3) := by decide +kernel
theorem dX7_at_84 : decode cX7_at 84 = .ok (.aload_n 0, 1) := by decide +kernel
theorem dX7_at_85 : decode cX7_at 85 = .ok (.getfield 94, 3) := by decide +kernel
theorem dX7_at_88 : decode cX7_at 88 = .ok (.goto 20, 3) := by decide +kernel
theorem dX7_at_91 : decode cX7_at 91 = .ok (.iload 4, 2) := by decide +kernel
theorem dX7_at_93 : decode cX7_at 93 = .ok (.iconst 5, 1) := by decide +kernel
theorem dX7_at_94 : decode cX7_at 94 = .ok (.if_icmp .ne 10, 3) := by decide +kernel
theorem dX7_at_97 : decode cX7_at 97 = .ok (.aload_n 0, 1) := by decide +kernel
theorem dX7_at_98 : decode cX7_at 98 = .ok (.getfield 84, 3) := by decide +kernel
theorem dX7_at_101 : decode cX7_at 101 = .ok (.goto 7, 3) := by decide +kernel
theorem dX7_at_104 : decode cX7_at 104 = .ok (.aload_n 0, 1) := by decide +kernel
theorem dX7_at_105 : decode cX7_at 105 = .ok (.getfield 115, 3) := by decide +kernel
theorem dX7_at_108 : decode cX7_at 108 = .ok (.l2i, 1) := by decide +kernel
theorem dX7_at_109 : decode cX7_at 109 = .ok (.ireturn, 1) := by decide +kernel
set_option maxRecDepth 20000 in
theorem ggX7_glass_X7_isTwo : GoodIn wsX7_glass wsX7_isTwo := goodIn_r _ [7, 8, 9, 6, 10] (by decide +kernel) (by decide +kernel)
set_option maxRecDepth 20000 in
theorem gX7_glass_X7_isTwo : GoodIn wsX7_glass (va_wsS RX7 66 yX7_isTwo wsX7_isTwo) := goodIn_app (goodIn_of _ (by decide +kernel)) ggX7_glass_X7_isTwo
set_option maxRecDepth 20000 in
theorem ggX7_glass_X7_in : GoodIn wsX7_glass wsX7_in := goodIn_r _ [10] (by decide +kernel) (by decide +kernel)
set_option maxRecDepth 20000 in
theorem gX7_glass_X7_in : GoodIn wsX7_glass (va_wsS RX7 60 yX7_in wsX7_in) := goodIn_app (goodIn_of _ (by decide +kernel)) ggX7_glass_X7_in
set_option maxRecDepth 20000 in
theorem ggX7_glass_X7_isDegree : GoodIn wsX7_glass wsX7_isDegree := goodIn_r _ [13, 8, 9, 6, 10] (by decide +kernel) (by decide +kernel)
set_option maxRecDepth 20000 in
theorem gX7_glass_X7_isDegree : GoodIn wsX7_glass (va_wsS RX7 136 yX7_isDegree wsX7_isDegree) := goodIn_app (goodIn_of _ (by decide +kernel)) ggX7_glass_X7_isDegree
set_option maxRecDepth 20000 in
theorem ggX7_glass_X7_run : GoodIn wsX7_glass wsX7_run := goodIn_r _ [17, 18, 19, 3, 20, 21, 22, 2, 23, 24, 25, 26, 27, 28, 29, 30, 6, 31, 32, 33, 34, 35, 36, 37, 38, 39, 40, 41, 42, 43, 44, 45, 46, 47, 48, 49, 50, 51, 52, 53, 54, 55, 56, 57, 58, 59, 60, 61, 62, 63, 64, 65, 66, 67, 68, 69, 70] (by decide +kernel) (by decide +kernel)
set_option maxRecDepth 20000 in
theorem gX7_glass_X7_run : GoodIn wsX7_glass (wsV RX7 128 RX7 yX7_run wsX7_run) := goodIn_app (goodIn_of _ (by decide +kernel)) ggX7_glass_X7_run
theorem dX7_glass_0 : decode cX7_glass 0 = .ok (.iload_n 1, 1) := by decide +kernel
theorem dX7_glass_1 : decode cX7_glass 1 = .ok (.invokestatic 66, 3) := by decide +kernel
theorem dX7_glass_4 : decode cX7_glass 4 = .ok (.ifCond .eq 12, 3) := by decide +kernel
theorem dX7_glass_7 : decode cX7_glass 7 = .ok (.iload_n 3, 1) := by decide +kernel
theorem dX7_glass_8 : decode cX7_glass 8 = .ok (.iconst 0, 1) := by decide +kernel
theorem dX7_glass_9 : decode cX7_glass 9 = .ok (.iconst 3, 1) := by decide +kernel
theorem dX7_glass_10 : decode cX7_glass 10 = .ok (.invokestatic 60, 3) := by decide +kernel
theorem dX7_glass_13 : decode cX7_glass 13 = .ok (.ifCond .ne 5, 3) := by decide +kernel
theorem dX7_glass_16 : decode cX7_glass 16 = .ok (.iconst (-1), 1) := by decide +kernel
theorem dX7_glass_17 : decode cX7_glass 17 = .ok (.ireturn, 1) := by decide +kernel
theorem dX7_glass_18 : decode cX7_glass 18 = .ok (.iload_n 2, 1) := by decide +kernel
theorem dX7_glass_19 : decode cX7_glass 19 = .ok (.invokestatic 136, 3) := by decide +kernel
theorem dX7_glass_22 : decode cX7_glass 22 = .ok (.ifCond .ne 6, 3) := by decide +kernel
theorem dX7_glass_25 : decode cX7_glass 25 = .ok (.bipush (-2), 2) := by decide +kernel
theorem dX7_glass_27 : decode cX7_glass 27 = .ok (.ireturn, 1) := by decide +kernel
theorem dX7_glass_28 : decode cX7_glass 28 = .ok (.aload_n 0, 1) := by decide +kernel
theorem dX7_glass_29 : decode cX7_glass 29 = .ok (.iload_n 1, 1) := by decide +kernel
theorem dX7_glass_30 : decode cX7_glass 30 = .ok (.aload_n 0, 1) := by decide +kernel
theorem dX7_glass_31 : decode cX7_glass 31 = .ok (.getfield 7, 3) := by decide +kernel
theorem dX7_glass_34 : decode cX7_glass 34 = .ok (.iload_n 1, 1) := by decide +kernel
theorem dX7_glass_35 : decode cX7_glass 35 = .ok (.iaload, 1) := by decide +kernel
theorem dX7_glass_36 : decode cX7_glass 36 = .ok (.iload_n 2, 1) := by decide +kernel
theorem dX7_glass_37 : decode cX7_glass 37 = .ok (.aload_n 0, 1) := by decide +kernel
theorem dX7_glass_38 : decode cX7_glass 38 = .ok (.getfield 19, 3) := by decide +kernel
theorem dX7_glass_41 : decode cX7_glass 41 = .ok (.bipush 10, 2) := by decide +kernel
theorem dX7_glass_43 : decode cX7_glass 43 = .ok (.iaload, 1) := by decide +kernel
theorem dX7_glass_44 : decode cX7_glass 44 = .ok (.sipush 600, 3) := by decide +kernel
theorem dX7_glass_47 : decode cX7_glass 47 = .ok (.invokevirtual 128, 3) := by decide +kernel
theorem dX7_glass_50 : decode cX7_glass 50 = .ok (.aload_n 0, 1) := by decide +kernel
theorem dX7_glass_51 : decode cX7_glass 51 = .ok (.getfield 38, 3) := by decide +kernel
theorem dX7_glass_54 : decode cX7_glass 54 = .ok (.iload_n 3, 1) := by decide +kernel
theorem dX7_glass_55 : decode cX7_glass 55 = .ok (.iaload, 1) := by decide +kernel
theorem dX7_glass_56 : decode cX7_glass 56 = .ok (.ireturn, 1) := by decide +kernel
theorem dX7_firstOf_0 : decode cX7_firstOf 0 = .ok (.iload_n 0, 1) := by decide +kernel
theorem dX7_firstOf_1 : decode cX7_firstOf 1 = .ok (.iload_n 1, 1) := by decide +kernel
theorem dX7_firstOf_2 : decode cX7_firstOf 2 = .ok (.if_icmp .ge 7, 3) := by decide +kernel
theorem dX7_firstOf_5 : decode cX7_firstOf 5 = .ok (.iconst 0, 1) := by decide +kernel
theorem dX7_firstOf_6 : decode cX7_firstOf 6 = .ok (.goto 13, 3) := by decide +kernel
theorem dX7_firstOf_9 : decode cX7_firstOf 9 = .ok (.iload_n 1, 1) := by decide +kernel
theorem dX7_firstOf_10 : decode cX7_firstOf 10 = .ok (.iload_n 0, 1) := by decide +kernel
theorem dX7_firstOf_11 : decode cX7_firstOf 11 = .ok (.if_icmp .ge 7, 3) := by decide +kernel
theorem dX7_firstOf_14 : decode cX7_firstOf 14 = .ok (.iconst 1, 1) := by decide +kernel
theorem dX7_firstOf_15 : decode cX7_firstOf 15 = .ok (.goto 4, 3) := by decide +kernel
theorem dX7_firstOf_18 : decode cX7_firstOf 18 = .ok (.iconst 2, 1) := by decide +kernel
theorem dX7_firstOf_19 : decode cX7_firstOf 19 = .ok (.ireturn, 1) := by decide +kernel
set_option maxRecDepth 20000 in
theorem ggX7_first_X7_isMeaning : GoodIn wsX7_first wsX7_isMeaning := goodIn_r _ [4, 5, 6, 3, 7] (by decide +kernel) (by decide +kernel)
set_option maxRecDepth 20000 in
theorem gX7_first_X7_isMeaning : GoodIn wsX7_first (va_wsS RX7 139 yX7_isMeaning wsX7_isMeaning) := goodIn_app (goodIn_of _ (by decide +kernel)) ggX7_first_X7_isMeaning
set_option maxRecDepth 20000 in
theorem ggX7_first_X7_isDegree : GoodIn wsX7_first wsX7_isDegree := goodIn_r _ [10, 5, 6, 3, 7] (by decide +kernel) (by decide +kernel)
set_option maxRecDepth 20000 in
theorem gX7_first_X7_isDegree : GoodIn wsX7_first (va_wsS RX7 136 yX7_isDegree wsX7_isDegree) := goodIn_app (goodIn_of _ (by decide +kernel)) ggX7_first_X7_isDegree
set_option maxRecDepth 20000 in
theorem ggX7_first_X7_timeAs : GoodIn wsX7_first wsX7_timeAs := goodIn_r _ [14, 15, 16, 17, 18, 19, 3, 20, 21, 22, 23, 24, 25, 26, 27, 28, 29, 30, 31, 32, 33, 34, 35, 36, 37, 38, 39, 40, 41, 42, 43, 44, 45, 46, 47, 48, 49, 50, 51, 52, 53, 54, 55, 59, 60, 61, 62, 63, 64, 65, 66, 67, 68, 69, 70, 71, 72, 73, 74, 75, 76, 77, 78, 79, 80, 81] (by decide +kernel) (by decide +kernel)
set_option maxRecDepth 20000 in
theorem gX7_first_X7_timeAs : GoodIn wsX7_first (wsV RX7 142 RX7 yX7_timeAs wsX7_timeAs) := goodIn_app (goodIn_of _ (by decide +kernel)) ggX7_first_X7_timeAs
set_option maxRecDepth 20000 in
theorem ggX7_first_X7_firstOf : GoodIn wsX7_first wsX7_firstOf := goodIn_r _ [58] (by decide +kernel) (by decide +kernel)
set_option maxRecDepth 20000 in
theorem gX7_first_X7_firstOf : GoodIn wsX7_first (va_wsS RX7 148 yX7_firstOf wsX7_firstOf) := goodIn_app (goodIn_of _ (by decide +kernel)) ggX7_first_X7_firstOf
theorem dX7_first_0 : decode cX7_first 0 = .ok (.iload_n 1, 1) := by decide +kernel
theorem dX7_first_1 : decode cX7_first 1 = .ok (.invokestatic 139, 3) := by decide +kernel
theorem dX7_first_4 : decode cX7_first 4 = .ok (.ifCond .eq 17, 3) := by decide +kernel
theorem dX7_first_7 : decode cX7_first 7 = .ok (.iload_n 2, 1) := by decide +kernel
theorem dX7_first_8 : decode cX7_first 8 = .ok (.invokestatic 136, 3) := by decide +kernel
theorem dX7_first_11 : decode cX7_first 11 = .ok (.ifCond .eq 10, 3) := by decide +kernel
theorem dX7_first_14 : decode cX7_first 14 = .ok (.iload_n 3, 1) := by decide +kernel
theorem dX7_first_15 : decode cX7_first 15 = .ok (.invokestatic 136, 3) := by decide +kernel
theorem dX7_first_18 : decode cX7_first 18 = .ok (.ifCond .ne 6, 3) := by decide +kernel
theorem dX7_first_21 : decode cX7_first 21 = .ok (.bipush (-2), 2) := by decide +kernel
theorem dX7_first_23 : decode cX7_first 23 = .ok (.ireturn, 1) := by decide +kernel
theorem dX7_first_24 : decode cX7_first 24 = .ok (.aload_n 0, 1) := by decide +kernel
theorem dX7_first_25 : decode cX7_first 25 = .ok (.iconst 0, 1) := by decide +kernel
theorem dX7_first_26 : decode cX7_first 26 = .ok (.iload_n 2, 1) := by decide +kernel
theorem dX7_first_27 : decode cX7_first 27 = .ok (.iload_n 1, 1) := by decide +kernel
theorem dX7_first_28 : decode cX7_first 28 = .ok (.invokevirtual 142, 3) := by decide +kernel
theorem dX7_first_31 : decode cX7_first 31 = .ok (.istore 4, 2) := by decide +kernel
theorem dX7_first_33 : decode cX7_first 33 = .ok (.iload 4, 2) := by decide +kernel
theorem dX7_first_35 : decode cX7_first 35 = .ok (.aload_n 0, 1) := by decide +kernel
theorem dX7_first_36 : decode cX7_first 36 = .ok (.iconst 1, 1) := by decide +kernel
theorem dX7_first_37 : decode cX7_first 37 = .ok (.iload_n 3, 1) := by decide +kernel
theorem dX7_first_38 : decode cX7_first 38 = .ok (.iload_n 1, 1) := by decide +kernel
theorem dX7_first_39 : decode cX7_first 39 = .ok (.invokevirtual 142, 3) := by decide +kernel
theorem dX7_first_42 : decode cX7_first 42 = .ok (.invokestatic 148, 3) := by decide +kernel
theorem dX7_first_45 : decode cX7_first 45 = .ok (.ireturn, 1) := by decide +kernel
set_option maxRecDepth 20000 in
theorem ggX7_layTimes_X7_timeAs : GoodIn wsX7_layTimes wsX7_timeAs := goodIn_r _ [6, 7, 8, 9, 10, 11, 5, 12, 13, 14, 15, 16, 17, 18, 19, 20, 21, 22, 23, 24, 25, 26, 27, 28, 29, 30, 31, 32, 33, 34, 35, 36, 37, 38, 39, 40, 41, 42, 43, 44, 45, 46, 47, 48, 49, 50, 51, 52, 53, 54, 55, 56, 57, 58, 59, 60, 61, 62, 63, 64, 65, 66, 67, 68, 69, 70] (by decide +kernel) (by decide +kernel)
set_option maxRecDepth 20000 in
theorem gX7_layTimes_X7_timeAs : GoodIn wsX7_layTimes (wsV RX7 142 RX7 yX7_timeAs wsX7_timeAs) := goodIn_app (goodIn_of _ (by decide +kernel)) ggX7_layTimes_X7_timeAs
theorem dX7_layTimes_0 : decode cX7_layTimes 0 = .ok (.iconst 0, 1) := by decide +kernel
theorem dX7_layTimes_1 : decode cX7_layTimes 1 = .ok (.istore_n 2, 1) := by decide +kernel
theorem dX7_layTimes_2 : decode cX7_layTimes 2 = .ok (.iload_n 2, 1) := by decide +kernel
theorem dX7_layTimes_3 : decode cX7_layTimes 3 = .ok (.iconst 2, 1) := by decide +kernel
theorem dX7_layTimes_4 : decode cX7_layTimes 4 = .ok (.if_icmp .ge 41, 3) := by decide +kernel
theorem dX7_layTimes_7 : decode cX7_layTimes 7 = .ok (.iconst 0, 1) := by decide +kernel
theorem dX7_layTimes_8 : decode cX7_layTimes 8 = .ok (.istore_n 3, 1) := by decide +kernel
theorem dX7_layTimes_9 : decode cX7_layTimes 9 = .ok (.iload_n 3, 1) := by decide +kernel
theorem dX7_layTimes_10 : decode cX7_layTimes 10 = .ok (.bipush 10, 2) := by decide +kernel
theorem dX7_layTimes_12 : decode cX7_layTimes 12 = .ok (.if_icmp .ge 27, 3) := by decide +kernel
theorem dX7_layTimes_15 : decode cX7_layTimes 15 = .ok (.aload_n 0, 1) := by decide +kernel
theorem dX7_layTimes_16 : decode cX7_layTimes 16 = .ok (.getfield 41, 3) := by decide +kernel
theorem dX7_layTimes_19 : decode cX7_layTimes 19 = .ok (.bipush 10, 2) := by decide +kernel
theorem dX7_layTimes_21 : decode cX7_layTimes 21 = .ok (.iload_n 2, 1) := by decide +kernel
theorem dX7_layTimes_22 : decode cX7_layTimes 22 = .ok (.imul, 1) := by decide +kernel
theorem dX7_layTimes_23 : decode cX7_layTimes 23 = .ok (.iload_n 3, 1) := by decide +kernel
theorem dX7_layTimes_24 : decode cX7_layTimes 24 = .ok (.iadd, 1) := by decide +kernel
theorem dX7_layTimes_25 : decode cX7_layTimes 25 = .ok (.aload_n 0, 1) := by decide +kernel
theorem dX7_layTimes_26 : decode cX7_layTimes 26 = .ok (.iload_n 2, 1) := by decide +kernel
theorem dX7_layTimes_27 : decode cX7_layTimes 27 = .ok (.iload_n 3, 1) := by decide +kernel
theorem dX7_layTimes_28 : decode cX7_layTimes 28 = .ok (.iload_n 1, 1) := by decide +kernel
theorem dX7_layTimes_29 : decode cX7_layTimes 29 = .ok (.invokevirtual 142, 3) := by decide +kernel
theorem dX7_layTimes_32 : decode cX7_layTimes 32 = .ok (.iastore, 1) := by decide +kernel
theorem dX7_layTimes_33 : decode cX7_layTimes 33 = .ok (.iinc 3 1, 3) := by decide +kernel
theorem dX7_layTimes_36 : decode cX7_layTimes 36 = .ok (.goto (-27), 3) := by decide +kernel
theorem dX7_layTimes_39 : decode cX7_layTimes 39 = .ok (.iinc 2 1, 3) := by decide +kernel
theorem dX7_layTimes_42 : decode cX7_layTimes 42 = .ok (.goto (-40), 3) := by decide +kernel
theorem dX7_layTimes_45 : decode cX7_layTimes 45 = .ok (.return_, 1) := by decide +kernel
theorem dX7_term_0 : decode cX7_term 0 = .ok (.lload_n 0, 1) := by decide +kernel
theorem dX7_term_1 : decode cX7_term 1 = .ok (.lstore 5, 2) := by decide +kernel
theorem dX7_term_3 : decode cX7_term 3 = .ok (.lload_n 2, 1) := by decide +kernel
theorem dX7_term_4 : decode cX7_term 4 = .ok (.lstore 7, 2) := by decide +kernel
theorem dX7_term_6 : decode cX7_term 6 = .ok (.lload 7, 2) := by decide +kernel
theorem dX7_term_8 : decode cX7_term 8 = .ok (.lconst 0, 1) := by decide +kernel
theorem dX7_term_9 : decode cX7_term 9 = .ok (.lcmp, 1) := by decide +kernel
theorem dX7_term_10 : decode cX7_term 10 = .ok (.ifCond .eq 21, 3) := by decide +kernel
theorem dX7_term_13 : decode cX7_term 13 = .ok (.lload 5, 2) := by decide +kernel
theorem dX7_term_15 : decode cX7_term 15 = .ok (.lload 7, 2) := by decide +kernel
theorem dX7_term_17 : decode cX7_term 17 = .ok (.lrem, 1) := by decide +kernel
theorem dX7_term_18 : decode cX7_term 18 = .ok (.lstore 9, 2) := by decide +kernel
theorem dX7_term_20 : decode cX7_term 20 = .ok (.lload 7, 2) := by decide +kernel
theorem dX7_term_22 : decode cX7_term 22 = .ok (.lstore 5, 2) := by decide +kernel
theorem dX7_term_24 : decode cX7_term 24 = .ok (.lload 9, 2) := by decide +kernel
theorem dX7_term_26 : decode cX7_term 26 = .ok (.lstore 7, 2) := by decide +kernel
theorem dX7_term_28 : decode cX7_term 28 = .ok (.goto (-22), 3) := by decide +kernel
theorem dX7_term_31 : decode cX7_term 31 = .ok (.iload 4, 2) := by decide +kernel
theorem dX7_term_33 : decode cX7_term 33 = .ok (.ifCond .ne 10, 3) := by decide +kernel
theorem dX7_term_36 : decode cX7_term 36 = .ok (.lload_n 0, 1) := by decide +kernel
theorem dX7_term_37 : decode cX7_term 37 = .ok (.lload 5, 2) := by decide +kernel
theorem dX7_term_39 : decode cX7_term 39 = .ok (.ldiv, 1) := by decide +kernel
theorem dX7_term_40 : decode cX7_term 40 = .ok (.goto 7, 3) := by decide +kernel
theorem dX7_term_43 : decode cX7_term 43 = .ok (.lload_n 2, 1) := by decide +kernel
theorem dX7_term_44 : decode cX7_term 44 = .ok (.lload 5, 2) := by decide +kernel
theorem dX7_term_46 : decode cX7_term 46 = .ok (.ldiv, 1) := by decide +kernel
theorem dX7_term_47 : decode cX7_term 47 = .ok (.lreturn, 1) := by decide +kernel
set_option maxRecDepth 20000 in
theorem ggX7_odds_X7_isMeaning : GoodIn wsX7_odds wsX7_isMeaning := goodIn_r _ [7, 8, 9, 6, 10] (by decide +kernel) (by decide +kernel)
set_option maxRecDepth 20000 in
theorem gX7_odds_X7_isMeaning : GoodIn wsX7_odds (va_wsS RX7 139 yX7_isMeaning wsX7_isMeaning) := goodIn_app (goodIn_of _ (by decide +kernel)) ggX7_odds_X7_isMeaning
set_option maxRecDepth 20000 in
theorem ggX7_odds_X7_isTwo : GoodIn wsX7_odds wsX7_isTwo := goodIn_r _ [13, 8, 9, 6, 10] (by decide +kernel) (by decide +kernel)
set_option maxRecDepth 20000 in
theorem gX7_odds_X7_isTwo : GoodIn wsX7_odds (va_wsS RX7 66 yX7_isTwo wsX7_isTwo) := goodIn_app (goodIn_of _ (by decide +kernel)) ggX7_odds_X7_isTwo
set_option maxRecDepth 20000 in
theorem ggX7_odds_X7_layTimes : GoodIn wsX7_odds wsX7_layTimes := goodIn_r _ [17, 2, 18, 19, 20, 6, 21, 22, 23, 24, 25, 26, 27, 28, 29, 30, 31, 32, 33, 34, 35, 36, 37, 38, 39, 40, 41, 42, 43, 44, 45, 46, 47, 48, 49, 50, 51, 52, 53, 54, 55, 56, 57, 58, 59, 60, 61, 62, 73, 74, 75, 76, 77, 78, 79, 80, 81, 82, 83, 84, 85, 86, 87, 88, 89, 90, 91, 92, 93, 94, 95] (by decide +kernel) (by decide +kernel)
set_option maxRecDepth 20000 in
theorem gX7_odds_X7_layTimes : GoodIn wsX7_odds (wsV RX7 154 RX7 yX7_layTimes wsX7_layTimes) := goodIn_app (goodIn_of _ (by decide +kernel)) ggX7_odds_X7_layTimes
set_option maxRecDepth 20000 in
theorem ggX7_odds_X7_firstOf : GoodIn wsX7_odds wsX7_firstOf := goodIn_r _ [65] (by decide +kernel) (by decide +kernel)
set_option maxRecDepth 20000 in
theorem gX7_odds_X7_firstOf : GoodIn wsX7_odds (va_wsS RX7 148 yX7_firstOf wsX7_firstOf) := goodIn_app (goodIn_of _ (by decide +kernel)) ggX7_odds_X7_firstOf
set_option maxRecDepth 20000 in
theorem ggX7_odds_X7_sumOf : GoodIn wsX7_odds wsX7_sumOf := goodIn_r _ [69, 3, 73, 74, 75, 76, 77, 78, 79, 80, 81, 82, 83, 84, 85, 86, 87, 88, 89, 90, 91, 92, 93, 94, 95] (by decide +kernel) (by decide +kernel)
set_option maxRecDepth 20000 in
theorem gX7_odds_X7_sumOf : GoodIn wsX7_odds (wsV RX7 157 RX7 yX7_sumOf wsX7_sumOf) := goodIn_app (goodIn_of _ (by decide +kernel)) ggX7_odds_X7_sumOf
set_option maxRecDepth 20000 in
theorem ggX7_odds_X7_term : GoodIn wsX7_odds wsX7_term := goodIn_r _ [72] (by decide +kernel) (by decide +kernel)
set_option maxRecDepth 20000 in
theorem gX7_odds_X7_term : GoodIn wsX7_odds (va_wsS RX7 160 yX7_term wsX7_term) := goodIn_app (goodIn_of _ (by decide +kernel)) ggX7_odds_X7_term
theorem dX7_odds_0 : decode cX7_odds 0 = .ok (.iload_n 1, 1) := by decide +kernel
theorem dX7_odds_1 : decode cX7_odds 1 = .ok (.invokestatic 139, 3) := by decide +kernel
theorem dX7_odds_4 : decode cX7_odds 4 = .ok (.ifCond .eq 17, 3) := by decide +kernel
theorem dX7_odds_7 : decode cX7_odds 7 = .ok (.iload_n 2, 1) := by decide +kernel
theorem dX7_odds_8 : decode cX7_odds 8 = .ok (.invokestatic 139, 3) := by decide +kernel
theorem dX7_odds_11 : decode cX7_odds 11 = .ok (.ifCond .eq 10, 3) := by decide +kernel
theorem dX7_odds_14 : decode cX7_odds 14 = .ok (.iload_n 3, 1) := by decide +kernel
theorem dX7_odds_15 : decode cX7_odds 15 = .ok (.invokestatic 66, 3) := by decide +kernel
theorem dX7_odds_18 : decode cX7_odds 18 = .ok (.ifCond .ne 7, 3) := by decide +kernel
theorem dX7_odds_21 : decode cX7_odds 21 = .ok (.ldc2_w 152, 3) := by decide +kernel
theorem dX7_odds_24 : decode cX7_odds 24 = .ok (.lreturn, 1) := by decide +kernel
theorem dX7_odds_25 : decode cX7_odds 25 = .ok (.aload_n 0, 1) := by decide +kernel
theorem dX7_odds_26 : decode cX7_odds 26 = .ok (.iload_n 1, 1) := by decide +kernel
theorem dX7_odds_27 : decode cX7_odds 27 = .ok (.invokevirtual 154, 3) := by decide +kernel
theorem dX7_odds_30 : decode cX7_odds 30 = .ok (.lconst 0, 1) := by decide +kernel
theorem dX7_odds_31 : decode cX7_odds 31 = .ok (.lstore 4, 2) := by decide +kernel
theorem dX7_odds_33 : decode cX7_odds 33 = .ok (.iconst 0, 1) := by decide +kernel
theorem dX7_odds_34 : decode cX7_odds 34 = .ok (.istore 6, 2) := by decide +kernel
theorem dX7_odds_36 : decode cX7_odds 36 = .ok (.iload 6, 2) := by decide +kernel
theorem dX7_odds_38 : decode cX7_odds 38 = .ok (.bipush 10, 2) := by decide +kernel
theorem dX7_odds_40 : decode cX7_odds 40 = .ok (.if_icmp .ge 77, 3) := by decide +kernel
theorem dX7_odds_43 : decode cX7_odds 43 = .ok (.iconst 0, 1) := by decide +kernel
theorem dX7_odds_44 : decode cX7_odds 44 = .ok (.istore 7, 2) := by decide +kernel
theorem dX7_odds_46 : decode cX7_odds 46 = .ok (.iload 7, 2) := by decide +kernel
theorem dX7_odds_48 : decode cX7_odds 48 = .ok (.bipush 10, 2) := by decide +kernel
theorem dX7_odds_50 : decode cX7_odds 50 = .ok (.if_icmp .ge 61, 3) := by decide +kernel
theorem dX7_odds_53 : decode cX7_odds 53 = .ok (.lload 4, 2) := by decide +kernel
theorem dX7_odds_55 : decode cX7_odds 55 = .ok (.aload_n 0, 1) := by decide +kernel
theorem dX7_odds_56 : decode cX7_odds 56 = .ok (.getfield 41, 3) := by decide +kernel
theorem dX7_odds_59 : decode cX7_odds 59 = .ok (.iload 6, 2) := by decide +kernel
theorem dX7_odds_61 : decode cX7_odds 61 = .ok (.iaload, 1) := by decide +kernel
theorem dX7_odds_62 : decode cX7_odds 62 = .ok (.aload_n 0, 1) := by decide +kernel
theorem dX7_odds_63 : decode cX7_odds 63 = .ok (.getfield 41, 3) := by decide +kernel
theorem dX7_odds_66 : decode cX7_odds 66 = .ok (.bipush 10, 2) := by decide +kernel
theorem dX7_odds_68 : decode cX7_odds 68 = .ok (.iload 7, 2) := by decide +kernel
theorem dX7_odds_70 : decode cX7_odds 70 = .ok (.iadd, 1) := by decide +kernel
theorem dX7_odds_71 : decode cX7_odds 71 = .ok (.iaload, 1) := by decide +kernel
theorem dX7_odds_72 : decode cX7_odds 72 = .ok (.invokestatic 148, 3) := by decide +kernel
theorem dX7_odds_75 : decode cX7_odds 75 = .ok (.iload_n 2, 1) := by decide +kernel
theorem dX7_odds_76 : decode cX7_odds 76 = .ok (.if_icmp .ne 25, 3) := by decide +kernel
theorem dX7_odds_79 : decode cX7_odds 79 = .ok (.aload_n 0, 1) := by decide +kernel
theorem dX7_odds_80 : decode cX7_odds 80 = .ok (.getfield 16, 3) := by decide +kernel
theorem dX7_odds_83 : decode cX7_odds 83 = .ok (.iload 6, 2) := by decide +kernel
theorem dX7_odds_85 : decode cX7_odds 85 = .ok (.iaload, 1) := by decide +kernel
theorem dX7_odds_86 : decode cX7_odds 86 = .ok (.aload_n 0, 1) := by decide +kernel
theorem dX7_odds_87 : decode cX7_odds 87 = .ok (.getfield 16, 3) := by decide +kernel
theorem dX7_odds_90 : decode cX7_odds 90 = .ok (.bipush 10, 2) := by decide +kernel
theorem dX7_odds_92 : decode cX7_odds 92 = .ok (.iload 7, 2) := by decide +kernel
theorem dX7_odds_94 : decode cX7_odds 94 = .ok (.iadd, 1) := by decide +kernel
theorem dX7_odds_95 : decode cX7_odds 95 = .ok (.iaload, 1) := by decide +kernel
theorem dX7_odds_96 : decode cX7_odds 96 = .ok (.imul, 1) := by decide +kernel
theorem dX7_odds_97 : decode cX7_odds 97 = .ok (.i2l, 1) := by decide +kernel
theorem dX7_odds_98 : decode cX7_odds 98 = .ok (.goto 4, 3) := by decide +kernel
theorem dX7_odds_101 : decode cX7_odds 101 = .ok (.lconst 0, 1) := by decide +kernel
theorem dX7_odds_102 : decode cX7_odds 102 = .ok (.ladd, 1) := by decide +kernel
theorem dX7_odds_103 : decode cX7_odds 103 = .ok (.lstore 4, 2) := by decide +kernel
theorem dX7_odds_105 : decode cX7_odds 105 = .ok (.iinc 7 1, 3) := by decide +kernel
theorem dX7_odds_108 : decode cX7_odds 108 = .ok (.goto (-62), 3) := by decide +kernel
theorem dX7_odds_111 : decode cX7_odds 111 = .ok (.iinc 6 1, 3) := by decide +kernel
theorem dX7_odds_114 : decode cX7_odds 114 = .ok (.goto (-78), 3) := by decide +kernel
theorem dX7_odds_117 : decode cX7_odds 117 = .ok (.lload 4, 2) := by decide +kernel
theorem dX7_odds_119 : decode cX7_odds 119 = .ok (.aload_n 0, 1) := by decide +kernel
theorem dX7_odds_120 : decode cX7_odds 120 = .ok (.iconst 0, 1) := by decide +kernel
theorem dX7_odds_121 : decode cX7_odds 121 = .ok (.invokevirtual 157, 3) := by decide +kernel
theorem dX7_odds_124 : decode cX7_odds 124 = .ok (.i2l, 1) := by decide +kernel
theorem dX7_odds_125 : decode cX7_odds 125 = .ok (.aload_n 0, 1) := by decide +kernel
theorem dX7_odds_126 : decode cX7_odds 126 = .ok (.iconst 1, 1) := by decide +kernel
theorem dX7_odds_127 : decode cX7_odds 127 = .ok (.invokevirtual 157, 3) := by decide +kernel
theorem dX7_odds_130 : decode cX7_odds 130 = .ok (.i2l, 1) := by decide +kernel
theorem dX7_odds_131 : decode cX7_odds 131 = .ok (.lmul, 1) := by decide +kernel
theorem dX7_odds_132 : decode cX7_odds 132 = .ok (.iload_n 3, 1) := by decide +kernel
theorem dX7_odds_133 : decode cX7_odds 133 = .ok (.invokestatic 160, 3) := by decide +kernel
theorem dX7_odds_136 : decode cX7_odds 136 = .ok (.lreturn, 1) := by decide +kernel
set_option maxRecDepth 20000 in
theorem ggX7_gainOf_X7_timeOf : GoodIn wsX7_gainOf wsX7_timeOf := goodIn_r _ [6, 7, 8, 9, 10, 11, 12, 13, 5, 14, 15, 16, 17, 18, 19, 20, 21, 22, 23, 24, 25, 26, 27, 28, 29, 30, 31, 32, 33, 34, 35, 36, 37, 38, 39, 40, 41, 42, 43, 44, 45, 46, 47, 48, 49, 50, 51, 52, 53, 54, 55, 56, 57, 58, 59, 60, 61, 62, 63, 64, 65] (by decide +kernel) (by decide +kernel)
set_option maxRecDepth 20000 in
theorem gX7_gainOf_X7_timeOf : GoodIn wsX7_gainOf (wsV RX7 132 RX7 yX7_timeOf wsX7_timeOf) := goodIn_app (goodIn_of _ (by decide +kernel)) ggX7_gainOf_X7_timeOf
theorem dX7_gainOf_0 : decode cX7_gainOf 0 = .ok (.aload_n 0, 1) := by decide +kernel
theorem dX7_gainOf_1 : decode cX7_gainOf 1 = .ok (.iconst 1, 1) := by decide +kernel
theorem dX7_gainOf_2 : decode cX7_gainOf 2 = .ok (.aload_n 0, 1) := by decide +kernel
theorem dX7_gainOf_3 : decode cX7_gainOf 3 = .ok (.getfield 7, 3) := by decide +kernel
theorem dX7_gainOf_6 : decode cX7_gainOf 6 = .ok (.iconst 1, 1) := by decide +kernel
theorem dX7_gainOf_7 : decode cX7_gainOf 7 = .ok (.iaload, 1) := by decide +kernel
theorem dX7_gainOf_8 : decode cX7_gainOf 8 = .ok (.iload_n 2, 1) := by decide +kernel
theorem dX7_gainOf_9 : decode cX7_gainOf 9 = .ok (.iload_n 3, 1) := by decide +kernel
theorem dX7_gainOf_10 : decode cX7_gainOf 10 = .ok (.iload_n 1, 1) := by decide +kernel
theorem dX7_gainOf_11 : decode cX7_gainOf 11 = .ok (.invokevirtual 132, 3) := by decide +kernel
theorem dX7_gainOf_14 : decode cX7_gainOf 14 = .ok (.istore 4, 2) := by decide +kernel
theorem dX7_gainOf_16 : decode cX7_gainOf 16 = .ok (.iload 4, 2) := by decide +kernel
theorem dX7_gainOf_18 : decode cX7_gainOf 18 = .ok (.aload_n 0, 1) := by decide +kernel
theorem dX7_gainOf_19 : decode cX7_gainOf 19 = .ok (.iconst 0, 1) := by decide +kernel
theorem dX7_gainOf_20 : decode cX7_gainOf 20 = .ok (.aload_n 0, 1) := by decide +kernel
theorem dX7_gainOf_21 : decode cX7_gainOf 21 = .ok (.getfield 7, 3) := by decide +kernel
theorem dX7_gainOf_24 : decode cX7_gainOf 24 = .ok (.iconst 0, 1) := by decide +kernel
theorem dX7_gainOf_25 : decode cX7_gainOf 25 = .ok (.iaload, 1) := by decide +kernel
theorem dX7_gainOf_26 : decode cX7_gainOf 26 = .ok (.iload_n 2, 1) := by decide +kernel
theorem dX7_gainOf_27 : decode cX7_gainOf 27 = .ok (.iload_n 3, 1) := by decide +kernel
theorem dX7_gainOf_28 : decode cX7_gainOf 28 = .ok (.iload_n 1, 1) := by decide +kernel
theorem dX7_gainOf_29 : decode cX7_gainOf 29 = .ok (.invokevirtual 132, 3) := by decide +kernel
theorem dX7_gainOf_32 : decode cX7_gainOf 32 = .ok (.isub, 1) := by decide +kernel
theorem dX7_gainOf_33 : decode cX7_gainOf 33 = .ok (.ireturn, 1) := by decide +kernel
set_option maxRecDepth 20000 in
theorem ggX7_gain_X7_isMeaning : GoodIn wsX7_gain wsX7_isMeaning := goodIn_r _ [5, 6, 7, 4, 8] (by decide +kernel) (by decide +kernel)
set_option maxRecDepth 20000 in
theorem gX7_gain_X7_isMeaning : GoodIn wsX7_gain (va_wsS RX7 139 yX7_isMeaning wsX7_isMeaning) := goodIn_app (goodIn_of _ (by decide +kernel)) ggX7_gain_X7_isMeaning
set_option maxRecDepth 20000 in
theorem ggX7_gain_X7_isDegree : GoodIn wsX7_gain wsX7_isDegree := goodIn_r _ [11, 6, 7, 4, 8] (by decide +kernel) (by decide +kernel)
set_option maxRecDepth 20000 in
theorem gX7_gain_X7_isDegree : GoodIn wsX7_gain (va_wsS RX7 136 yX7_isDegree wsX7_isDegree) := goodIn_app (goodIn_of _ (by decide +kernel)) ggX7_gain_X7_isDegree
set_option maxRecDepth 20000 in
theorem ggX7_gain_X7_in : GoodIn wsX7_gain wsX7_in := goodIn_r _ [8] (by decide +kernel) (by decide +kernel)
set_option maxRecDepth 20000 in
theorem gX7_gain_X7_in : GoodIn wsX7_gain (va_wsS RX7 60 yX7_in wsX7_in) := goodIn_app (goodIn_of _ (by decide +kernel)) ggX7_gain_X7_in
set_option maxRecDepth 20000 in
theorem ggX7_gain_X7_gainOf : GoodIn wsX7_gain wsX7_gainOf := goodIn_r _ [15, 16, 17, 18, 19, 4, 20, 21, 22, 23, 24, 25, 26, 27, 28, 29, 30, 31, 32, 33, 34, 35, 36, 37, 38, 39, 40, 41, 42, 43, 44, 45, 46, 47, 48, 49, 50, 51, 52, 53, 54, 55, 56, 57, 58, 59, 60, 61, 62, 63, 64, 65, 66, 67, 68, 69, 70, 71, 72, 73, 74, 75, 76, 77, 78, 79] (by decide +kernel) (by decide +kernel)
set_option maxRecDepth 20000 in
theorem gX7_gain_X7_gainOf : GoodIn wsX7_gain (wsV RX7 164 RX7 yX7_gainOf wsX7_gainOf) := goodIn_app (goodIn_of _ (by decide +kernel)) ggX7_gain_X7_gainOf
theorem dX7_gain_0 : decode cX7_gain 0 = .ok (.iload_n 1, 1) := by decide +kernel
theorem dX7_gain_1 : decode cX7_gain 1 = .ok (.invokestatic 139, 3) := by decide +kernel
theorem dX7_gain_4 : decode cX7_gain 4 = .ok (.ifCond .eq 30, 3) := by decide +kernel
theorem dX7_gain_7 : decode cX7_gain 7 = .ok (.iload_n 2, 1) := by decide +kernel
theorem dX7_gain_8 : decode cX7_gain 8 = .ok (.invokestatic 136, 3) := by decide +kernel
theorem dX7_gain_11 : decode cX7_gain 11 = .ok (.ifCond .eq 23, 3) := by decide +kernel
theorem dX7_gain_14 : decode cX7_gain 14 = .ok (.iload_n 3, 1) := by decide +kernel
theorem dX7_gain_15 : decode cX7_gain 15 = .ok (.iconst 0, 1) := by decide +kernel
theorem dX7_gain_16 : decode cX7_gain 16 = .ok (.bipush 7, 2) := by decide +kernel
theorem dX7_gain_18 : decode cX7_gain 18 = .ok (.invokestatic 60, 3) := by decide +kernel
theorem dX7_gain_21 : decode cX7_gain 21 = .ok (.ifCond .eq 13, 3) := by decide +kernel
theorem dX7_gain_24 : decode cX7_gain 24 = .ok (.aload_n 0, 1) := by decide +kernel
theorem dX7_gain_25 : decode cX7_gain 25 = .ok (.iload_n 1, 1) := by decide +kernel
theorem dX7_gain_26 : decode cX7_gain 26 = .ok (.iload_n 2, 1) := by decide +kernel
theorem dX7_gain_27 : decode cX7_gain 27 = .ok (.iload_n 3, 1) := by decide +kernel
theorem dX7_gain_28 : decode cX7_gain 28 = .ok (.invokevirtual 164, 3) := by decide +kernel
theorem dX7_gain_31 : decode cX7_gain 31 = .ok (.goto 5, 3) := by decide +kernel
theorem dX7_gain_34 : decode cX7_gain 34 = .ok (.ldc 147, 2) := by decide +kernel
theorem dX7_gain_36 : decode cX7_gain 36 = .ok (.ireturn, 1) := by decide +kernel
set_option maxRecDepth 20000 in
theorem ggX7_could_X7_in : GoodIn wsX7_could wsX7_in := goodIn_r _ [7] (by decide +kernel) (by decide +kernel)
set_option maxRecDepth 20000 in
theorem gX7_could_X7_in : GoodIn wsX7_could (va_wsS RX7 60 yX7_in wsX7_in) := goodIn_app (goodIn_of _ (by decide +kernel)) ggX7_could_X7_in
set_option maxRecDepth 20000 in
theorem ggX7_could_X7_isMeaning : GoodIn wsX7_could wsX7_isMeaning := goodIn_r _ [10, 4, 5, 6, 7] (by decide +kernel) (by decide +kernel)
set_option maxRecDepth 20000 in
theorem gX7_could_X7_isMeaning : GoodIn wsX7_could (va_wsS RX7 139 yX7_isMeaning wsX7_isMeaning) := goodIn_app (goodIn_of _ (by decide +kernel)) ggX7_could_X7_isMeaning
set_option maxRecDepth 20000 in
theorem ggX7_could_X7_isDegree : GoodIn wsX7_could wsX7_isDegree := goodIn_r _ [13, 4, 5, 6, 7] (by decide +kernel) (by decide +kernel)
set_option maxRecDepth 20000 in
theorem gX7_could_X7_isDegree : GoodIn wsX7_could (va_wsS RX7 136 yX7_isDegree wsX7_isDegree) := goodIn_app (goodIn_of _ (by decide +kernel)) ggX7_could_X7_isDegree
set_option maxRecDepth 20000 in
theorem ggX7_could_X7_gainOf : GoodIn wsX7_could wsX7_gainOf := goodIn_r _ [17, 18, 19, 20, 21, 6, 22, 23, 24, 25, 26, 27, 28, 29, 30, 31, 32, 33, 34, 35, 36, 37, 38, 39, 40, 41, 42, 43, 44, 45, 46, 47, 48, 49, 50, 51, 52, 53, 54, 55, 56, 57, 58, 59, 60, 61, 62, 63, 64, 65, 66, 67, 68, 69, 70, 71, 72, 73, 74, 75, 76, 77, 78, 79, 80, 81] (by decide +kernel) (by decide +kernel)
set_option maxRecDepth 20000 in
theorem gX7_could_X7_gainOf : GoodIn wsX7_could (wsV RX7 164 RX7 yX7_gainOf wsX7_gainOf) := goodIn_app (goodIn_of _ (by decide +kernel)) ggX7_could_X7_gainOf
theorem dX7_could_0 : decode cX7_could 0 = .ok (.iload_n 3, 1) := by decide +kernel
theorem dX7_could_1 : decode cX7_could 1 = .ok (.iconst 0, 1) := by decide +kernel
theorem dX7_could_2 : decode cX7_could 2 = .ok (.iconst 2, 1) := by decide +kernel
theorem dX7_could_3 : decode cX7_could 3 = .ok (.invokestatic 60, 3) := by decide +kernel
theorem dX7_could_6 : decode cX7_could 6 = .ok (.ifCond .ne 6, 3) := by decide +kernel
theorem dX7_could_9 : decode cX7_could 9 = .ok (.ldc 146, 2) := by decide +kernel
theorem dX7_could_11 : decode cX7_could 11 = .ok (.ireturn, 1) := by decide +kernel
theorem dX7_could_12 : decode cX7_could 12 = .ok (.iload_n 1, 1) := by decide +kernel
theorem dX7_could_13 : decode cX7_could 13 = .ok (.invokestatic 139, 3) := by decide +kernel
theorem dX7_could_16 : decode cX7_could 16 = .ok (.ifCond .eq 20, 3) := by decide +kernel
theorem dX7_could_19 : decode cX7_could 19 = .ok (.iload_n 2, 1) := by decide +kernel
theorem dX7_could_20 : decode cX7_could 20 = .ok (.invokestatic 136, 3) := by decide +kernel
theorem dX7_could_23 : decode cX7_could 23 = .ok (.ifCond .eq 13, 3) := by decide +kernel
theorem dX7_could_26 : decode cX7_could 26 = .ok (.iload 4, 2) := by decide +kernel
theorem dX7_could_28 : decode cX7_could 28 = .ok (.iconst 0, 1) := by decide +kernel
theorem dX7_could_29 : decode cX7_could 29 = .ok (.iconst 2, 1) := by decide +kernel
theorem dX7_could_30 : decode cX7_could 30 = .ok (.invokestatic 60, 3) := by decide +kernel
theorem dX7_could_33 : decode cX7_could 33 = .ok (.ifCond .ne 6, 3) := by decide +kernel
theorem dX7_could_36 : decode cX7_could 36 = .ok (.ldc 147, 2) := by decide +kernel
theorem dX7_could_38 : decode cX7_could 38 = .ok (.ireturn, 1) := by decide +kernel
theorem dX7_could_39 : decode cX7_could 39 = .ok (.iconst 0, 1) := by decide +kernel
theorem dX7_could_40 : decode cX7_could 40 = .ok (.istore 5, 2) := by decide +kernel
theorem dX7_could_42 : decode cX7_could 42 = .ok (.iload 5, 2) := by decide +kernel
theorem dX7_could_44 : decode cX7_could 44 = .ok (.bipush 8, 2) := by decide +kernel
theorem dX7_could_46 : decode cX7_could 46 = .ok (.if_icmp .ge 24, 3) := by decide +kernel
theorem dX7_could_49 : decode cX7_could 49 = .ok (.aload_n 0, 1) := by decide +kernel
theorem dX7_could_50 : decode cX7_could 50 = .ok (.getfield 44, 3) := by decide +kernel
theorem dX7_could_53 : decode cX7_could 53 = .ok (.iload 5, 2) := by decide +kernel
theorem dX7_could_55 : decode cX7_could 55 = .ok (.aload_n 0, 1) := by decide +kernel
theorem dX7_could_56 : decode cX7_could 56 = .ok (.iload_n 1, 1) := by decide +kernel
theorem dX7_could_57 : decode cX7_could 57 = .ok (.iload_n 2, 1) := by decide +kernel
theorem dX7_could_58 : decode cX7_could 58 = .ok (.iload 5, 2) := by decide +kernel
theorem dX7_could_60 : decode cX7_could 60 = .ok (.invokevirtual 164, 3) := by decide +kernel
theorem dX7_could_63 : decode cX7_could 63 = .ok (.iastore, 1) := by decide +kernel
theorem dX7_could_64 : decode cX7_could 64 = .ok (.iinc 5 1, 3) := by decide +kernel
theorem dX7_could_67 : decode cX7_could 67 = .ok (.goto (-25), 3) := by decide +kernel
theorem dX7_could_70 : decode cX7_could 70 = .ok (.iconst 1, 1) := by decide +kernel
theorem dX7_could_71 : decode cX7_could 71 = .ok (.iload_n 3, 1) := by decide +kernel
theorem dX7_could_72 : decode cX7_could 72 = .ok (.ishl, 1) := by decide +kernel
theorem dX7_could_73 : decode cX7_could 73 = .ok (.istore 5, 2) := by decide +kernel
theorem dX7_could_75 : decode cX7_could 75 = .ok (.aload_n 0, 1) := by decide +kernel
theorem dX7_could_76 : decode cX7_could 76 = .ok (.getfield 44, 3) := by decide +kernel
theorem dX7_could_79 : decode cX7_could 79 = .ok (.iload 5, 2) := by decide +kernel
theorem dX7_could_81 : decode cX7_could 81 = .ok (.iaload, 1) := by decide +kernel
theorem dX7_could_82 : decode cX7_could 82 = .ok (.aload_n 0, 1) := by decide +kernel
theorem dX7_could_83 : decode cX7_could 83 = .ok (.getfield 44, 3) := by decide +kernel
theorem dX7_could_86 : decode cX7_could 86 = .ok (.iconst 0, 1) := by decide +kernel
theorem dX7_could_87 : decode cX7_could 87 = .ok (.iaload, 1) := by decide +kernel
theorem dX7_could_88 : decode cX7_could 88 = .ok (.isub, 1) := by decide +kernel
theorem dX7_could_89 : decode cX7_could 89 = .ok (.istore 6, 2) := by decide +kernel
theorem dX7_could_91 : decode cX7_could 91 = .ok (.iload 6, 2) := by decide +kernel
theorem dX7_could_93 : decode cX7_could 93 = .ok (.istore 7, 2) := by decide +kernel
theorem dX7_could_95 : decode cX7_could 95 = .ok (.iload 6, 2) := by decide +kernel
theorem dX7_could_97 : decode cX7_could 97 = .ok (.istore 8, 2) := by decide +kernel
theorem dX7_could_99 : decode cX7_could 99 = .ok (.iconst 0, 1) := by decide +kernel
theorem dX7_could_100 : decode cX7_could 100 = .ok (.istore 9, 2) := by decide +kernel
theorem dX7_could_102 : decode cX7_could 102 = .ok (.iload 9, 2) := by decide +kernel
theorem dX7_could_104 : decode cX7_could 104 = .ok (.bipush 8, 2) := by decide +kernel
theorem dX7_could_106 : decode cX7_could 106 = .ok (.if_icmp .ge 69, 3) := by decide +kernel
theorem dX7_could_109 : decode cX7_could 109 = .ok (.iload 9, 2) := by decide +kernel
theorem dX7_could_111 : decode cX7_could 111 = .ok (.iload 5, 2) := by decide +kernel
theorem dX7_could_113 : decode cX7_could 113 = .ok (.iand, 1) := by decide +kernel
theorem dX7_could_114 : decode cX7_could 114 = .ok (.ifCond .ne 55, 3) := by decide +kernel
theorem dX7_could_117 : decode cX7_could 117 = .ok (.aload_n 0, 1) := by decide +kernel
theorem dX7_could_118 : decode cX7_could 118 = .ok (.getfield 44, 3) := by decide +kernel
theorem dX7_could_121 : decode cX7_could 121 = .ok (.iload 9, 2) := by decide +kernel
theorem dX7_could_123 : decode cX7_could 123 = .ok (.iload 5, 2) := by decide +kernel
theorem dX7_could_125 : decode cX7_could 125 = .ok (.ior, 1) := by decide +kernel
theorem dX7_could_126 : decode cX7_could 126 = .ok (.iaload, 1) := by decide +kernel
theorem dX7_could_127 : decode cX7_could 127 = .ok (.aload_n 0, 1) := by decide +kernel
theorem dX7_could_128 : decode cX7_could 128 = .ok (.getfield 44, 3) := by decide +kernel
theorem dX7_could_131 : decode cX7_could 131 = .ok (.iload 9, 2) := by decide +kernel
theorem dX7_could_133 : decode cX7_could 133 = .ok (.iaload, 1) := by decide +kernel
theorem dX7_could_134 : decode cX7_could 134 = .ok (.isub, 1) := by decide +kernel
theorem dX7_could_135 : decode cX7_could 135 = .ok (.istore 10, 2) := by decide +kernel
theorem dX7_could_137 : decode cX7_could 137 = .ok (.iload 10, 2) := by decide +kernel
theorem dX7_could_139 : decode cX7_could 139 = .ok (.iload 7, 2) := by decide +kernel
theorem dX7_could_141 : decode cX7_could 141 = .ok (.if_icmp .ge 8, 3) := by decide +kernel
theorem dX7_could_144 : decode cX7_could 144 = .ok (.iload 10, 2) := by decide +kernel
theorem dX7_could_146 : decode cX7_could 146 = .ok (.goto 5, 3) := by decide +kernel
theorem dX7_could_149 : decode cX7_could 149 = .ok (.iload 7, 2) := by decide +kernel
theorem dX7_could_151 : decode cX7_could 151 = .ok (.istore 7, 2) := by decide +kernel
theorem dX7_could_153 : decode cX7_could 153 = .ok (.iload 10, 2) := by decide +kernel
theorem dX7_could_155 : decode cX7_could 155 = .ok (.iload 8, 2) := by decide +kernel
theorem dX7_could_157 : decode cX7_could 157 = .ok (.if_icmp .le 8, 3) := by decide +kernel
theorem dX7_could_160 : decode cX7_could 160 = .ok (.iload 10, 2) := by decide +kernel
theorem dX7_could_162 : decode cX7_could 162 = .ok (.goto 5, 3) := by decide +kernel
theorem dX7_could_165 : decode cX7_could 165 = .ok (.iload 8, 2) := by decide +kernel
theorem dX7_could_167 : decode cX7_could 167 = .ok (.istore 8, 2) := by decide +kernel
theorem dX7_could_169 : decode cX7_could 169 = .ok (.iinc 9 1, 3) := by decide +kernel
