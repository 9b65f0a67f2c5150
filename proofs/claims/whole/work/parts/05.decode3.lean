theorem dX12_looks_76 : decode cX12_looks 76 = .ok (.iconst 0, 1) := by decide +kernel
theorem dX12_looks_77 : decode cX12_looks 77 = .ok (.istore_n 3, 1) := by decide +kernel
theorem dX12_looks_78 : decode cX12_looks 78 = .ok (.aload_n 0, 1) := by decide +kernel
theorem dX12_looks_79 : decode cX12_looks 79 = .ok (.sipush 234, 3) := by decide +kernel
theorem dX12_looks_82 : decode cX12_looks 82 = .ok (.iconst 0, 1) := by decide +kernel
theorem dX12_looks_83 : decode cX12_looks 83 = .ok (.invokevirtual 138, 3) := by decide +kernel
theorem dX12_looks_86 : decode cX12_looks 86 = .ok (.istore 4, 2) := by decide +kernel
theorem dX12_looks_88 : decode cX12_looks 88 = .ok (.sipush 239, 3) := by decide +kernel
theorem dX12_looks_91 : decode cX12_looks 91 = .ok (.sipush 140, 3) := by decide +kernel
theorem dX12_looks_94 : decode cX12_looks 94 = .ok (.aload_n 0, 1) := by decide +kernel
theorem dX12_looks_95 : decode cX12_looks 95 = .ok (.getfield 9, 3) := by decide +kernel
theorem dX12_looks_98 : decode cX12_looks 98 = .ok (.bipush 6, 2) := by decide +kernel
theorem dX12_looks_100 : decode cX12_looks 100 = .ok (.iaload, 1) := by decide +kernel
theorem dX12_looks_101 : decode cX12_looks 101 = .ok (.imul, 1) := by decide +kernel
theorem dX12_looks_102 : decode cX12_looks 102 = .ok (.iadd, 1) := by decide +kernel
theorem dX12_looks_103 : decode cX12_looks 103 = .ok (.istore 5, 2) := by decide +kernel
theorem dX12_looks_105 : decode cX12_looks 105 = .ok (.iconst 0, 1) := by decide +kernel
theorem dX12_looks_106 : decode cX12_looks 106 = .ok (.istore 6, 2) := by decide +kernel
theorem dX12_looks_108 : decode cX12_looks 108 = .ok (.iload 5, 2) := by decide +kernel
theorem dX12_looks_110 : decode cX12_looks 110 = .ok (.istore 7, 2) := by decide +kernel
theorem dX12_looks_112 : decode cX12_looks 112 = .ok (.iload 7, 2) := by decide +kernel
theorem dX12_looks_114 : decode cX12_looks 114 = .ok (.iload 5, 2) := by decide +kernel
theorem dX12_looks_116 : decode cX12_looks 116 = .ok (.iload 4, 2) := by decide +kernel
theorem dX12_looks_118 : decode cX12_looks 118 = .ok (.iadd, 1) := by decide +kernel
theorem dX12_looks_119 : decode cX12_looks 119 = .ok (.if_icmp .ge 300, 3) := by decide +kernel
theorem dX12_looks_122 : decode cX12_looks 122 = .ok (.aload_n 0, 1) := by decide +kernel
theorem dX12_looks_123 : decode cX12_looks 123 = .ok (.getfield 9, 3) := by decide +kernel
theorem dX12_looks_126 : decode cX12_looks 126 = .ok (.iload 7, 2) := by decide +kernel
theorem dX12_looks_128 : decode cX12_looks 128 = .ok (.iaload, 1) := by decide +kernel
theorem dX12_looks_129 : decode cX12_looks 129 = .ok (.istore 8, 2) := by decide +kernel
theorem dX12_looks_131 : decode cX12_looks 131 = .ok (.iload 8, 2) := by decide +kernel
theorem dX12_looks_133 : decode cX12_looks 133 = .ok (.ifCond .lt 97, 3) := by decide +kernel
theorem dX12_looks_136 : decode cX12_looks 136 = .ok (.aload_n 0, 1) := by decide +kernel
theorem dX12_looks_137 : decode cX12_looks 137 = .ok (.getfield 18, 3) := by decide +kernel
theorem dX12_looks_140 : decode cX12_looks 140 = .ok (.iload 8, 2) := by decide +kernel
theorem dX12_looks_142 : decode cX12_looks 142 = .ok (.bipush 8, 2) := by decide +kernel
theorem dX12_looks_144 : decode cX12_looks 144 = .ok (.irem, 1) := by decide +kernel
theorem dX12_looks_145 : decode cX12_looks 145 = .ok (.iaload, 1) := by decide +kernel
theorem dX12_looks_146 : decode cX12_looks 146 = .ok (.istore 9, 2) := by decide +kernel
theorem dX12_looks_148 : decode cX12_looks 148 = .ok (.iload 8, 2) := by decide +kernel
theorem dX12_looks_150 : decode cX12_looks 150 = .ok (.bipush 8, 2) := by decide +kernel
theorem dX12_looks_152 : decode cX12_looks 152 = .ok (.idiv, 1) := by decide +kernel
theorem dX12_looks_153 : decode cX12_looks 153 = .ok (.iconst 4, 1) := by decide +kernel
theorem dX12_looks_154 : decode cX12_looks 154 = .ok (.irem, 1) := by decide +kernel
theorem dX12_looks_155 : decode cX12_looks 155 = .ok (.istore 10, 2) := by decide +kernel
theorem dX12_looks_157 : decode cX12_looks 157 = .ok (.iload 8, 2) := by decide +kernel
theorem dX12_looks_159 : decode cX12_looks 159 = .ok (.bipush 32, 2) := by decide +kernel
theorem dX12_looks_161 : decode cX12_looks 161 = .ok (.idiv, 1) := by decide +kernel
theorem dX12_looks_162 : decode cX12_looks 162 = .ok (.istore 11, 2) := by decide +kernel
theorem dX12_looks_164 : decode cX12_looks 164 = .ok (.aload_n 0, 1) := by decide +kernel
theorem dX12_looks_165 : decode cX12_looks 165 = .ok (.getfield 21, 3) := by decide +kernel
theorem dX12_looks_168 : decode cX12_looks 168 = .ok (.iload 6, 2) := by decide +kernel
theorem dX12_looks_170 : decode cX12_looks 170 = .ok (.iload 10, 2) := by decide +kernel
theorem dX12_looks_172 : decode cX12_looks 172 = .ok (.ifCond .ne 18, 3) := by decide +kernel
theorem dX12_looks_175 : decode cX12_looks 175 = .ok (.iload 9, 2) := by decide +kernel
theorem dX12_looks_177 : decode cX12_looks 177 = .ok (.iload 11, 2) := by decide +kernel
theorem dX12_looks_179 : decode cX12_looks 179 = .ok (.if_icmp .ge 7, 3) := by decide +kernel
theorem dX12_looks_182 : decode cX12_looks 182 = .ok (.iconst 1, 1) := by decide +kernel
theorem dX12_looks_183 : decode cX12_looks 183 = .ok (.goto 40, 3) := by decide +kernel
theorem dX12_looks_186 : decode cX12_looks 186 = .ok (.iconst 0, 1) := by decide +kernel
theorem dX12_looks_187 : decode cX12_looks 187 = .ok (.goto 36, 3) := by decide +kernel
theorem dX12_looks_190 : decode cX12_looks 190 = .ok (.iload 10, 2) := by decide +kernel
theorem dX12_looks_192 : decode cX12_looks 192 = .ok (.iconst 1, 1) := by decide +kernel
theorem dX12_looks_193 : decode cX12_looks 193 = .ok (.if_icmp .ne 18, 3) := by decide +kernel
theorem dX12_looks_196 : decode cX12_looks 196 = .ok (.iload 9, 2) := by decide +kernel
theorem dX12_looks_198 : decode cX12_looks 198 = .ok (.iload 11, 2) := by decide +kernel
theorem dX12_looks_200 : decode cX12_looks 200 = .ok (.if_icmp .ne 7, 3) := by decide +kernel
theorem dX12_looks_203 : decode cX12_looks 203 = .ok (.iconst 1, 1) := by decide +kernel
theorem dX12_looks_204 : decode cX12_looks 204 = .ok (.goto 19, 3) := by decide +kernel
theorem dX12_looks_207 : decode cX12_looks 207 = .ok (.iconst 0, 1) := by decide +kernel
theorem dX12_looks_208 : decode cX12_looks 208 = .ok (.goto 15, 3) := by decide +kernel
theorem dX12_looks_211 : decode cX12_looks 211 = .ok (.iload 9, 2) := by decide +kernel
theorem dX12_looks_213 : decode cX12_looks 213 = .ok (.iload 11, 2) := by decide +kernel
theorem dX12_looks_215 : decode cX12_looks 215 = .ok (.if_icmp .le 7, 3) := by decide +kernel
theorem dX12_looks_218 : decode cX12_looks 218 = .ok (.iconst 1, 1) := by decide +kernel
theorem dX12_looks_219 : decode cX12_looks 219 = .ok (.goto 4, 3) := by decide +kernel
theorem dX12_looks_222 : decode cX12_looks 222 = .ok (.iconst 0, 1) := by decide +kernel
theorem dX12_looks_223 : decode cX12_looks 223 = .ok (.bastore, 1) := by decide +kernel
theorem dX12_looks_224 : decode cX12_looks 224 = .ok (.iinc 6 1, 3) := by decide +kernel
theorem dX12_looks_227 : decode cX12_looks 227 = .ok (.goto 186, 3) := by decide +kernel
theorem dX12_looks_230 : decode cX12_looks 230 = .ok (.iload 8, 2) := by decide +kernel
theorem dX12_looks_232 : decode cX12_looks 232 = .ok (.iconst (-1), 1) := by decide +kernel
theorem dX12_looks_233 : decode cX12_looks 233 = .ok (.if_icmp .ne 32, 3) := by decide +kernel
theorem dX12_looks_236 : decode cX12_looks 236 = .ok (.aload_n 0, 1) := by decide +kernel
theorem dX12_looks_237 : decode cX12_looks 237 = .ok (.getfield 21, 3) := by decide +kernel
theorem dX12_looks_240 : decode cX12_looks 240 = .ok (.iload 6, 2) := by decide +kernel
theorem dX12_looks_242 : decode cX12_looks 242 = .ok (.iconst 1, 1) := by decide +kernel
theorem dX12_looks_243 : decode cX12_looks 243 = .ok (.isub, 1) := by decide +kernel
theorem dX12_looks_244 : decode cX12_looks 244 = .ok (.aload_n 0, 1) := by decide +kernel
theorem dX12_looks_245 : decode cX12_looks 245 = .ok (.getfield 21, 3) := by decide +kernel
theorem dX12_looks_248 : decode cX12_looks 248 = .ok (.iload 6, 2) := by decide +kernel
theorem dX12_looks_250 : decode cX12_looks 250 = .ok (.iconst 1, 1) := by decide +kernel
theorem dX12_looks_251 : decode cX12_looks 251 = .ok (.isub, 1) := by decide +kernel
theorem dX12_looks_252 : decode cX12_looks 252 = .ok (.baload, 1) := by decide +kernel
theorem dX12_looks_253 : decode cX12_looks 253 = .ok (.ifCond .ne 7, 3) := by decide +kernel
theorem dX12_looks_256 : decode cX12_looks 256 = .ok (.iconst 1, 1) := by decide +kernel
theorem dX12_looks_257 : decode cX12_looks 257 = .ok (.goto 4, 3) := by decide +kernel
theorem dX12_looks_260 : decode cX12_looks 260 = .ok (.iconst 0, 1) := by decide +kernel
theorem dX12_looks_261 : decode cX12_looks 261 = .ok (.bastore, 1) := by decide +kernel
theorem dX12_looks_262 : decode cX12_looks 262 = .ok (.goto 151, 3) := by decide +kernel
theorem dX12_looks_265 : decode cX12_looks 265 = .ok (.iload 8, 2) := by decide +kernel
theorem dX12_looks_267 : decode cX12_looks 267 = .ok (.bipush (-10), 2) := by decide +kernel
theorem dX12_looks_269 : decode cX12_looks 269 = .ok (.if_icmp .le 82, 3) := by decide +kernel
theorem dX12_looks_272 : decode cX12_looks 272 = .ok (.iinc 6 (-1), 3) := by decide +kernel
theorem dX12_looks_275 : decode cX12_looks 275 = .ok (.aload_n 0, 1) := by decide +kernel
theorem dX12_looks_276 : decode cX12_looks 276 = .ok (.getfield 21, 3) := by decide +kernel
theorem dX12_looks_279 : decode cX12_looks 279 = .ok (.iload 6, 2) := by decide +kernel
theorem dX12_looks_281 : decode cX12_looks 281 = .ok (.iconst 1, 1) := by decide +kernel
theorem dX12_looks_282 : decode cX12_looks 282 = .ok (.isub, 1) := by decide +kernel
theorem dX12_looks_283 : decode cX12_looks 283 = .ok (.iload 8, 2) := by decide +kernel
theorem dX12_looks_285 : decode cX12_looks 285 = .ok (.bipush (-2), 2) := by decide +kernel
theorem dX12_looks_287 : decode cX12_looks 287 = .ok (.if_icmp .ne 33, 3) := by decide +kernel
theorem dX12_looks_290 : decode cX12_looks 290 = .ok (.aload_n 0, 1) := by decide +kernel
theorem dX12_looks_291 : decode cX12_looks 291 = .ok (.getfield 21, 3) := by decide +kernel
theorem dX12_looks_294 : decode cX12_looks 294 = .ok (.iload 6, 2) := by decide +kernel
theorem dX12_looks_296 : decode cX12_looks 296 = .ok (.iconst 1, 1) := by decide +kernel
theorem dX12_looks_297 : decode cX12_looks 297 = .ok (.isub, 1) := by decide +kernel
theorem dX12_looks_298 : decode cX12_looks 298 = .ok (.baload, 1) := by decide +kernel
theorem dX12_looks_299 : decode cX12_looks 299 = .ok (.ifCond .eq 17, 3) := by decide +kernel
theorem dX12_looks_302 : decode cX12_looks 302 = .ok (.aload_n 0, 1) := by decide +kernel
theorem dX12_looks_303 : decode cX12_looks 303 = .ok (.getfield 21, 3) := by decide +kernel
theorem dX12_looks_306 : decode cX12_looks 306 = .ok (.iload 6, 2) := by decide +kernel
theorem dX12_looks_308 : decode cX12_looks 308 = .ok (.baload, 1) := by decide +kernel
theorem dX12_looks_309 : decode cX12_looks 309 = .ok (.ifCond .eq 7, 3) := by decide +kernel
theorem dX12_looks_312 : decode cX12_looks 312 = .ok (.iconst 1, 1) := by decide +kernel
theorem dX12_looks_313 : decode cX12_looks 313 = .ok (.goto 34, 3) := by decide +kernel
theorem dX12_looks_316 : decode cX12_looks 316 = .ok (.iconst 0, 1) := by decide +kernel
theorem dX12_looks_317 : decode cX12_looks 317 = .ok (.goto 30, 3) := by decide +kernel
theorem dX12_looks_320 : decode cX12_looks 320 = .ok (.aload_n 0, 1) := by decide +kernel
theorem dX12_looks_321 : decode cX12_looks 321 = .ok (.getfield 21, 3) := by decide +kernel
theorem dX12_looks_324 : decode cX12_looks 324 = .ok (.iload 6, 2) := by decide +kernel
theorem dX12_looks_326 : decode cX12_looks 326 = .ok (.iconst 1, 1) := by decide +kernel
theorem dX12_looks_327 : decode cX12_looks 327 = .ok (.isub, 1) := by decide +kernel
theorem dX12_looks_328 : decode cX12_looks 328 = .ok (.baload, 1) := by decide +kernel
theorem dX12_looks_329 : decode cX12_looks 329 = .ok (.ifCond .ne 13, 3) := by decide +kernel
theorem dX12_looks_332 : decode cX12_looks 332 = .ok (.aload_n 0, 1) := by decide +kernel
theorem dX12_looks_333 : decode cX12_looks 333 = .ok (.getfield 21, 3) := by decide +kernel
theorem dX12_looks_336 : decode cX12_looks 336 = .ok (.iload 6, 2) := by decide +kernel
theorem dX12_looks_338 : decode cX12_looks 338 = .ok (.baload, 1) := by decide +kernel
theorem dX12_looks_339 : decode cX12_looks 339 = .ok (.ifCond .eq 7, 3) := by decide +kernel
theorem dX12_looks_342 : decode cX12_looks 342 = .ok (.iconst 1, 1) := by decide +kernel
theorem dX12_looks_343 : decode cX12_looks 343 = .ok (.goto 4, 3) := by decide +kernel
theorem dX12_looks_346 : decode cX12_looks 346 = .ok (.iconst 0, 1) := by decide +kernel
theorem dX12_looks_347 : decode cX12_looks 347 = .ok (.bastore, 1) := by decide +kernel
theorem dX12_looks_348 : decode cX12_looks 348 = .ok (.goto 65, 3) := by decide +kernel
theorem dX12_looks_351 : decode cX12_looks 351 = .ok (.iconst 0, 1) := by decide +kernel
theorem dX12_looks_352 : decode cX12_looks 352 = .ok (.istore 6, 2) := by decide +kernel
theorem dX12_looks_354 : decode cX12_looks 354 = .ok (.aload_n 0, 1) := by decide +kernel
theorem dX12_looks_355 : decode cX12_looks 355 = .ok (.getfield 21, 3) := by decide +kernel
theorem dX12_looks_358 : decode cX12_looks 358 = .ok (.iconst 0, 1) := by decide +kernel
theorem dX12_looks_359 : decode cX12_looks 359 = .ok (.baload, 1) := by decide +kernel
theorem dX12_looks_360 : decode cX12_looks 360 = .ok (.istore 9, 2) := by decide +kernel
theorem dX12_looks_362 : decode cX12_looks 362 = .ok (.iload_n 3, 1) := by decide +kernel
theorem dX12_looks_363 : decode cX12_looks 363 = .ok (.iload 9, 2) := by decide +kernel
theorem dX12_looks_365 : decode cX12_looks 365 = .ok (.ifCond .eq 19, 3) := by decide +kernel
theorem dX12_looks_368 : decode cX12_looks 368 = .ok (.iload 8, 2) := by decide +kernel
theorem dX12_looks_370 : decode cX12_looks 370 = .ok (.sipush (-200), 3) := by decide +kernel
theorem dX12_looks_373 : decode cX12_looks 373 = .ok (.if_icmp .le 11, 3) := by decide +kernel
theorem dX12_looks_376 : decode cX12_looks 376 = .ok (.bipush (-10), 2) := by decide +kernel
theorem dX12_looks_378 : decode cX12_looks 378 = .ok (.iload 8, 2) := by decide +kernel
theorem dX12_looks_380 : decode cX12_looks 380 = .ok (.isub, 1) := by decide +kernel
theorem dX12_looks_381 : decode cX12_looks 381 = .ok (.goto 4, 3) := by decide +kernel
theorem dX12_looks_384 : decode cX12_looks 384 = .ok (.iconst 0, 1) := by decide +kernel
theorem dX12_looks_385 : decode cX12_looks 385 = .ok (.iadd, 1) := by decide +kernel
theorem dX12_looks_386 : decode cX12_looks 386 = .ok (.istore_n 3, 1) := by decide +kernel
theorem dX12_looks_387 : decode cX12_looks 387 = .ok (.iload_n 3, 1) := by decide +kernel
theorem dX12_looks_388 : decode cX12_looks 388 = .ok (.iload 9, 2) := by decide +kernel
theorem dX12_looks_390 : decode cX12_looks 390 = .ok (.ifCond .eq 20, 3) := by decide +kernel
theorem dX12_looks_393 : decode cX12_looks 393 = .ok (.iload 8, 2) := by decide +kernel
theorem dX12_looks_395 : decode cX12_looks 395 = .ok (.sipush (-200), 3) := by decide +kernel
theorem dX12_looks_398 : decode cX12_looks 398 = .ok (.if_icmp .gt 12, 3) := by decide +kernel
theorem dX12_looks_401 : decode cX12_looks 401 = .ok (.sipush (-200), 3) := by decide +kernel
theorem dX12_looks_404 : decode cX12_looks 404 = .ok (.iload 8, 2) := by decide +kernel
theorem dX12_looks_406 : decode cX12_looks 406 = .ok (.isub, 1) := by decide +kernel
theorem dX12_looks_407 : decode cX12_looks 407 = .ok (.goto 4, 3) := by decide +kernel
theorem dX12_looks_410 : decode cX12_looks 410 = .ok (.iconst 0, 1) := by decide +kernel
theorem dX12_looks_411 : decode cX12_looks 411 = .ok (.isub, 1) := by decide +kernel
theorem dX12_looks_412 : decode cX12_looks 412 = .ok (.istore_n 3, 1) := by decide +kernel
theorem dX12_looks_413 : decode cX12_looks 413 = .ok (.iinc 7 1, 3) := by decide +kernel
theorem dX12_looks_416 : decode cX12_looks 416 = .ok (.goto (-304), 3) := by decide +kernel
theorem dX12_looks_419 : decode cX12_looks 419 = .ok (.iload_n 3, 1) := by decide +kernel
theorem dX12_looks_420 : decode cX12_looks 420 = .ok (.ireturn, 1) := by decide +kernel
theorem dX12_lengthOf_0 : decode cX12_lengthOf 0 = .ok (.aload_n 0, 1) := by decide +kernel
theorem dX12_lengthOf_1 : decode cX12_lengthOf 1 = .ok (.getfield 9, 3) := by decide +kernel
theorem dX12_lengthOf_4 : decode cX12_lengthOf 4 = .ok (.bipush 21, 2) := by decide +kernel
theorem dX12_lengthOf_6 : decode cX12_lengthOf 6 = .ok (.iload_n 1, 1) := by decide +kernel
theorem dX12_lengthOf_7 : decode cX12_lengthOf 7 = .ok (.iadd, 1) := by decide +kernel
theorem dX12_lengthOf_8 : decode cX12_lengthOf 8 = .ok (.iaload, 1) := by decide +kernel
theorem dX12_lengthOf_9 : decode cX12_lengthOf 9 = .ok (.istore_n 2, 1) := by decide +kernel
theorem dX12_lengthOf_10 : decode cX12_lengthOf 10 = .ok (.aload_n 0, 1) := by decide +kernel
theorem dX12_lengthOf_11 : decode cX12_lengthOf 11 = .ok (.getfield 9, 3) := by decide +kernel
theorem dX12_lengthOf_14 : decode cX12_lengthOf 14 = .ok (.bipush 7, 2) := by decide +kernel
theorem dX12_lengthOf_16 : decode cX12_lengthOf 16 = .ok (.iload_n 1, 1) := by decide +kernel
theorem dX12_lengthOf_17 : decode cX12_lengthOf 17 = .ok (.iadd, 1) := by decide +kernel
theorem dX12_lengthOf_18 : decode cX12_lengthOf 18 = .ok (.iaload, 1) := by decide +kernel
theorem dX12_lengthOf_19 : decode cX12_lengthOf 19 = .ok (.tableswitch 71 1 6 #[37, 71, 43, 63, 71, 43], 37) := by decide +kernel
theorem dX12_lengthOf_56 : decode cX12_lengthOf 56 = .ok (.iload_n 2, 1) := by decide +kernel
theorem dX12_lengthOf_57 : decode cX12_lengthOf 57 = .ok (.iload_n 2, 1) := by decide +kernel
theorem dX12_lengthOf_58 : decode cX12_lengthOf 58 = .ok (.iconst 2, 1) := by decide +kernel
theorem dX12_lengthOf_59 : decode cX12_lengthOf 59 = .ok (.idiv, 1) := by decide +kernel
theorem dX12_lengthOf_60 : decode cX12_lengthOf 60 = .ok (.iadd, 1) := by decide +kernel
theorem dX12_lengthOf_61 : decode cX12_lengthOf 61 = .ok (.ireturn, 1) := by decide +kernel
theorem dX12_lengthOf_62 : decode cX12_lengthOf 62 = .ok (.iload_n 2, 1) := by decide +kernel
theorem dX12_lengthOf_63 : decode cX12_lengthOf 63 = .ok (.aload_n 0, 1) := by decide +kernel
theorem dX12_lengthOf_64 : decode cX12_lengthOf 64 = .ok (.getfield 9, 3) := by decide +kernel
theorem dX12_lengthOf_67 : decode cX12_lengthOf 67 = .ok (.bipush 14, 2) := by decide +kernel
theorem dX12_lengthOf_69 : decode cX12_lengthOf 69 = .ok (.iload_n 1, 1) := by decide +kernel
theorem dX12_lengthOf_70 : decode cX12_lengthOf 70 = .ok (.iadd, 1) := by decide +kernel
theorem dX12_lengthOf_71 : decode cX12_lengthOf 71 = .ok (.iaload, 1) := by decide +kernel
theorem dX12_lengthOf_72 : decode cX12_lengthOf 72 = .ok (.iconst 3, 1) := by decide +kernel
theorem dX12_lengthOf_73 : decode cX12_lengthOf 73 = .ok (.idiv, 1) := by decide +kernel
theorem dX12_lengthOf_74 : decode cX12_lengthOf 74 = .ok (.isub, 1) := by decide +kernel
theorem dX12_lengthOf_75 : decode cX12_lengthOf 75 = .ok (.iconst 1, 1) := by decide +kernel
theorem dX12_lengthOf_76 : decode cX12_lengthOf 76 = .ok (.bipush 9, 2) := by decide +kernel
theorem dX12_lengthOf_78 : decode cX12_lengthOf 78 = .ok (.invokestatic 142, 3) := by decide +kernel
theorem dX12_lengthOf_81 : decode cX12_lengthOf 81 = .ok (.ireturn, 1) := by decide +kernel
theorem dX12_lengthOf_82 : decode cX12_lengthOf 82 = .ok (.iload_n 2, 1) := by decide +kernel
theorem dX12_lengthOf_83 : decode cX12_lengthOf 83 = .ok (.iload_n 2, 1) := by decide +kernel
theorem dX12_lengthOf_84 : decode cX12_lengthOf 84 = .ok (.iconst 2, 1) := by decide +kernel
theorem dX12_lengthOf_85 : decode cX12_lengthOf 85 = .ok (.idiv, 1) := by decide +kernel
theorem dX12_lengthOf_86 : decode cX12_lengthOf 86 = .ok (.iadd, 1) := by decide +kernel
theorem dX12_lengthOf_87 : decode cX12_lengthOf 87 = .ok (.iconst 1, 1) := by decide +kernel
theorem dX12_lengthOf_88 : decode cX12_lengthOf 88 = .ok (.iadd, 1) := by decide +kernel
theorem dX12_lengthOf_89 : decode cX12_lengthOf 89 = .ok (.ireturn, 1) := by decide +kernel
theorem dX12_lengthOf_90 : decode cX12_lengthOf 90 = .ok (.iload_n 2, 1) := by decide +kernel
theorem dX12_lengthOf_91 : decode cX12_lengthOf 91 = .ok (.ireturn, 1) := by decide +kernel
theorem dX12_rowAt_0 : decode cX12_rowAt 0 = .ok (.aload_n 0, 1) := by decide +kernel
theorem dX12_rowAt_1 : decode cX12_rowAt 1 = .ok (.getfield 9, 3) := by decide +kernel
theorem dX12_rowAt_4 : decode cX12_rowAt 4 = .ok (.bipush 35, 2) := by decide +kernel
theorem dX12_rowAt_6 : decode cX12_rowAt 6 = .ok (.iload_n 1, 1) := by decide +kernel
theorem dX12_rowAt_7 : decode cX12_rowAt 7 = .ok (.iadd, 1) := by decide +kernel
theorem dX12_rowAt_8 : decode cX12_rowAt 8 = .ok (.iaload, 1) := by decide +kernel
theorem dX12_rowAt_9 : decode cX12_rowAt 9 = .ok (.iload_n 2, 1) := by decide +kernel
theorem dX12_rowAt_10 : decode cX12_rowAt 10 = .ok (.iconst 2, 1) := by decide +kernel
theorem dX12_rowAt_11 : decode cX12_rowAt 11 = .ok (.if_icmp .ne 7, 3) := by decide +kernel
theorem dX12_rowAt_14 : decode cX12_rowAt 14 = .ok (.iconst 1, 1) := by decide +kernel
theorem dX12_rowAt_15 : decode cX12_rowAt 15 = .ok (.goto 4, 3) := by decide +kernel
theorem dX12_rowAt_18 : decode cX12_rowAt 18 = .ok (.iconst 0, 1) := by decide +kernel
theorem dX12_rowAt_19 : decode cX12_rowAt 19 = .ok (.isub, 1) := by decide +kernel
theorem dX12_rowAt_20 : decode cX12_rowAt 20 = .ok (.iload_n 2, 1) := by decide +kernel
theorem dX12_rowAt_21 : decode cX12_rowAt 21 = .ok (.iconst 3, 1) := by decide +kernel
theorem dX12_rowAt_22 : decode cX12_rowAt 22 = .ok (.if_icmp .ne 7, 3) := by decide +kernel
theorem dX12_rowAt_25 : decode cX12_rowAt 25 = .ok (.iconst 1, 1) := by decide +kernel
theorem dX12_rowAt_26 : decode cX12_rowAt 26 = .ok (.goto 4, 3) := by decide +kernel
theorem dX12_rowAt_29 : decode cX12_rowAt 29 = .ok (.iconst 0, 1) := by decide +kernel
theorem dX12_rowAt_30 : decode cX12_rowAt 30 = .ok (.iadd, 1) := by decide +kernel
theorem dX12_rowAt_31 : decode cX12_rowAt 31 = .ok (.ireturn, 1) := by decide +kernel
theorem dX12_firstAt_0 : decode cX12_firstAt 0 = .ok (.aload_n 0, 1) := by decide +kernel
theorem dX12_firstAt_1 : decode cX12_firstAt 1 = .ok (.getfield 9, 3) := by decide +kernel
theorem dX12_firstAt_4 : decode cX12_firstAt 4 = .ok (.bipush 28, 2) := by decide +kernel
theorem dX12_firstAt_6 : decode cX12_firstAt 6 = .ok (.iload_n 1, 1) := by decide +kernel
theorem dX12_firstAt_7 : decode cX12_firstAt 7 = .ok (.iadd, 1) := by decide +kernel
theorem dX12_firstAt_8 : decode cX12_firstAt 8 = .ok (.iaload, 1) := by decide +kernel
theorem dX12_firstAt_9 : decode cX12_firstAt 9 = .ok (.iload_n 2, 1) := by decide +kernel
theorem dX12_firstAt_10 : decode cX12_firstAt 10 = .ok (.ifCond .ne 7, 3) := by decide +kernel
theorem dX12_firstAt_13 : decode cX12_firstAt 13 = .ok (.iconst 1, 1) := by decide +kernel
theorem dX12_firstAt_14 : decode cX12_firstAt 14 = .ok (.goto 18, 3) := by decide +kernel
theorem dX12_firstAt_17 : decode cX12_firstAt 17 = .ok (.iload_n 2, 1) := by decide +kernel
theorem dX12_firstAt_18 : decode cX12_firstAt 18 = .ok (.iconst 1, 1) := by decide +kernel
theorem dX12_firstAt_19 : decode cX12_firstAt 19 = .ok (.if_icmp .ne 12, 3) := by decide +kernel
theorem dX12_firstAt_22 : decode cX12_firstAt 22 = .ok (.aload_n 0, 1) := by decide +kernel
theorem dX12_firstAt_23 : decode cX12_firstAt 23 = .ok (.iload_n 1, 1) := by decide +kernel
theorem dX12_firstAt_24 : decode cX12_firstAt 24 = .ok (.invokevirtual 146, 3) := by decide +kernel
theorem dX12_firstAt_27 : decode cX12_firstAt 27 = .ok (.ineg, 1) := by decide +kernel
theorem dX12_firstAt_28 : decode cX12_firstAt 28 = .ok (.goto 4, 3) := by decide +kernel
theorem dX12_firstAt_31 : decode cX12_firstAt 31 = .ok (.iconst 0, 1) := by decide +kernel
theorem dX12_firstAt_32 : decode cX12_firstAt 32 = .ok (.iadd, 1) := by decide +kernel
theorem dX12_firstAt_33 : decode cX12_firstAt 33 = .ok (.ireturn, 1) := by decide +kernel
theorem dX12_isAt_0 : decode cX12_isAt 0 = .ok (.iload_n 3, 1) := by decide +kernel
theorem dX12_isAt_1 : decode cX12_isAt 1 = .ok (.aload_n 0, 1) := by decide +kernel
theorem dX12_isAt_2 : decode cX12_isAt 2 = .ok (.iload_n 1, 1) := by decide +kernel
theorem dX12_isAt_3 : decode cX12_isAt 3 = .ok (.iload_n 2, 1) := by decide +kernel
theorem dX12_isAt_4 : decode cX12_isAt 4 = .ok (.invokevirtual 150, 3) := by decide +kernel
theorem dX12_isAt_7 : decode cX12_isAt 7 = .ok (.isub, 1) := by decide +kernel
theorem dX12_isAt_8 : decode cX12_isAt 8 = .ok (.istore 5, 2) := by decide +kernel
theorem dX12_isAt_10 : decode cX12_isAt 10 = .ok (.iload_n 2, 1) := by decide +kernel
theorem dX12_isAt_11 : decode cX12_isAt 11 = .ok (.iconst 4, 1) := by decide +kernel
theorem dX12_isAt_12 : decode cX12_isAt 12 = .ok (.if_icmp .eq 33, 3) := by decide +kernel
theorem dX12_isAt_15 : decode cX12_isAt 15 = .ok (.iload 4, 2) := by decide +kernel
theorem dX12_isAt_17 : decode cX12_isAt 17 = .ok (.aload_n 0, 1) := by decide +kernel
theorem dX12_isAt_18 : decode cX12_isAt 18 = .ok (.iload_n 1, 1) := by decide +kernel
theorem dX12_isAt_19 : decode cX12_isAt 19 = .ok (.iload_n 2, 1) := by decide +kernel
theorem dX12_isAt_20 : decode cX12_isAt 20 = .ok (.invokevirtual 153, 3) := by decide +kernel
theorem dX12_isAt_23 : decode cX12_isAt 23 = .ok (.if_icmp .ne 22, 3) := by decide +kernel
theorem dX12_isAt_26 : decode cX12_isAt 26 = .ok (.iload 5, 2) := by decide +kernel
theorem dX12_isAt_28 : decode cX12_isAt 28 = .ok (.ifCond .lt 17, 3) := by decide +kernel
theorem dX12_isAt_31 : decode cX12_isAt 31 = .ok (.iload 5, 2) := by decide +kernel
theorem dX12_isAt_33 : decode cX12_isAt 33 = .ok (.aload_n 0, 1) := by decide +kernel
theorem dX12_isAt_34 : decode cX12_isAt 34 = .ok (.iload_n 1, 1) := by decide +kernel
theorem dX12_isAt_35 : decode cX12_isAt 35 = .ok (.invokevirtual 146, 3) := by decide +kernel
theorem dX12_isAt_38 : decode cX12_isAt 38 = .ok (.if_icmp .ge 7, 3) := by decide +kernel
theorem dX12_isAt_41 : decode cX12_isAt 41 = .ok (.iconst 1, 1) := by decide +kernel
theorem dX12_isAt_42 : decode cX12_isAt 42 = .ok (.goto 4, 3) := by decide +kernel
theorem dX12_isAt_45 : decode cX12_isAt 45 = .ok (.iconst 0, 1) := by decide +kernel
theorem dX12_isAt_46 : decode cX12_isAt 46 = .ok (.ireturn, 1) := by decide +kernel
theorem dX12_bothAt_0 : decode cX12_bothAt 0 = .ok (.aload_n 0, 1) := by decide +kernel
theorem dX12_bothAt_1 : decode cX12_bothAt 1 = .ok (.iload_n 1, 1) := by decide +kernel
theorem dX12_bothAt_2 : decode cX12_bothAt 2 = .ok (.iload_n 2, 1) := by decide +kernel
theorem dX12_bothAt_3 : decode cX12_bothAt 3 = .ok (.invokevirtual 153, 3) := by decide +kernel
theorem dX12_bothAt_6 : decode cX12_bothAt 6 = .ok (.aload_n 0, 1) := by decide +kernel
theorem dX12_bothAt_7 : decode cX12_bothAt 7 = .ok (.iload_n 3, 1) := by decide +kernel
theorem dX12_bothAt_8 : decode cX12_bothAt 8 = .ok (.iload 4, 2) := by decide +kernel
theorem dX12_bothAt_10 : decode cX12_bothAt 10 = .ok (.invokevirtual 153, 3) := by decide +kernel
theorem dX12_bothAt_13 : decode cX12_bothAt 13 = .ok (.if_icmp .eq 5, 3) := by decide +kernel
theorem dX12_bothAt_16 : decode cX12_bothAt 16 = .ok (.iconst 0, 1) := by decide +kernel
theorem dX12_bothAt_17 : decode cX12_bothAt 17 = .ok (.ireturn, 1) := by decide +kernel
theorem dX12_bothAt_18 : decode cX12_bothAt 18 = .ok (.aload_n 0, 1) := by decide +kernel
theorem dX12_bothAt_19 : decode cX12_bothAt 19 = .ok (.iload_n 1, 1) := by decide +kernel
theorem dX12_bothAt_20 : decode cX12_bothAt 20 = .ok (.iload_n 2, 1) := by decide +kernel
theorem dX12_bothAt_21 : decode cX12_bothAt 21 = .ok (.invokevirtual 150, 3) := by decide +kernel
theorem dX12_bothAt_24 : decode cX12_bothAt 24 = .ok (.istore 5, 2) := by decide +kernel
theorem dX12_bothAt_26 : decode cX12_bothAt 26 = .ok (.iconst 0, 1) := by decide +kernel
theorem dX12_bothAt_27 : decode cX12_bothAt 27 = .ok (.istore 6, 2) := by decide +kernel
theorem dX12_bothAt_29 : decode cX12_bothAt 29 = .ok (.iconst 0, 1) := by decide +kernel
theorem dX12_bothAt_30 : decode cX12_bothAt 30 = .ok (.istore 7, 2) := by decide +kernel
theorem dX12_bothAt_32 : decode cX12_bothAt 32 = .ok (.iload 7, 2) := by decide +kernel
theorem dX12_bothAt_34 : decode cX12_bothAt 34 = .ok (.aload_n 0, 1) := by decide +kernel
theorem dX12_bothAt_35 : decode cX12_bothAt 35 = .ok (.iload_n 1, 1) := by decide +kernel
theorem dX12_bothAt_36 : decode cX12_bothAt 36 = .ok (.invokevirtual 146, 3) := by decide +kernel
theorem dX12_bothAt_39 : decode cX12_bothAt 39 = .ok (.if_icmp .ge 41, 3) := by decide +kernel
theorem dX12_bothAt_42 : decode cX12_bothAt 42 = .ok (.iload 6, 2) := by decide +kernel
theorem dX12_bothAt_44 : decode cX12_bothAt 44 = .ok (.aload_n 0, 1) := by decide +kernel
theorem dX12_bothAt_45 : decode cX12_bothAt 45 = .ok (.iload_n 3, 1) := by decide +kernel
theorem dX12_bothAt_46 : decode cX12_bothAt 46 = .ok (.iload 4, 2) := by decide +kernel
theorem dX12_bothAt_48 : decode cX12_bothAt 48 = .ok (.iload 5, 2) := by decide +kernel
theorem dX12_bothAt_50 : decode cX12_bothAt 50 = .ok (.iload 7, 2) := by decide +kernel
theorem dX12_bothAt_52 : decode cX12_bothAt 52 = .ok (.iadd, 1) := by decide +kernel
theorem dX12_bothAt_53 : decode cX12_bothAt 53 = .ok (.aload_n 0, 1) := by decide +kernel
theorem dX12_bothAt_54 : decode cX12_bothAt 54 = .ok (.iload_n 3, 1) := by decide +kernel
theorem dX12_bothAt_55 : decode cX12_bothAt 55 = .ok (.iload 4, 2) := by decide +kernel
theorem dX12_bothAt_57 : decode cX12_bothAt 57 = .ok (.invokevirtual 153, 3) := by decide +kernel
theorem dX12_bothAt_60 : decode cX12_bothAt 60 = .ok (.invokevirtual 156, 3) := by decide +kernel
theorem dX12_bothAt_63 : decode cX12_bothAt 63 = .ok (.ifCond .eq 7, 3) := by decide +kernel
theorem dX12_bothAt_66 : decode cX12_bothAt 66 = .ok (.iconst 1, 1) := by decide +kernel
theorem dX12_bothAt_67 : decode cX12_bothAt 67 = .ok (.goto 4, 3) := by decide +kernel
theorem dX12_bothAt_70 : decode cX12_bothAt 70 = .ok (.iconst 0, 1) := by decide +kernel
theorem dX12_bothAt_71 : decode cX12_bothAt 71 = .ok (.iadd, 1) := by decide +kernel
theorem dX12_bothAt_72 : decode cX12_bothAt 72 = .ok (.istore 6, 2) := by decide +kernel
theorem dX12_bothAt_74 : decode cX12_bothAt 74 = .ok (.iinc 7 1, 3) := by decide +kernel
theorem dX12_bothAt_77 : decode cX12_bothAt 77 = .ok (.goto (-45), 3) := by decide +kernel
theorem dX12_bothAt_80 : decode cX12_bothAt 80 = .ok (.iload 6, 2) := by decide +kernel
theorem dX12_bothAt_82 : decode cX12_bothAt 82 = .ok (.ireturn, 1) := by decide +kernel
theorem dX12_may_0 : decode cX12_may 0 = .ok (.aload_n 0, 1) := by decide +kernel
theorem dX12_may_1 : decode cX12_may 1 = .ok (.getfield 9, 3) := by decide +kernel
theorem dX12_may_4 : decode cX12_may 4 = .ok (.bipush 7, 2) := by decide +kernel
theorem dX12_may_6 : decode cX12_may 6 = .ok (.iload_n 1, 1) := by decide +kernel
theorem dX12_may_7 : decode cX12_may 7 = .ok (.iadd, 1) := by decide +kernel
theorem dX12_may_8 : decode cX12_may 8 = .ok (.iaload, 1) := by decide +kernel
theorem dX12_may_9 : decode cX12_may 9 = .ok (.tableswitch 108 1 6 #[39, 50, 65, 108, 76, 86], 39) := by decide +kernel
theorem dX12_may_48 : decode cX12_may 48 = .ok (.iload_n 2, 1) := by decide +kernel
theorem dX12_may_49 : decode cX12_may 49 = .ok (.iconst 2, 1) := by decide +kernel
theorem dX12_may_50 : decode cX12_may 50 = .ok (.if_icmp .ge 7, 3) := by decide +kernel
theorem dX12_may_53 : decode cX12_may 53 = .ok (.iconst 1, 1) := by decide +kernel
theorem dX12_may_54 : decode cX12_may 54 = .ok (.goto 4, 3) := by decide +kernel
theorem dX12_may_57 : decode cX12_may 57 = .ok (.iconst 0, 1) := by decide +kernel
theorem dX12_may_58 : decode cX12_may 58 = .ok (.ireturn, 1) := by decide +kernel
theorem dX12_may_59 : decode cX12_may 59 = .ok (.iload_n 2, 1) := by decide +kernel
theorem dX12_may_60 : decode cX12_may 60 = .ok (.ifCond .eq 8, 3) := by decide +kernel
theorem dX12_may_63 : decode cX12_may 63 = .ok (.iload_n 2, 1) := by decide +kernel
theorem dX12_may_64 : decode cX12_may 64 = .ok (.iconst 3, 1) := by decide +kernel
theorem dX12_may_65 : decode cX12_may 65 = .ok (.if_icmp .ne 7, 3) := by decide +kernel
theorem dX12_may_68 : decode cX12_may 68 = .ok (.iconst 1, 1) := by decide +kernel
theorem dX12_may_69 : decode cX12_may 69 = .ok (.goto 4, 3) := by decide +kernel
theorem dX12_may_72 : decode cX12_may 72 = .ok (.iconst 0, 1) := by decide +kernel
theorem dX12_may_73 : decode cX12_may 73 = .ok (.ireturn, 1) := by decide +kernel
theorem dX12_may_74 : decode cX12_may 74 = .ok (.iload_n 2, 1) := by decide +kernel
theorem dX12_may_75 : decode cX12_may 75 = .ok (.iconst 1, 1) := by decide +kernel
theorem dX12_may_76 : decode cX12_may 76 = .ok (.if_icmp .le 7, 3) := by decide +kernel
theorem dX12_may_79 : decode cX12_may 79 = .ok (.iconst 1, 1) := by decide +kernel
theorem dX12_may_80 : decode cX12_may 80 = .ok (.goto 4, 3) := by decide +kernel
theorem dX12_may_83 : decode cX12_may 83 = .ok (.iconst 0, 1) := by decide +kernel
theorem dX12_may_84 : decode cX12_may 84 = .ok (.ireturn, 1) := by decide +kernel
theorem dX12_may_85 : decode cX12_may 85 = .ok (.iload_n 2, 1) := by decide +kernel
theorem dX12_may_86 : decode cX12_may 86 = .ok (.ifCond .ne 7, 3) := by decide +kernel
theorem dX12_may_89 : decode cX12_may 89 = .ok (.iconst 1, 1) := by decide +kernel
theorem dX12_may_90 : decode cX12_may 90 = .ok (.goto 4, 3) := by decide +kernel
theorem dX12_may_93 : decode cX12_may 93 = .ok (.iconst 0, 1) := by decide +kernel
theorem dX12_may_94 : decode cX12_may 94 = .ok (.ireturn, 1) := by decide +kernel
theorem dX12_may_95 : decode cX12_may 95 = .ok (.aload_n 0, 1) := by decide +kernel
theorem dX12_may_96 : decode cX12_may 96 = .ok (.getfield 9, 3) := by decide +kernel
theorem dX12_may_99 : decode cX12_may 99 = .ok (.bipush 49, 2) := by decide +kernel
theorem dX12_may_101 : decode cX12_may 101 = .ok (.iconst 4, 1) := by decide +kernel
theorem dX12_may_102 : decode cX12_may 102 = .ok (.iload_n 1, 1) := by decide +kernel
theorem dX12_may_103 : decode cX12_may 103 = .ok (.imul, 1) := by decide +kernel
theorem dX12_may_104 : decode cX12_may 104 = .ok (.iadd, 1) := by decide +kernel
theorem dX12_may_105 : decode cX12_may 105 = .ok (.iload_n 2, 1) := by decide +kernel
theorem dX12_may_106 : decode cX12_may 106 = .ok (.iadd, 1) := by decide +kernel
theorem dX12_may_107 : decode cX12_may 107 = .ok (.iaload, 1) := by decide +kernel
theorem dX12_may_108 : decode cX12_may 108 = .ok (.ifCond .le 7, 3) := by decide +kernel
theorem dX12_may_111 : decode cX12_may 111 = .ok (.iconst 1, 1) := by decide +kernel
theorem dX12_may_112 : decode cX12_may 112 = .ok (.goto 4, 3) := by decide +kernel
theorem dX12_may_115 : decode cX12_may 115 = .ok (.iconst 0, 1) := by decide +kernel
theorem dX12_may_116 : decode cX12_may 116 = .ok (.ireturn, 1) := by decide +kernel
theorem dX12_may_117 : decode cX12_may 117 = .ok (.iconst 1, 1) := by decide +kernel
theorem dX12_may_118 : decode cX12_may 118 = .ok (.ireturn, 1) := by decide +kernel
theorem dX12_fits_0 : decode cX12_fits 0 = .ok (.aload_n 0, 1) := by decide +kernel
theorem dX12_fits_1 : decode cX12_fits 1 = .ok (.iload_n 1, 1) := by decide +kernel
theorem dX12_fits_2 : decode cX12_fits 2 = .ok (.iload_n 2, 1) := by decide +kernel
theorem dX12_fits_3 : decode cX12_fits 3 = .ok (.invokevirtual 150, 3) := by decide +kernel
theorem dX12_fits_6 : decode cX12_fits 6 = .ok (.istore 4, 2) := by decide +kernel
theorem dX12_fits_8 : decode cX12_fits 8 = .ok (.aload_n 0, 1) := by decide +kernel
theorem dX12_fits_9 : decode cX12_fits 9 = .ok (.iload_n 1, 1) := by decide +kernel
theorem dX12_fits_10 : decode cX12_fits 10 = .ok (.iload_n 2, 1) := by decide +kernel
theorem dX12_fits_11 : decode cX12_fits 11 = .ok (.invokevirtual 160, 3) := by decide +kernel
theorem dX12_fits_14 : decode cX12_fits 14 = .ok (.ifCond .eq 39, 3) := by decide +kernel
theorem dX12_fits_17 : decode cX12_fits 17 = .ok (.aload_n 0, 1) := by decide +kernel
theorem dX12_fits_18 : decode cX12_fits 18 = .ok (.iload_n 1, 1) := by decide +kernel
theorem dX12_fits_19 : decode cX12_fits 19 = .ok (.iload_n 2, 1) := by decide +kernel
theorem dX12_fits_20 : decode cX12_fits 20 = .ok (.invokevirtual 153, 3) := by decide +kernel
theorem dX12_fits_23 : decode cX12_fits 23 = .ok (.iconst 0, 1) := by decide +kernel
theorem dX12_fits_24 : decode cX12_fits 24 = .ok (.bipush 11, 2) := by decide +kernel
theorem dX12_fits_26 : decode cX12_fits 26 = .ok (.invokestatic 56, 3) := by decide +kernel
theorem dX12_fits_29 : decode cX12_fits 29 = .ok (.ifCond .eq 24, 3) := by decide +kernel
theorem dX12_fits_32 : decode cX12_fits 32 = .ok (.iload 4, 2) := by decide +kernel
theorem dX12_fits_34 : decode cX12_fits 34 = .ok (.ifCond .lt 19, 3) := by decide +kernel
theorem dX12_fits_37 : decode cX12_fits 37 = .ok (.iload 4, 2) := by decide +kernel
theorem dX12_fits_39 : decode cX12_fits 39 = .ok (.aload_n 0, 1) := by decide +kernel
theorem dX12_fits_40 : decode cX12_fits 40 = .ok (.iload_n 1, 1) := by decide +kernel
theorem dX12_fits_41 : decode cX12_fits 41 = .ok (.invokevirtual 146, 3) := by decide +kernel
theorem dX12_fits_44 : decode cX12_fits 44 = .ok (.iadd, 1) := by decide +kernel
theorem dX12_fits_45 : decode cX12_fits 45 = .ok (.iload_n 3, 1) := by decide +kernel
theorem dX12_fits_46 : decode cX12_fits 46 = .ok (.if_icmp .gt 7, 3) := by decide +kernel
theorem dX12_fits_49 : decode cX12_fits 49 = .ok (.iconst 1, 1) := by decide +kernel
theorem dX12_fits_50 : decode cX12_fits 50 = .ok (.goto 4, 3) := by decide +kernel
theorem dX12_fits_53 : decode cX12_fits 53 = .ok (.iconst 0, 1) := by decide +kernel
theorem dX12_fits_54 : decode cX12_fits 54 = .ok (.istore 5, 2) := by decide +kernel
theorem dX12_fits_56 : decode cX12_fits 56 = .ok (.iconst 0, 1) := by decide +kernel
theorem dX12_fits_57 : decode cX12_fits 57 = .ok (.istore 6, 2) := by decide +kernel
theorem dX12_fits_59 : decode cX12_fits 59 = .ok (.iload 6, 2) := by decide +kernel
theorem dX12_fits_61 : decode cX12_fits 61 = .ok (.aload_n 0, 1) := by decide +kernel
theorem dX12_fits_62 : decode cX12_fits 62 = .ok (.getfield 9, 3) := by decide +kernel
theorem dX12_fits_65 : decode cX12_fits 65 = .ok (.iconst 0, 1) := by decide +kernel
theorem dX12_fits_66 : decode cX12_fits 66 = .ok (.iaload, 1) := by decide +kernel
theorem dX12_fits_67 : decode cX12_fits 67 = .ok (.if_icmp .ge 50, 3) := by decide +kernel
theorem dX12_fits_70 : decode cX12_fits 70 = .ok (.iload 5, 2) := by decide +kernel
theorem dX12_fits_72 : decode cX12_fits 72 = .ok (.ifCond .eq 45, 3) := by decide +kernel
theorem dX12_fits_75 : decode cX12_fits 75 = .ok (.aload_n 0, 1) := by decide +kernel
theorem dX12_fits_76 : decode cX12_fits 76 = .ok (.iload_n 1, 1) := by decide +kernel
theorem dX12_fits_77 : decode cX12_fits 77 = .ok (.iload_n 2, 1) := by decide +kernel
theorem dX12_fits_78 : decode cX12_fits 78 = .ok (.aload_n 0, 1) := by decide +kernel
theorem dX12_fits_79 : decode cX12_fits 79 = .ok (.getfield 9, 3) := by decide +kernel
theorem dX12_fits_82 : decode cX12_fits 82 = .ok (.bipush 28, 2) := by decide +kernel
theorem dX12_fits_84 : decode cX12_fits 84 = .ok (.iload 6, 2) := by decide +kernel
theorem dX12_fits_86 : decode cX12_fits 86 = .ok (.iadd, 1) := by decide +kernel
theorem dX12_fits_87 : decode cX12_fits 87 = .ok (.iaload, 1) := by decide +kernel
theorem dX12_fits_88 : decode cX12_fits 88 = .ok (.aload_n 0, 1) := by decide +kernel
theorem dX12_fits_89 : decode cX12_fits 89 = .ok (.getfield 9, 3) := by decide +kernel
theorem dX12_fits_92 : decode cX12_fits 92 = .ok (.bipush 35, 2) := by decide +kernel
theorem dX12_fits_94 : decode cX12_fits 94 = .ok (.iload 6, 2) := by decide +kernel
theorem dX12_fits_96 : decode cX12_fits 96 = .ok (.iadd, 1) := by decide +kernel
theorem dX12_fits_97 : decode cX12_fits 97 = .ok (.iaload, 1) := by decide +kernel
theorem dX12_fits_98 : decode cX12_fits 98 = .ok (.invokevirtual 156, 3) := by decide +kernel
theorem dX12_fits_101 : decode cX12_fits 101 = .ok (.ifCond .ne 7, 3) := by decide +kernel
theorem dX12_fits_104 : decode cX12_fits 104 = .ok (.iconst 1, 1) := by decide +kernel
theorem dX12_fits_105 : decode cX12_fits 105 = .ok (.goto 4, 3) := by decide +kernel
theorem dX12_fits_108 : decode cX12_fits 108 = .ok (.iconst 0, 1) := by decide +kernel
theorem dX12_fits_109 : decode cX12_fits 109 = .ok (.istore 5, 2) := by decide +kernel
theorem dX12_fits_111 : decode cX12_fits 111 = .ok (.iinc 6 1, 3) := by decide +kernel
theorem dX12_fits_114 : decode cX12_fits 114 = .ok (.goto (-55), 3) := by decide +kernel
theorem dX12_fits_117 : decode cX12_fits 117 = .ok (.iload 5, 2) := by decide +kernel
theorem dX12_fits_119 : decode cX12_fits 119 = .ok (.ireturn, 1) := by decide +kernel
theorem dX12_isFree_0 : decode cX12_isFree 0 = .ok (.aload_n 0, 1) := by decide +kernel
theorem dX12_isFree_1 : decode cX12_isFree 1 = .ok (.iload_n 1, 1) := by decide +kernel
theorem dX12_isFree_2 : decode cX12_isFree 2 = .ok (.iload_n 2, 1) := by decide +kernel
theorem dX12_isFree_3 : decode cX12_isFree 3 = .ok (.aload_n 0, 1) := by decide +kernel
theorem dX12_isFree_4 : decode cX12_isFree 4 = .ok (.invokevirtual 164, 3) := by decide +kernel
theorem dX12_isFree_7 : decode cX12_isFree 7 = .ok (.invokevirtual 167, 3) := by decide +kernel
theorem dX12_isFree_10 : decode cX12_isFree 10 = .ok (.istore_n 3, 1) := by decide +kernel
theorem dX12_isFree_11 : decode cX12_isFree 11 = .ok (.iconst 0, 1) := by decide +kernel
theorem dX12_isFree_12 : decode cX12_isFree 12 = .ok (.istore 4, 2) := by decide +kernel
theorem dX12_isFree_14 : decode cX12_isFree 14 = .ok (.iload 4, 2) := by decide +kernel
theorem dX12_isFree_16 : decode cX12_isFree 16 = .ok (.aload_n 0, 1) := by decide +kernel
theorem dX12_isFree_17 : decode cX12_isFree 17 = .ok (.getfield 9, 3) := by decide +kernel
theorem dX12_isFree_20 : decode cX12_isFree 20 = .ok (.iconst 0, 1) := by decide +kernel
theorem dX12_isFree_21 : decode cX12_isFree 21 = .ok (.iaload, 1) := by decide +kernel
theorem dX12_isFree_22 : decode cX12_isFree 22 = .ok (.if_icmp .ge 60, 3) := by decide +kernel
theorem dX12_isFree_25 : decode cX12_isFree 25 = .ok (.iload_n 3, 1) := by decide +kernel
theorem dX12_isFree_26 : decode cX12_isFree 26 = .ok (.ifCond .eq 56, 3) := by decide +kernel
theorem dX12_isFree_29 : decode cX12_isFree 29 = .ok (.iload 4, 2) := by decide +kernel
theorem dX12_isFree_31 : decode cX12_isFree 31 = .ok (.iload_n 1, 1) := by decide +kernel
theorem dX12_isFree_32 : decode cX12_isFree 32 = .ok (.if_icmp .eq 38, 3) := by decide +kernel
theorem dX12_isFree_35 : decode cX12_isFree 35 = .ok (.aload_n 0, 1) := by decide +kernel
theorem dX12_isFree_36 : decode cX12_isFree 36 = .ok (.getfield 9, 3) := by decide +kernel
theorem dX12_isFree_39 : decode cX12_isFree 39 = .ok (.bipush 42, 2) := by decide +kernel
theorem dX12_isFree_41 : decode cX12_isFree 41 = .ok (.iload 4, 2) := by decide +kernel
theorem dX12_isFree_43 : decode cX12_isFree 43 = .ok (.iadd, 1) := by decide +kernel
theorem dX12_isFree_44 : decode cX12_isFree 44 = .ok (.iaload, 1) := by decide +kernel
theorem dX12_isFree_45 : decode cX12_isFree 45 = .ok (.iconst 4, 1) := by decide +kernel
theorem dX12_isFree_46 : decode cX12_isFree 46 = .ok (.if_icmp .eq 24, 3) := by decide +kernel
theorem dX12_isFree_49 : decode cX12_isFree 49 = .ok (.aload_n 0, 1) := by decide +kernel
theorem dX12_isFree_50 : decode cX12_isFree 50 = .ok (.iload_n 1, 1) := by decide +kernel
theorem dX12_isFree_51 : decode cX12_isFree 51 = .ok (.iload_n 2, 1) := by decide +kernel
theorem dX12_isFree_52 : decode cX12_isFree 52 = .ok (.iload 4, 2) := by decide +kernel
theorem dX12_isFree_54 : decode cX12_isFree 54 = .ok (.aload_n 0, 1) := by decide +kernel
theorem dX12_isFree_55 : decode cX12_isFree 55 = .ok (.getfield 9, 3) := by decide +kernel
theorem dX12_isFree_58 : decode cX12_isFree 58 = .ok (.bipush 42, 2) := by decide +kernel
theorem dX12_isFree_60 : decode cX12_isFree 60 = .ok (.iload 4, 2) := by decide +kernel
theorem dX12_isFree_62 : decode cX12_isFree 62 = .ok (.iadd, 1) := by decide +kernel
theorem dX12_isFree_63 : decode cX12_isFree 63 = .ok (.iaload, 1) := by decide +kernel
theorem dX12_isFree_64 : decode cX12_isFree 64 = .ok (.invokevirtual 170, 3) := by decide +kernel
theorem dX12_isFree_67 : decode cX12_isFree 67 = .ok (.ifCond .ne 7, 3) := by decide +kernel
theorem dX12_isFree_70 : decode cX12_isFree 70 = .ok (.iconst 1, 1) := by decide +kernel
theorem dX12_isFree_71 : decode cX12_isFree 71 = .ok (.goto 4, 3) := by decide +kernel
theorem dX12_isFree_74 : decode cX12_isFree 74 = .ok (.iconst 0, 1) := by decide +kernel
theorem dX12_isFree_75 : decode cX12_isFree 75 = .ok (.istore_n 3, 1) := by decide +kernel
theorem dX12_isFree_76 : decode cX12_isFree 76 = .ok (.iinc 4 1, 3) := by decide +kernel
theorem dX12_isFree_79 : decode cX12_isFree 79 = .ok (.goto (-65), 3) := by decide +kernel
theorem dX12_isFree_82 : decode cX12_isFree 82 = .ok (.iload_n 3, 1) := by decide +kernel
theorem dX12_isFree_83 : decode cX12_isFree 83 = .ok (.ireturn, 1) := by decide +kernel
theorem dX12_goodOf_0 : decode cX12_goodOf 0 = .ok (.aload_n 0, 1) := by decide +kernel
theorem dX12_goodOf_1 : decode cX12_goodOf 1 = .ok (.invokevirtual 174, 3) := by decide +kernel
theorem dX12_goodOf_4 : decode cX12_goodOf 4 = .ok (.aload_n 0, 1) := by decide +kernel
theorem dX12_goodOf_5 : decode cX12_goodOf 5 = .ok (.iload_n 1, 1) := by decide +kernel
theorem dX12_goodOf_6 : decode cX12_goodOf 6 = .ok (.iload_n 2, 1) := by decide +kernel
theorem dX12_goodOf_7 : decode cX12_goodOf 7 = .ok (.invokevirtual 150, 3) := by decide +kernel
theorem dX12_goodOf_10 : decode cX12_goodOf 10 = .ok (.isub, 1) := by decide +kernel
theorem dX12_goodOf_11 : decode cX12_goodOf 11 = .ok (.istore_n 3, 1) := by decide +kernel
theorem dX12_goodOf_12 : decode cX12_goodOf 12 = .ok (.bipush 10, 2) := by decide +kernel
theorem dX12_goodOf_14 : decode cX12_goodOf 14 = .ok (.aload_n 0, 1) := by decide +kernel
theorem dX12_goodOf_15 : decode cX12_goodOf 15 = .ok (.iload_n 1, 1) := by decide +kernel
theorem dX12_goodOf_16 : decode cX12_goodOf 16 = .ok (.iload_n 2, 1) := by decide +kernel
theorem dX12_goodOf_17 : decode cX12_goodOf 17 = .ok (.invokevirtual 177, 3) := by decide +kernel
theorem dX12_goodOf_20 : decode cX12_goodOf 20 = .ok (.iadd, 1) := by decide +kernel
theorem dX12_goodOf_21 : decode cX12_goodOf 21 = .ok (.iload_n 3, 1) := by decide +kernel
theorem dX12_goodOf_22 : decode cX12_goodOf 22 = .ok (.ifCond .lt 16, 3) := by decide +kernel
theorem dX12_goodOf_25 : decode cX12_goodOf 25 = .ok (.iload_n 3, 1) := by decide +kernel
theorem dX12_goodOf_26 : decode cX12_goodOf 26 = .ok (.aload_n 0, 1) := by decide +kernel
theorem dX12_goodOf_27 : decode cX12_goodOf 27 = .ok (.iload_n 1, 1) := by decide +kernel
theorem dX12_goodOf_28 : decode cX12_goodOf 28 = .ok (.invokevirtual 146, 3) := by decide +kernel
theorem dX12_goodOf_31 : decode cX12_goodOf 31 = .ok (.if_icmp .ge 7, 3) := by decide +kernel
theorem dX12_goodOf_34 : decode cX12_goodOf 34 = .ok (.iconst 5, 1) := by decide +kernel
theorem dX12_goodOf_35 : decode cX12_goodOf 35 = .ok (.goto 4, 3) := by decide +kernel
theorem dX12_goodOf_38 : decode cX12_goodOf 38 = .ok (.iconst 0, 1) := by decide +kernel
theorem dX12_goodOf_39 : decode cX12_goodOf 39 = .ok (.isub, 1) := by decide +kernel
theorem dX12_goodOf_40 : decode cX12_goodOf 40 = .ok (.ireturn, 1) := by decide +kernel
theorem dX12_scoreNow_0 : decode cX12_scoreNow 0 = .ok (.iconst 0, 1) := by decide +kernel
theorem dX12_scoreNow_1 : decode cX12_scoreNow 1 = .ok (.istore_n 1, 1) := by decide +kernel
theorem dX12_scoreNow_2 : decode cX12_scoreNow 2 = .ok (.iconst 0, 1) := by decide +kernel
theorem dX12_scoreNow_3 : decode cX12_scoreNow 3 = .ok (.istore_n 2, 1) := by decide +kernel
theorem dX12_scoreNow_4 : decode cX12_scoreNow 4 = .ok (.iload_n 2, 1) := by decide +kernel
theorem dX12_scoreNow_5 : decode cX12_scoreNow 5 = .ok (.aload_n 0, 1) := by decide +kernel
theorem dX12_scoreNow_6 : decode cX12_scoreNow 6 = .ok (.getfield 9, 3) := by decide +kernel
theorem dX12_scoreNow_9 : decode cX12_scoreNow 9 = .ok (.iconst 0, 1) := by decide +kernel
theorem dX12_scoreNow_10 : decode cX12_scoreNow 10 = .ok (.iaload, 1) := by decide +kernel
theorem dX12_scoreNow_11 : decode cX12_scoreNow 11 = .ok (.if_icmp .ge 43, 3) := by decide +kernel
theorem dX12_scoreNow_14 : decode cX12_scoreNow 14 = .ok (.iload_n 1, 1) := by decide +kernel
theorem dX12_scoreNow_15 : decode cX12_scoreNow 15 = .ok (.aload_n 0, 1) := by decide +kernel
theorem dX12_scoreNow_16 : decode cX12_scoreNow 16 = .ok (.getfield 9, 3) := by decide +kernel
theorem dX12_scoreNow_19 : decode cX12_scoreNow 19 = .ok (.bipush 42, 2) := by decide +kernel
theorem dX12_scoreNow_21 : decode cX12_scoreNow 21 = .ok (.iload_n 2, 1) := by decide +kernel
theorem dX12_scoreNow_22 : decode cX12_scoreNow 22 = .ok (.iadd, 1) := by decide +kernel
theorem dX12_scoreNow_23 : decode cX12_scoreNow 23 = .ok (.iaload, 1) := by decide +kernel
theorem dX12_scoreNow_24 : decode cX12_scoreNow 24 = .ok (.iconst 4, 1) := by decide +kernel
theorem dX12_scoreNow_25 : decode cX12_scoreNow 25 = .ok (.if_icmp .ne 7, 3) := by decide +kernel
theorem dX12_scoreNow_28 : decode cX12_scoreNow 28 = .ok (.iconst 0, 1) := by decide +kernel
theorem dX12_scoreNow_29 : decode cX12_scoreNow 29 = .ok (.goto 17, 3) := by decide +kernel
theorem dX12_scoreNow_32 : decode cX12_scoreNow 32 = .ok (.aload_n 0, 1) := by decide +kernel
theorem dX12_scoreNow_33 : decode cX12_scoreNow 33 = .ok (.iload_n 2, 1) := by decide +kernel
theorem dX12_scoreNow_34 : decode cX12_scoreNow 34 = .ok (.aload_n 0, 1) := by decide +kernel
theorem dX12_scoreNow_35 : decode cX12_scoreNow 35 = .ok (.getfield 9, 3) := by decide +kernel
theorem dX12_scoreNow_38 : decode cX12_scoreNow 38 = .ok (.bipush 42, 2) := by decide +kernel
theorem dX12_scoreNow_40 : decode cX12_scoreNow 40 = .ok (.iload_n 2, 1) := by decide +kernel
theorem dX12_scoreNow_41 : decode cX12_scoreNow 41 = .ok (.iadd, 1) := by decide +kernel
theorem dX12_scoreNow_42 : decode cX12_scoreNow 42 = .ok (.iaload, 1) := by decide +kernel
theorem dX12_scoreNow_43 : decode cX12_scoreNow 43 = .ok (.invokevirtual 180, 3) := by decide +kernel
theorem dX12_scoreNow_46 : decode cX12_scoreNow 46 = .ok (.iadd, 1) := by decide +kernel
theorem dX12_scoreNow_47 : decode cX12_scoreNow 47 = .ok (.istore_n 1, 1) := by decide +kernel
theorem dX12_scoreNow_48 : decode cX12_scoreNow 48 = .ok (.iinc 2 1, 3) := by decide +kernel
theorem dX12_scoreNow_51 : decode cX12_scoreNow 51 = .ok (.goto (-47), 3) := by decide +kernel
theorem dX12_scoreNow_54 : decode cX12_scoreNow 54 = .ok (.iload_n 1, 1) := by decide +kernel
theorem dX12_scoreNow_55 : decode cX12_scoreNow 55 = .ok (.ireturn, 1) := by decide +kernel
theorem dX12_manyLaid_0 : decode cX12_manyLaid 0 = .ok (.iconst 0, 1) := by decide +kernel
theorem dX12_manyLaid_1 : decode cX12_manyLaid 1 = .ok (.istore_n 1, 1) := by decide +kernel
theorem dX12_manyLaid_2 : decode cX12_manyLaid 2 = .ok (.iconst 0, 1) := by decide +kernel
theorem dX12_manyLaid_3 : decode cX12_manyLaid 3 = .ok (.istore_n 2, 1) := by decide +kernel
theorem dX12_manyLaid_4 : decode cX12_manyLaid 4 = .ok (.iload_n 2, 1) := by decide +kernel
theorem dX12_manyLaid_5 : decode cX12_manyLaid 5 = .ok (.aload_n 0, 1) := by decide +kernel
theorem dX12_manyLaid_6 : decode cX12_manyLaid 6 = .ok (.getfield 9, 3) := by decide +kernel
theorem dX12_manyLaid_9 : decode cX12_manyLaid 9 = .ok (.iconst 0, 1) := by decide +kernel
theorem dX12_manyLaid_10 : decode cX12_manyLaid 10 = .ok (.iaload, 1) := by decide +kernel
theorem dX12_manyLaid_11 : decode cX12_manyLaid 11 = .ok (.if_icmp .ge 30, 3) := by decide +kernel
theorem dX12_manyLaid_14 : decode cX12_manyLaid 14 = .ok (.iload_n 1, 1) := by decide +kernel
theorem dX12_manyLaid_15 : decode cX12_manyLaid 15 = .ok (.aload_n 0, 1) := by decide +kernel
theorem dX12_manyLaid_16 : decode cX12_manyLaid 16 = .ok (.getfield 9, 3) := by decide +kernel
theorem dX12_manyLaid_19 : decode cX12_manyLaid 19 = .ok (.bipush 42, 2) := by decide +kernel
theorem dX12_manyLaid_21 : decode cX12_manyLaid 21 = .ok (.iload_n 2, 1) := by decide +kernel
theorem dX12_manyLaid_22 : decode cX12_manyLaid 22 = .ok (.iadd, 1) := by decide +kernel
theorem dX12_manyLaid_23 : decode cX12_manyLaid 23 = .ok (.iaload, 1) := by decide +kernel
theorem dX12_manyLaid_24 : decode cX12_manyLaid 24 = .ok (.iconst 4, 1) := by decide +kernel
theorem dX12_manyLaid_25 : decode cX12_manyLaid 25 = .ok (.if_icmp .ne 7, 3) := by decide +kernel
theorem dX12_manyLaid_28 : decode cX12_manyLaid 28 = .ok (.iconst 0, 1) := by decide +kernel
theorem dX12_manyLaid_29 : decode cX12_manyLaid 29 = .ok (.goto 4, 3) := by decide +kernel
theorem dX12_manyLaid_32 : decode cX12_manyLaid 32 = .ok (.iconst 1, 1) := by decide +kernel
theorem dX12_manyLaid_33 : decode cX12_manyLaid 33 = .ok (.iadd, 1) := by decide +kernel
theorem dX12_manyLaid_34 : decode cX12_manyLaid 34 = .ok (.istore_n 1, 1) := by decide +kernel
theorem dX12_manyLaid_35 : decode cX12_manyLaid 35 = .ok (.iinc 2 1, 3) := by decide +kernel
theorem dX12_manyLaid_38 : decode cX12_manyLaid 38 = .ok (.goto (-34), 3) := by decide +kernel
theorem dX12_manyLaid_41 : decode cX12_manyLaid 41 = .ok (.iload_n 1, 1) := by decide +kernel
theorem dX12_manyLaid_42 : decode cX12_manyLaid 42 = .ok (.ireturn, 1) := by decide +kernel
theorem dX12_isDotAt_0 : decode cX12_isDotAt 0 = .ok (.iconst 0, 1) := by decide +kernel
theorem dX12_isDotAt_1 : decode cX12_isDotAt 1 = .ok (.istore_n 3, 1) := by decide +kernel
theorem dX12_isDotAt_2 : decode cX12_isDotAt 2 = .ok (.iconst 0, 1) := by decide +kernel
theorem dX12_isDotAt_3 : decode cX12_isDotAt 3 = .ok (.istore 4, 2) := by decide +kernel
theorem dX12_isDotAt_5 : decode cX12_isDotAt 5 = .ok (.iload 4, 2) := by decide +kernel
theorem dX12_isDotAt_7 : decode cX12_isDotAt 7 = .ok (.aload_n 0, 1) := by decide +kernel
theorem dX12_isDotAt_8 : decode cX12_isDotAt 8 = .ok (.getfield 9, 3) := by decide +kernel
theorem dX12_isDotAt_11 : decode cX12_isDotAt 11 = .ok (.iconst 0, 1) := by decide +kernel
theorem dX12_isDotAt_12 : decode cX12_isDotAt 12 = .ok (.iaload, 1) := by decide +kernel
theorem dX12_isDotAt_13 : decode cX12_isDotAt 13 = .ok (.if_icmp .ge 47, 3) := by decide +kernel
theorem dX12_isDotAt_16 : decode cX12_isDotAt 16 = .ok (.iload_n 3, 1) := by decide +kernel
theorem dX12_isDotAt_17 : decode cX12_isDotAt 17 = .ok (.ifCond .ne 31, 3) := by decide +kernel
theorem dX12_isDotAt_20 : decode cX12_isDotAt 20 = .ok (.aload_n 0, 1) := by decide +kernel
theorem dX12_isDotAt_21 : decode cX12_isDotAt 21 = .ok (.getfield 9, 3) := by decide +kernel
theorem dX12_isDotAt_24 : decode cX12_isDotAt 24 = .ok (.bipush 28, 2) := by decide +kernel
theorem dX12_isDotAt_26 : decode cX12_isDotAt 26 = .ok (.iload 4, 2) := by decide +kernel
theorem dX12_isDotAt_28 : decode cX12_isDotAt 28 = .ok (.iadd, 1) := by decide +kernel
theorem dX12_isDotAt_29 : decode cX12_isDotAt 29 = .ok (.iaload, 1) := by decide +kernel
theorem dX12_isDotAt_30 : decode cX12_isDotAt 30 = .ok (.iload_n 1, 1) := by decide +kernel
theorem dX12_isDotAt_31 : decode cX12_isDotAt 31 = .ok (.if_icmp .ne 21, 3) := by decide +kernel
theorem dX12_isDotAt_34 : decode cX12_isDotAt 34 = .ok (.aload_n 0, 1) := by decide +kernel
theorem dX12_isDotAt_35 : decode cX12_isDotAt 35 = .ok (.getfield 9, 3) := by decide +kernel
theorem dX12_isDotAt_38 : decode cX12_isDotAt 38 = .ok (.bipush 35, 2) := by decide +kernel
theorem dX12_isDotAt_40 : decode cX12_isDotAt 40 = .ok (.iload 4, 2) := by decide +kernel
theorem dX12_isDotAt_42 : decode cX12_isDotAt 42 = .ok (.iadd, 1) := by decide +kernel
theorem dX12_isDotAt_43 : decode cX12_isDotAt 43 = .ok (.iaload, 1) := by decide +kernel
theorem dX12_isDotAt_44 : decode cX12_isDotAt 44 = .ok (.iload_n 2, 1) := by decide +kernel
theorem dX12_isDotAt_45 : decode cX12_isDotAt 45 = .ok (.if_icmp .ne 7, 3) := by decide +kernel
theorem dX12_isDotAt_48 : decode cX12_isDotAt 48 = .ok (.iconst 1, 1) := by decide +kernel
theorem dX12_isDotAt_49 : decode cX12_isDotAt 49 = .ok (.goto 4, 3) := by decide +kernel
theorem dX12_isDotAt_52 : decode cX12_isDotAt 52 = .ok (.iconst 0, 1) := by decide +kernel
theorem dX12_isDotAt_53 : decode cX12_isDotAt 53 = .ok (.istore_n 3, 1) := by decide +kernel
theorem dX12_isDotAt_54 : decode cX12_isDotAt 54 = .ok (.iinc 4 1, 3) := by decide +kernel
theorem dX12_isDotAt_57 : decode cX12_isDotAt 57 = .ok (.goto (-52), 3) := by decide +kernel
theorem dX12_isDotAt_60 : decode cX12_isDotAt 60 = .ok (.iload_n 3, 1) := by decide +kernel
theorem dX12_isDotAt_61 : decode cX12_isDotAt 61 = .ok (.ireturn, 1) := by decide +kernel
theorem dX12_dot_0 : decode cX12_dot 0 = .ok (.iload_n 1, 1) := by decide +kernel
theorem dX12_dot_1 : decode cX12_dot 1 = .ok (.iconst 0, 1) := by decide +kernel
theorem dX12_dot_2 : decode cX12_dot 2 = .ok (.bipush 6, 2) := by decide +kernel
theorem dX12_dot_4 : decode cX12_dot 4 = .ok (.invokestatic 56, 3) := by decide +kernel
theorem dX12_dot_7 : decode cX12_dot 7 = .ok (.ifCond .ne 5, 3) := by decide +kernel
theorem dX12_dot_10 : decode cX12_dot 10 = .ok (.iconst (-1), 1) := by decide +kernel
theorem dX12_dot_11 : decode cX12_dot 11 = .ok (.ireturn, 1) := by decide +kernel
theorem dX12_dot_12 : decode cX12_dot 12 = .ok (.iload_n 2, 1) := by decide +kernel
theorem dX12_dot_13 : decode cX12_dot 13 = .ok (.iconst 0, 1) := by decide +kernel
theorem dX12_dot_14 : decode cX12_dot 14 = .ok (.bipush 9, 2) := by decide +kernel
theorem dX12_dot_16 : decode cX12_dot 16 = .ok (.invokestatic 56, 3) := by decide +kernel
theorem dX12_dot_19 : decode cX12_dot 19 = .ok (.ifCond .eq 46, 3) := by decide +kernel
theorem dX12_dot_22 : decode cX12_dot 22 = .ok (.iload_n 3, 1) := by decide +kernel
theorem dX12_dot_23 : decode cX12_dot 23 = .ok (.iconst 1, 1) := by decide +kernel
theorem dX12_dot_24 : decode cX12_dot 24 = .ok (.bipush 9, 2) := by decide +kernel
theorem dX12_dot_26 : decode cX12_dot 26 = .ok (.invokestatic 56, 3) := by decide +kernel
theorem dX12_dot_29 : decode cX12_dot 29 = .ok (.ifCond .eq 36, 3) := by decide +kernel
theorem dX12_dot_32 : decode cX12_dot 32 = .ok (.iload 4, 2) := by decide +kernel
theorem dX12_dot_34 : decode cX12_dot 34 = .ok (.iconst 0, 1) := by decide +kernel
theorem dX12_dot_35 : decode cX12_dot 35 = .ok (.bipush 29, 2) := by decide +kernel
theorem dX12_dot_37 : decode cX12_dot 37 = .ok (.invokestatic 56, 3) := by decide +kernel
theorem dX12_dot_40 : decode cX12_dot 40 = .ok (.ifCond .eq 25, 3) := by decide +kernel
theorem dX12_dot_43 : decode cX12_dot 43 = .ok (.iload 5, 2) := by decide +kernel
theorem dX12_dot_45 : decode cX12_dot 45 = .ok (.iconst 0, 1) := by decide +kernel
theorem dX12_dot_46 : decode cX12_dot 46 = .ok (.bipush 11, 2) := by decide +kernel
theorem dX12_dot_48 : decode cX12_dot 48 = .ok (.invokestatic 56, 3) := by decide +kernel
theorem dX12_dot_51 : decode cX12_dot 51 = .ok (.ifCond .eq 14, 3) := by decide +kernel
theorem dX12_dot_54 : decode cX12_dot 54 = .ok (.aload_n 0, 1) := by decide +kernel
theorem dX12_dot_55 : decode cX12_dot 55 = .ok (.iload 4, 2) := by decide +kernel
theorem dX12_dot_57 : decode cX12_dot 57 = .ok (.iload 5, 2) := by decide +kernel
theorem dX12_dot_59 : decode cX12_dot 59 = .ok (.invokevirtual 183, 3) := by decide +kernel
theorem dX12_dot_62 : decode cX12_dot 62 = .ok (.ifCond .eq 6, 3) := by decide +kernel
theorem dX12_dot_65 : decode cX12_dot 65 = .ok (.bipush (-2), 2) := by decide +kernel
theorem dX12_dot_67 : decode cX12_dot 67 = .ok (.ireturn, 1) := by decide +kernel
theorem dX12_dot_68 : decode cX12_dot 68 = .ok (.aload_n 0, 1) := by decide +kernel
theorem dX12_dot_69 : decode cX12_dot 69 = .ok (.getfield 9, 3) := by decide +kernel
theorem dX12_dot_72 : decode cX12_dot 72 = .ok (.iconst 0, 1) := by decide +kernel
theorem dX12_dot_73 : decode cX12_dot 73 = .ok (.iaload, 1) := by decide +kernel
theorem dX12_dot_74 : decode cX12_dot 74 = .ok (.bipush 7, 2) := by decide +kernel
theorem dX12_dot_76 : decode cX12_dot 76 = .ok (.if_icmp .ne 6, 3) := by decide +kernel
theorem dX12_dot_79 : decode cX12_dot 79 = .ok (.bipush (-4), 2) := by decide +kernel
theorem dX12_dot_81 : decode cX12_dot 81 = .ok (.ireturn, 1) := by decide +kernel
theorem dX12_dot_82 : decode cX12_dot 82 = .ok (.aload_n 0, 1) := by decide +kernel
theorem dX12_dot_83 : decode cX12_dot 83 = .ok (.getfield 9, 3) := by decide +kernel
theorem dX12_dot_86 : decode cX12_dot 86 = .ok (.iconst 0, 1) := by decide +kernel
theorem dX12_dot_87 : decode cX12_dot 87 = .ok (.iaload, 1) := by decide +kernel
theorem dX12_dot_88 : decode cX12_dot 88 = .ok (.istore 6, 2) := by decide +kernel
theorem dX12_dot_90 : decode cX12_dot 90 = .ok (.aload_n 0, 1) := by decide +kernel
theorem dX12_dot_91 : decode cX12_dot 91 = .ok (.getfield 9, 3) := by decide +kernel
theorem dX12_dot_94 : decode cX12_dot 94 = .ok (.bipush 7, 2) := by decide +kernel
theorem dX12_dot_96 : decode cX12_dot 96 = .ok (.iload 6, 2) := by decide +kernel
theorem dX12_dot_98 : decode cX12_dot 98 = .ok (.iadd, 1) := by decide +kernel
theorem dX12_dot_99 : decode cX12_dot 99 = .ok (.iload_n 1, 1) := by decide +kernel
theorem dX12_dot_100 : decode cX12_dot 100 = .ok (.iastore, 1) := by decide +kernel
theorem dX12_dot_101 : decode cX12_dot 101 = .ok (.aload_n 0, 1) := by decide +kernel
theorem dX12_dot_102 : decode cX12_dot 102 = .ok (.getfield 9, 3) := by decide +kernel
theorem dX12_dot_105 : decode cX12_dot 105 = .ok (.bipush 14, 2) := by decide +kernel
theorem dX12_dot_107 : decode cX12_dot 107 = .ok (.iload 6, 2) := by decide +kernel
theorem dX12_dot_109 : decode cX12_dot 109 = .ok (.iadd, 1) := by decide +kernel
theorem dX12_dot_110 : decode cX12_dot 110 = .ok (.iload_n 2, 1) := by decide +kernel
theorem dX12_dot_111 : decode cX12_dot 111 = .ok (.iastore, 1) := by decide +kernel
theorem dX12_dot_112 : decode cX12_dot 112 = .ok (.aload_n 0, 1) := by decide +kernel
theorem dX12_dot_113 : decode cX12_dot 113 = .ok (.getfield 9, 3) := by decide +kernel
theorem dX12_dot_116 : decode cX12_dot 116 = .ok (.bipush 21, 2) := by decide +kernel
theorem dX12_dot_118 : decode cX12_dot 118 = .ok (.iload 6, 2) := by decide +kernel
theorem dX12_dot_120 : decode cX12_dot 120 = .ok (.iadd, 1) := by decide +kernel
theorem dX12_dot_121 : decode cX12_dot 121 = .ok (.iload_n 3, 1) := by decide +kernel
theorem dX12_dot_122 : decode cX12_dot 122 = .ok (.iastore, 1) := by decide +kernel
theorem dX12_dot_123 : decode cX12_dot 123 = .ok (.aload_n 0, 1) := by decide +kernel
theorem dX12_dot_124 : decode cX12_dot 124 = .ok (.getfield 9, 3) := by decide +kernel
theorem dX12_dot_127 : decode cX12_dot 127 = .ok (.bipush 28, 2) := by decide +kernel
theorem dX12_dot_129 : decode cX12_dot 129 = .ok (.iload 6, 2) := by decide +kernel
theorem dX12_dot_131 : decode cX12_dot 131 = .ok (.iadd, 1) := by decide +kernel
theorem dX12_dot_132 : decode cX12_dot 132 = .ok (.iload 4, 2) := by decide +kernel
theorem dX12_dot_134 : decode cX12_dot 134 = .ok (.iastore, 1) := by decide +kernel
theorem dX12_dot_135 : decode cX12_dot 135 = .ok (.aload_n 0, 1) := by decide +kernel
theorem dX12_dot_136 : decode cX12_dot 136 = .ok (.getfield 9, 3) := by decide +kernel
theorem dX12_dot_139 : decode cX12_dot 139 = .ok (.bipush 35, 2) := by decide +kernel
theorem dX12_dot_141 : decode cX12_dot 141 = .ok (.iload 6, 2) := by decide +kernel
theorem dX12_dot_143 : decode cX12_dot 143 = .ok (.iadd, 1) := by decide +kernel
theorem dX12_dot_144 : decode cX12_dot 144 = .ok (.iload 5, 2) := by decide +kernel
theorem dX12_dot_146 : decode cX12_dot 146 = .ok (.iastore, 1) := by decide +kernel
theorem dX12_dot_147 : decode cX12_dot 147 = .ok (.aload_n 0, 1) := by decide +kernel
theorem dX12_dot_148 : decode cX12_dot 148 = .ok (.getfield 9, 3) := by decide +kernel
theorem dX12_dot_151 : decode cX12_dot 151 = .ok (.bipush 42, 2) := by decide +kernel
theorem dX12_dot_153 : decode cX12_dot 153 = .ok (.iload 6, 2) := by decide +kernel
theorem dX12_dot_155 : decode cX12_dot 155 = .ok (.iadd, 1) := by decide +kernel
theorem dX12_dot_156 : decode cX12_dot 156 = .ok (.iconst 4, 1) := by decide +kernel
theorem dX12_dot_157 : decode cX12_dot 157 = .ok (.iastore, 1) := by decide +kernel
theorem dX12_dot_158 : decode cX12_dot 158 = .ok (.iconst 0, 1) := by decide +kernel
theorem dX12_dot_159 : decode cX12_dot 159 = .ok (.istore 7, 2) := by decide +kernel
theorem dX12_dot_161 : decode cX12_dot 161 = .ok (.iload 7, 2) := by decide +kernel
theorem dX12_dot_163 : decode cX12_dot 163 = .ok (.iconst 4, 1) := by decide +kernel
theorem dX12_dot_164 : decode cX12_dot 164 = .ok (.if_icmp .ge 25, 3) := by decide +kernel
theorem dX12_dot_167 : decode cX12_dot 167 = .ok (.aload_n 0, 1) := by decide +kernel
theorem dX12_dot_168 : decode cX12_dot 168 = .ok (.getfield 9, 3) := by decide +kernel
theorem dX12_dot_171 : decode cX12_dot 171 = .ok (.bipush 49, 2) := by decide +kernel
theorem dX12_dot_173 : decode cX12_dot 173 = .ok (.iconst 4, 1) := by decide +kernel
theorem dX12_dot_174 : decode cX12_dot 174 = .ok (.iload 6, 2) := by decide +kernel
theorem dX12_dot_176 : decode cX12_dot 176 = .ok (.imul, 1) := by decide +kernel
theorem dX12_dot_177 : decode cX12_dot 177 = .ok (.iadd, 1) := by decide +kernel
theorem dX12_dot_178 : decode cX12_dot 178 = .ok (.iload 7, 2) := by decide +kernel
theorem dX12_dot_180 : decode cX12_dot 180 = .ok (.iadd, 1) := by decide +kernel
theorem dX12_dot_181 : decode cX12_dot 181 = .ok (.iconst 0, 1) := by decide +kernel
theorem dX12_dot_182 : decode cX12_dot 182 = .ok (.iastore, 1) := by decide +kernel
theorem dX12_dot_183 : decode cX12_dot 183 = .ok (.iinc 7 1, 3) := by decide +kernel
theorem dX12_dot_186 : decode cX12_dot 186 = .ok (.goto (-25), 3) := by decide +kernel
theorem dX12_dot_189 : decode cX12_dot 189 = .ok (.aload_n 0, 1) := by decide +kernel
theorem dX12_dot_190 : decode cX12_dot 190 = .ok (.getfield 9, 3) := by decide +kernel
theorem dX12_dot_193 : decode cX12_dot 193 = .ok (.iconst 0, 1) := by decide +kernel
theorem dX12_dot_194 : decode cX12_dot 194 = .ok (.dup2, 1) := by decide +kernel
theorem dX12_dot_195 : decode cX12_dot 195 = .ok (.iaload, 1) := by decide +kernel
theorem dX12_dot_196 : decode cX12_dot 196 = .ok (.iconst 1, 1) := by decide +kernel
theorem dX12_dot_197 : decode cX12_dot 197 = .ok (.iadd, 1) := by decide +kernel
theorem dX12_dot_198 : decode cX12_dot 198 = .ok (.iastore, 1) := by decide +kernel
theorem dX12_dot_199 : decode cX12_dot 199 = .ok (.iload 6, 2) := by decide +kernel
theorem dX12_dot_201 : decode cX12_dot 201 = .ok (.ireturn, 1) := by decide +kernel
theorem dX12_placesOf_0 : decode cX12_placesOf 0 = .ok (.iconst 0, 1) := by decide +kernel
theorem dX12_placesOf_1 : decode cX12_placesOf 1 = .ok (.istore_n 3, 1) := by decide +kernel
theorem dX12_placesOf_2 : decode cX12_placesOf 2 = .ok (.iconst 0, 1) := by decide +kernel
theorem dX12_placesOf_3 : decode cX12_placesOf 3 = .ok (.istore 4, 2) := by decide +kernel
theorem dX12_placesOf_5 : decode cX12_placesOf 5 = .ok (.iload 4, 2) := by decide +kernel
theorem dX12_placesOf_7 : decode cX12_placesOf 7 = .ok (.iconst 4, 1) := by decide +kernel
theorem dX12_placesOf_8 : decode cX12_placesOf 8 = .ok (.if_icmp .ge 70, 3) := by decide +kernel
theorem dX12_placesOf_11 : decode cX12_placesOf 11 = .ok (.iload_n 2, 1) := by decide +kernel
theorem dX12_placesOf_12 : decode cX12_placesOf 12 = .ok (.bipush 7, 2) := by decide +kernel
theorem dX12_placesOf_14 : decode cX12_placesOf 14 = .ok (.if_icmp .ne 13, 3) := by decide +kernel
theorem dX12_placesOf_17 : decode cX12_placesOf 17 = .ok (.aload_n 0, 1) := by decide +kernel
theorem dX12_placesOf_18 : decode cX12_placesOf 18 = .ok (.iload_n 1, 1) := by decide +kernel
theorem dX12_placesOf_19 : decode cX12_placesOf 19 = .ok (.iload 4, 2) := by decide +kernel
theorem dX12_placesOf_21 : decode cX12_placesOf 21 = .ok (.invokevirtual 160, 3) := by decide +kernel
theorem dX12_placesOf_24 : decode cX12_placesOf 24 = .ok (.goto 30, 3) := by decide +kernel
theorem dX12_placesOf_27 : decode cX12_placesOf 27 = .ok (.iload_n 2, 1) := by decide +kernel
theorem dX12_placesOf_28 : decode cX12_placesOf 28 = .ok (.bipush 8, 2) := by decide +kernel
theorem dX12_placesOf_30 : decode cX12_placesOf 30 = .ok (.if_icmp .ne 17, 3) := by decide +kernel
theorem dX12_placesOf_33 : decode cX12_placesOf 33 = .ok (.aload_n 0, 1) := by decide +kernel
theorem dX12_placesOf_34 : decode cX12_placesOf 34 = .ok (.iload_n 1, 1) := by decide +kernel
theorem dX12_placesOf_35 : decode cX12_placesOf 35 = .ok (.iload 4, 2) := by decide +kernel
theorem dX12_placesOf_37 : decode cX12_placesOf 37 = .ok (.aload_n 0, 1) := by decide +kernel
theorem dX12_placesOf_38 : decode cX12_placesOf 38 = .ok (.invokevirtual 164, 3) := by decide +kernel
theorem dX12_placesOf_41 : decode cX12_placesOf 41 = .ok (.invokevirtual 167, 3) := by decide +kernel
theorem dX12_placesOf_44 : decode cX12_placesOf 44 = .ok (.goto 10, 3) := by decide +kernel
theorem dX12_placesOf_47 : decode cX12_placesOf 47 = .ok (.aload_n 0, 1) := by decide +kernel
theorem dX12_placesOf_48 : decode cX12_placesOf 48 = .ok (.iload_n 1, 1) := by decide +kernel
theorem dX12_placesOf_49 : decode cX12_placesOf 49 = .ok (.iload 4, 2) := by decide +kernel
theorem dX12_placesOf_51 : decode cX12_placesOf 51 = .ok (.invokevirtual 186, 3) := by decide +kernel
theorem dX12_placesOf_54 : decode cX12_placesOf 54 = .ok (.istore 5, 2) := by decide +kernel
theorem dX12_placesOf_56 : decode cX12_placesOf 56 = .ok (.iload_n 3, 1) := by decide +kernel
theorem dX12_placesOf_57 : decode cX12_placesOf 57 = .ok (.iload 5, 2) := by decide +kernel
theorem dX12_placesOf_59 : decode cX12_placesOf 59 = .ok (.ifCond .eq 10, 3) := by decide +kernel
theorem dX12_placesOf_62 : decode cX12_placesOf 62 = .ok (.iconst 1, 1) := by decide +kernel
theorem dX12_placesOf_63 : decode cX12_placesOf 63 = .ok (.iload 4, 2) := by decide +kernel
theorem dX12_placesOf_65 : decode cX12_placesOf 65 = .ok (.ishl, 1) := by decide +kernel
theorem dX12_placesOf_66 : decode cX12_placesOf 66 = .ok (.goto 4, 3) := by decide +kernel
theorem dX12_placesOf_69 : decode cX12_placesOf 69 = .ok (.iconst 0, 1) := by decide +kernel
theorem dX12_placesOf_70 : decode cX12_placesOf 70 = .ok (.ior, 1) := by decide +kernel
theorem dX12_placesOf_71 : decode cX12_placesOf 71 = .ok (.istore_n 3, 1) := by decide +kernel
theorem dX12_placesOf_72 : decode cX12_placesOf 72 = .ok (.iinc 4 1, 3) := by decide +kernel
theorem dX12_placesOf_75 : decode cX12_placesOf 75 = .ok (.goto (-70), 3) := by decide +kernel
theorem dX12_placesOf_78 : decode cX12_placesOf 78 = .ok (.iload_n 3, 1) := by decide +kernel
theorem dX12_placesOf_79 : decode cX12_placesOf 79 = .ok (.ireturn, 1) := by decide +kernel
theorem dX12_of_0 : decode cX12_of 0 = .ok (.aload_n 0, 1) := by decide +kernel
theorem dX12_of_1 : decode cX12_of 1 = .ok (.iload_n 1, 1) := by decide +kernel
theorem dX12_of_2 : decode cX12_of 2 = .ok (.invokevirtual 189, 3) := by decide +kernel
theorem dX12_of_5 : decode cX12_of 5 = .ok (.ifCond .eq 13, 3) := by decide +kernel
theorem dX12_of_8 : decode cX12_of 8 = .ok (.iload_n 2, 1) := by decide +kernel
theorem dX12_of_9 : decode cX12_of 9 = .ok (.iconst 0, 1) := by decide +kernel
theorem dX12_of_10 : decode cX12_of 10 = .ok (.bipush 9, 2) := by decide +kernel
theorem dX12_of_12 : decode cX12_of 12 = .ok (.invokestatic 56, 3) := by decide +kernel
theorem dX12_of_15 : decode cX12_of 15 = .ok (.ifCond .ne 5, 3) := by decide +kernel
theorem dX12_of_18 : decode cX12_of 18 = .ok (.iconst (-1), 1) := by decide +kernel
theorem dX12_of_19 : decode cX12_of 19 = .ok (.ireturn, 1) := by decide +kernel
theorem dX12_of_20 : decode cX12_of 20 = .ok (.iload_n 2, 1) := by decide +kernel
theorem dX12_of_21 : decode cX12_of 21 = .ok (.iconst 5, 1) := by decide +kernel
theorem dX12_of_22 : decode cX12_of 22 = .ok (.if_icmp .ge 20, 3) := by decide +kernel
theorem dX12_of_25 : decode cX12_of 25 = .ok (.aload_n 0, 1) := by decide +kernel
theorem dX12_of_26 : decode cX12_of 26 = .ok (.getfield 9, 3) := by decide +kernel
theorem dX12_of_29 : decode cX12_of 29 = .ok (.bipush 7, 2) := by decide +kernel
theorem dX12_of_31 : decode cX12_of 31 = .ok (.bipush 7, 2) := by decide +kernel
theorem dX12_of_33 : decode cX12_of 33 = .ok (.iload_n 2, 1) := by decide +kernel
theorem dX12_of_34 : decode cX12_of 34 = .ok (.imul, 1) := by decide +kernel
theorem dX12_of_35 : decode cX12_of 35 = .ok (.iadd, 1) := by decide +kernel
theorem dX12_of_36 : decode cX12_of 36 = .ok (.iload_n 1, 1) := by decide +kernel
theorem dX12_of_37 : decode cX12_of 37 = .ok (.iadd, 1) := by decide +kernel
theorem dX12_of_38 : decode cX12_of 38 = .ok (.iaload, 1) := by decide +kernel
theorem dX12_of_39 : decode cX12_of 39 = .ok (.goto 43, 3) := by decide +kernel
theorem dX12_of_42 : decode cX12_of 42 = .ok (.iload_n 2, 1) := by decide +kernel
theorem dX12_of_43 : decode cX12_of 43 = .ok (.iconst 5, 1) := by decide +kernel
theorem dX12_of_44 : decode cX12_of 44 = .ok (.if_icmp .ne 11, 3) := by decide +kernel
theorem dX12_of_47 : decode cX12_of 47 = .ok (.aload_n 0, 1) := by decide +kernel
theorem dX12_of_48 : decode cX12_of 48 = .ok (.iload_n 1, 1) := by decide +kernel
theorem dX12_of_49 : decode cX12_of 49 = .ok (.invokevirtual 146, 3) := by decide +kernel
theorem dX12_of_52 : decode cX12_of 52 = .ok (.goto 30, 3) := by decide +kernel
theorem dX12_of_55 : decode cX12_of 55 = .ok (.iload_n 2, 1) := by decide +kernel
theorem dX12_of_56 : decode cX12_of 56 = .ok (.bipush 6, 2) := by decide +kernel
theorem dX12_of_58 : decode cX12_of 58 = .ok (.if_icmp .ne 18, 3) := by decide +kernel
theorem dX12_of_61 : decode cX12_of 61 = .ok (.aload_n 0, 1) := by decide +kernel
theorem dX12_of_62 : decode cX12_of 62 = .ok (.getfield 9, 3) := by decide +kernel
theorem dX12_of_65 : decode cX12_of 65 = .ok (.bipush 42, 2) := by decide +kernel
theorem dX12_of_67 : decode cX12_of 67 = .ok (.iload_n 1, 1) := by decide +kernel
theorem dX12_of_68 : decode cX12_of 68 = .ok (.iadd, 1) := by decide +kernel
theorem dX12_of_69 : decode cX12_of 69 = .ok (.iaload, 1) := by decide +kernel
theorem dX12_of_70 : decode cX12_of 70 = .ok (.invokestatic 193, 3) := by decide +kernel
theorem dX12_of_73 : decode cX12_of 73 = .ok (.goto 9, 3) := by decide +kernel
theorem dX12_of_76 : decode cX12_of 76 = .ok (.aload_n 0, 1) := by decide +kernel
theorem dX12_of_77 : decode cX12_of 77 = .ok (.iload_n 1, 1) := by decide +kernel
theorem dX12_of_78 : decode cX12_of 78 = .ok (.iload_n 2, 1) := by decide +kernel
theorem dX12_of_79 : decode cX12_of 79 = .ok (.invokevirtual 196, 3) := by decide +kernel
theorem dX12_of_82 : decode cX12_of 82 = .ok (.ireturn, 1) := by decide +kernel
theorem dX12_row_0 : decode cX12_row 0 = .ok (.aload_n 0, 1) := by decide +kernel
theorem dX12_row_1 : decode cX12_row 1 = .ok (.iload_n 1, 1) := by decide +kernel
theorem dX12_row_2 : decode cX12_row 2 = .ok (.invokevirtual 189, 3) := by decide +kernel
theorem dX12_row_5 : decode cX12_row 5 = .ok (.ifCond .eq 10, 3) := by decide +kernel
theorem dX12_row_8 : decode cX12_row 8 = .ok (.iload_n 2, 1) := by decide +kernel
theorem dX12_row_9 : decode cX12_row 9 = .ok (.invokestatic 199, 3) := by decide +kernel
theorem dX12_row_12 : decode cX12_row 12 = .ok (.ifCond .ne 5, 3) := by decide +kernel
theorem dX12_row_15 : decode cX12_row 15 = .ok (.iconst (-1), 1) := by decide +kernel
theorem dX12_row_16 : decode cX12_row 16 = .ok (.ireturn, 1) := by decide +kernel
theorem dX12_row_17 : decode cX12_row 17 = .ok (.iload_n 3, 1) := by decide +kernel
theorem dX12_row_18 : decode cX12_row 18 = .ok (.iconst 0, 1) := by decide +kernel
theorem dX12_row_19 : decode cX12_row 19 = .ok (.bipush 9, 2) := by decide +kernel
theorem dX12_row_21 : decode cX12_row 21 = .ok (.invokestatic 56, 3) := by decide +kernel
theorem dX12_row_24 : decode cX12_row 24 = .ok (.ifCond .ne 6, 3) := by decide +kernel
theorem dX12_row_27 : decode cX12_row 27 = .ok (.bipush (-2), 2) := by decide +kernel
theorem dX12_row_29 : decode cX12_row 29 = .ok (.ireturn, 1) := by decide +kernel
theorem dX12_row_30 : decode cX12_row 30 = .ok (.aload_n 0, 1) := by decide +kernel
theorem dX12_row_31 : decode cX12_row 31 = .ok (.getfield 9, 3) := by decide +kernel
theorem dX12_row_34 : decode cX12_row 34 = .ok (.bipush 7, 2) := by decide +kernel
theorem dX12_row_36 : decode cX12_row 36 = .ok (.iload_n 1, 1) := by decide +kernel
theorem dX12_row_37 : decode cX12_row 37 = .ok (.iadd, 1) := by decide +kernel
theorem dX12_row_38 : decode cX12_row 38 = .ok (.iaload, 1) := by decide +kernel
theorem dX12_row_39 : decode cX12_row 39 = .ok (.bipush 6, 2) := by decide +kernel
theorem dX12_row_41 : decode cX12_row 41 = .ok (.if_icmp .eq 6, 3) := by decide +kernel
theorem dX12_row_44 : decode cX12_row 44 = .ok (.bipush (-3), 2) := by decide +kernel
theorem dX12_row_46 : decode cX12_row 46 = .ok (.ireturn, 1) := by decide +kernel
theorem dX12_row_47 : decode cX12_row 47 = .ok (.aload_n 0, 1) := by decide +kernel
theorem dX12_row_48 : decode cX12_row 48 = .ok (.getfield 9, 3) := by decide +kernel
theorem dX12_row_51 : decode cX12_row 51 = .ok (.bipush 49, 2) := by decide +kernel
theorem dX12_row_53 : decode cX12_row 53 = .ok (.iconst 4, 1) := by decide +kernel
theorem dX12_row_54 : decode cX12_row 54 = .ok (.iload_n 1, 1) := by decide +kernel
theorem dX12_row_55 : decode cX12_row 55 = .ok (.imul, 1) := by decide +kernel
theorem dX12_row_56 : decode cX12_row 56 = .ok (.iadd, 1) := by decide +kernel
theorem dX12_row_57 : decode cX12_row 57 = .ok (.iload_n 2, 1) := by decide +kernel
theorem dX12_row_58 : decode cX12_row 58 = .ok (.iadd, 1) := by decide +kernel
theorem dX12_row_59 : decode cX12_row 59 = .ok (.iaload, 1) := by decide +kernel
theorem dX12_row_60 : decode cX12_row 60 = .ok (.istore 4, 2) := by decide +kernel
theorem dX12_row_62 : decode cX12_row 62 = .ok (.aload_n 0, 1) := by decide +kernel
theorem dX12_row_63 : decode cX12_row 63 = .ok (.getfield 9, 3) := by decide +kernel
theorem dX12_row_66 : decode cX12_row 66 = .ok (.bipush 49, 2) := by decide +kernel
theorem dX12_row_68 : decode cX12_row 68 = .ok (.iconst 4, 1) := by decide +kernel
theorem dX12_row_69 : decode cX12_row 69 = .ok (.iload_n 1, 1) := by decide +kernel
theorem dX12_row_70 : decode cX12_row 70 = .ok (.imul, 1) := by decide +kernel
theorem dX12_row_71 : decode cX12_row 71 = .ok (.iadd, 1) := by decide +kernel
theorem dX12_row_72 : decode cX12_row 72 = .ok (.iload_n 2, 1) := by decide +kernel
theorem dX12_row_73 : decode cX12_row 73 = .ok (.iadd, 1) := by decide +kernel
theorem dX12_row_74 : decode cX12_row 74 = .ok (.iload_n 3, 1) := by decide +kernel
theorem dX12_row_75 : decode cX12_row 75 = .ok (.iastore, 1) := by decide +kernel
theorem dX12_row_76 : decode cX12_row 76 = .ok (.iload 4, 2) := by decide +kernel
theorem dX12_row_78 : decode cX12_row 78 = .ok (.ireturn, 1) := by decide +kernel
theorem dX12_good_0 : decode cX12_good 0 = .ok (.aload_n 0, 1) := by decide +kernel
theorem dX12_good_1 : decode cX12_good 1 = .ok (.iload_n 1, 1) := by decide +kernel
theorem dX12_good_2 : decode cX12_good 2 = .ok (.invokevirtual 189, 3) := by decide +kernel
theorem dX12_good_5 : decode cX12_good 5 = .ok (.ifCond .eq 19, 3) := by decide +kernel
theorem dX12_good_8 : decode cX12_good 8 = .ok (.iload_n 2, 1) := by decide +kernel
theorem dX12_good_9 : decode cX12_good 9 = .ok (.invokestatic 199, 3) := by decide +kernel
theorem dX12_good_12 : decode cX12_good 12 = .ok (.ifCond .eq 12, 3) := by decide +kernel
theorem dX12_good_15 : decode cX12_good 15 = .ok (.aload_n 0, 1) := by decide +kernel
theorem dX12_good_16 : decode cX12_good 16 = .ok (.iload_n 1, 1) := by decide +kernel
theorem dX12_good_17 : decode cX12_good 17 = .ok (.iload_n 2, 1) := by decide +kernel
theorem dX12_good_18 : decode cX12_good 18 = .ok (.invokevirtual 180, 3) := by decide +kernel
theorem dX12_good_21 : decode cX12_good 21 = .ok (.goto 6, 3) := by decide +kernel
theorem dX12_good_24 : decode cX12_good 24 = .ok (.sipush (-10001), 3) := by decide +kernel
theorem dX12_good_27 : decode cX12_good 27 = .ok (.ireturn, 1) := by decide +kernel
theorem dX12_lay_0 : decode cX12_lay 0 = .ok (.aload_n 0, 1) := by decide +kernel
theorem dX12_lay_1 : decode cX12_lay 1 = .ok (.iload_n 1, 1) := by decide +kernel
theorem dX12_lay_2 : decode cX12_lay 2 = .ok (.invokevirtual 189, 3) := by decide +kernel
theorem dX12_lay_5 : decode cX12_lay 5 = .ok (.ifCond .eq 10, 3) := by decide +kernel
theorem dX12_lay_8 : decode cX12_lay 8 = .ok (.iload_n 2, 1) := by decide +kernel
theorem dX12_lay_9 : decode cX12_lay 9 = .ok (.invokestatic 199, 3) := by decide +kernel
theorem dX12_lay_12 : decode cX12_lay 12 = .ok (.ifCond .ne 5, 3) := by decide +kernel
theorem dX12_lay_15 : decode cX12_lay 15 = .ok (.iconst (-1), 1) := by decide +kernel
theorem dX12_lay_16 : decode cX12_lay 16 = .ok (.ireturn, 1) := by decide +kernel
theorem dX12_lay_17 : decode cX12_lay 17 = .ok (.aload_n 0, 1) := by decide +kernel
theorem dX12_lay_18 : decode cX12_lay 18 = .ok (.iload_n 1, 1) := by decide +kernel
theorem dX12_lay_19 : decode cX12_lay 19 = .ok (.iload_n 2, 1) := by decide +kernel
theorem dX12_lay_20 : decode cX12_lay 20 = .ok (.invokevirtual 186, 3) := by decide +kernel
theorem dX12_lay_23 : decode cX12_lay 23 = .ok (.ifCond .ne 6, 3) := by decide +kernel
theorem dX12_lay_26 : decode cX12_lay 26 = .ok (.bipush (-3), 2) := by decide +kernel
theorem dX12_lay_28 : decode cX12_lay 28 = .ok (.ireturn, 1) := by decide +kernel
theorem dX12_lay_29 : decode cX12_lay 29 = .ok (.aload_n 0, 1) := by decide +kernel
theorem dX12_lay_30 : decode cX12_lay 30 = .ok (.getfield 9, 3) := by decide +kernel
theorem dX12_lay_33 : decode cX12_lay 33 = .ok (.bipush 42, 2) := by decide +kernel
theorem dX12_lay_35 : decode cX12_lay 35 = .ok (.iload_n 1, 1) := by decide +kernel
theorem dX12_lay_36 : decode cX12_lay 36 = .ok (.iadd, 1) := by decide +kernel
theorem dX12_lay_37 : decode cX12_lay 37 = .ok (.iaload, 1) := by decide +kernel
theorem dX12_lay_38 : decode cX12_lay 38 = .ok (.invokestatic 193, 3) := by decide +kernel
theorem dX12_lay_41 : decode cX12_lay 41 = .ok (.istore_n 3, 1) := by decide +kernel
theorem dX12_lay_42 : decode cX12_lay 42 = .ok (.aload_n 0, 1) := by decide +kernel
theorem dX12_lay_43 : decode cX12_lay 43 = .ok (.getfield 9, 3) := by decide +kernel
theorem dX12_lay_46 : decode cX12_lay 46 = .ok (.bipush 42, 2) := by decide +kernel
theorem dX12_lay_48 : decode cX12_lay 48 = .ok (.iload_n 1, 1) := by decide +kernel
theorem dX12_lay_49 : decode cX12_lay 49 = .ok (.iadd, 1) := by decide +kernel
theorem dX12_lay_50 : decode cX12_lay 50 = .ok (.iload_n 2, 1) := by decide +kernel
theorem dX12_lay_51 : decode cX12_lay 51 = .ok (.iastore, 1) := by decide +kernel
theorem dX12_lay_52 : decode cX12_lay 52 = .ok (.iload_n 3, 1) := by decide +kernel
theorem dX12_lay_53 : decode cX12_lay 53 = .ok (.ireturn, 1) := by decide +kernel
theorem dX12_lift_0 : decode cX12_lift 0 = .ok (.aload_n 0, 1) := by decide +kernel
theorem dX12_lift_1 : decode cX12_lift 1 = .ok (.iload_n 1, 1) := by decide +kernel
theorem dX12_lift_2 : decode cX12_lift 2 = .ok (.invokevirtual 189, 3) := by decide +kernel
theorem dX12_lift_5 : decode cX12_lift 5 = .ok (.ifCond .ne 5, 3) := by decide +kernel
theorem dX12_lift_8 : decode cX12_lift 8 = .ok (.iconst (-1), 1) := by decide +kernel
theorem dX12_lift_9 : decode cX12_lift 9 = .ok (.ireturn, 1) := by decide +kernel
theorem dX12_lift_10 : decode cX12_lift 10 = .ok (.aload_n 0, 1) := by decide +kernel
theorem dX12_lift_11 : decode cX12_lift 11 = .ok (.getfield 9, 3) := by decide +kernel
theorem dX12_lift_14 : decode cX12_lift 14 = .ok (.bipush 42, 2) := by decide +kernel
theorem dX12_lift_16 : decode cX12_lift 16 = .ok (.iload_n 1, 1) := by decide +kernel
theorem dX12_lift_17 : decode cX12_lift 17 = .ok (.iadd, 1) := by decide +kernel
theorem dX12_lift_18 : decode cX12_lift 18 = .ok (.iaload, 1) := by decide +kernel
theorem dX12_lift_19 : decode cX12_lift 19 = .ok (.invokestatic 193, 3) := by decide +kernel
theorem dX12_lift_22 : decode cX12_lift 22 = .ok (.istore_n 2, 1) := by decide +kernel
theorem dX12_lift_23 : decode cX12_lift 23 = .ok (.aload_n 0, 1) := by decide +kernel
theorem dX12_lift_24 : decode cX12_lift 24 = .ok (.getfield 9, 3) := by decide +kernel
theorem dX12_lift_27 : decode cX12_lift 27 = .ok (.bipush 42, 2) := by decide +kernel
theorem dX12_lift_29 : decode cX12_lift 29 = .ok (.iload_n 1, 1) := by decide +kernel
theorem dX12_lift_30 : decode cX12_lift 30 = .ok (.iadd, 1) := by decide +kernel
theorem dX12_lift_31 : decode cX12_lift 31 = .ok (.iconst 4, 1) := by decide +kernel
theorem dX12_lift_32 : decode cX12_lift 32 = .ok (.iastore, 1) := by decide +kernel
theorem dX12_lift_33 : decode cX12_lift 33 = .ok (.iload_n 2, 1) := by decide +kernel
theorem dX12_lift_34 : decode cX12_lift 34 = .ok (.ireturn, 1) := by decide +kernel
theorem dX12_farFrom_0 : decode cX12_farFrom 0 = .ok (.aload_n 0, 1) := by decide +kernel
theorem dX12_farFrom_1 : decode cX12_farFrom 1 = .ok (.getfield 9, 3) := by decide +kernel
theorem dX12_farFrom_4 : decode cX12_farFrom 4 = .ok (.bipush 42, 2) := by decide +kernel
theorem dX12_farFrom_6 : decode cX12_farFrom 6 = .ok (.iload_n 1, 1) := by decide +kernel
theorem dX12_farFrom_7 : decode cX12_farFrom 7 = .ok (.iadd, 1) := by decide +kernel
theorem dX12_farFrom_8 : decode cX12_farFrom 8 = .ok (.iaload, 1) := by decide +kernel
theorem dX12_farFrom_9 : decode cX12_farFrom 9 = .ok (.istore_n 3, 1) := by decide +kernel
theorem dX12_farFrom_10 : decode cX12_farFrom 10 = .ok (.aload_n 0, 1) := by decide +kernel
theorem dX12_farFrom_11 : decode cX12_farFrom 11 = .ok (.iload_n 1, 1) := by decide +kernel
theorem dX12_farFrom_12 : decode cX12_farFrom 12 = .ok (.iload_n 3, 1) := by decide +kernel
theorem dX12_farFrom_13 : decode cX12_farFrom 13 = .ok (.invokevirtual 150, 3) := by decide +kernel
theorem dX12_farFrom_16 : decode cX12_farFrom 16 = .ok (.aload_n 0, 1) := by decide +kernel
theorem dX12_farFrom_17 : decode cX12_farFrom 17 = .ok (.iload_n 1, 1) := by decide +kernel
theorem dX12_farFrom_18 : decode cX12_farFrom 18 = .ok (.invokevirtual 146, 3) := by decide +kernel
theorem dX12_farFrom_21 : decode cX12_farFrom 21 = .ok (.iconst 2, 1) := by decide +kernel
theorem dX12_farFrom_22 : decode cX12_farFrom 22 = .ok (.idiv, 1) := by decide +kernel
theorem dX12_farFrom_23 : decode cX12_farFrom 23 = .ok (.iadd, 1) := by decide +kernel
theorem dX12_farFrom_24 : decode cX12_farFrom 24 = .ok (.aload_n 0, 1) := by decide +kernel
theorem dX12_farFrom_25 : decode cX12_farFrom 25 = .ok (.getfield 9, 3) := by decide +kernel
theorem dX12_farFrom_28 : decode cX12_farFrom 28 = .ok (.bipush 28, 2) := by decide +kernel
theorem dX12_farFrom_30 : decode cX12_farFrom 30 = .ok (.iload_n 2, 1) := by decide +kernel
theorem dX12_farFrom_31 : decode cX12_farFrom 31 = .ok (.iadd, 1) := by decide +kernel
theorem dX12_farFrom_32 : decode cX12_farFrom 32 = .ok (.iaload, 1) := by decide +kernel
theorem dX12_farFrom_33 : decode cX12_farFrom 33 = .ok (.invokestatic 202, 3) := by decide +kernel
theorem dX12_farFrom_36 : decode cX12_farFrom 36 = .ok (.aload_n 0, 1) := by decide +kernel
theorem dX12_farFrom_37 : decode cX12_farFrom 37 = .ok (.iload_n 1, 1) := by decide +kernel
theorem dX12_farFrom_38 : decode cX12_farFrom 38 = .ok (.iload_n 3, 1) := by decide +kernel
theorem dX12_farFrom_39 : decode cX12_farFrom 39 = .ok (.invokevirtual 153, 3) := by decide +kernel
theorem dX12_farFrom_42 : decode cX12_farFrom 42 = .ok (.aload_n 0, 1) := by decide +kernel
theorem dX12_farFrom_43 : decode cX12_farFrom 43 = .ok (.getfield 9, 3) := by decide +kernel
theorem dX12_farFrom_46 : decode cX12_farFrom 46 = .ok (.bipush 35, 2) := by decide +kernel
theorem dX12_farFrom_48 : decode cX12_farFrom 48 = .ok (.iload_n 2, 1) := by decide +kernel
theorem dX12_farFrom_49 : decode cX12_farFrom 49 = .ok (.iadd, 1) := by decide +kernel
theorem dX12_farFrom_50 : decode cX12_farFrom 50 = .ok (.iaload, 1) := by decide +kernel
theorem dX12_farFrom_51 : decode cX12_farFrom 51 = .ok (.invokestatic 202, 3) := by decide +kernel
theorem dX12_farFrom_54 : decode cX12_farFrom 54 = .ok (.iadd, 1) := by decide +kernel
theorem dX12_farFrom_55 : decode cX12_farFrom 55 = .ok (.ireturn, 1) := by decide +kernel
theorem dX12_isMistaken_0 : decode cX12_isMistaken 0 = .ok (.iconst 0, 1) := by decide +kernel
theorem dX12_isMistaken_1 : decode cX12_isMistaken 1 = .ok (.istore_n 2, 1) := by decide +kernel
theorem dX12_isMistaken_2 : decode cX12_isMistaken 2 = .ok (.iconst 0, 1) := by decide +kernel
theorem dX12_isMistaken_3 : decode cX12_isMistaken 3 = .ok (.istore_n 3, 1) := by decide +kernel
theorem dX12_isMistaken_4 : decode cX12_isMistaken 4 = .ok (.iload_n 3, 1) := by decide +kernel
theorem dX12_isMistaken_5 : decode cX12_isMistaken 5 = .ok (.aload_n 0, 1) := by decide +kernel
theorem dX12_isMistaken_6 : decode cX12_isMistaken 6 = .ok (.getfield 9, 3) := by decide +kernel
theorem dX12_isMistaken_9 : decode cX12_isMistaken 9 = .ok (.iconst 0, 1) := by decide +kernel
theorem dX12_isMistaken_10 : decode cX12_isMistaken 10 = .ok (.iaload, 1) := by decide +kernel
theorem dX12_isMistaken_11 : decode cX12_isMistaken 11 = .ok (.if_icmp .ge 47, 3) := by decide +kernel
theorem dX12_isMistaken_14 : decode cX12_isMistaken 14 = .ok (.iload_n 2, 1) := by decide +kernel
theorem dX12_isMistaken_15 : decode cX12_isMistaken 15 = .ok (.ifCond .ne 31, 3) := by decide +kernel
theorem dX12_isMistaken_18 : decode cX12_isMistaken 18 = .ok (.aload_n 0, 1) := by decide +kernel
theorem dX12_isMistaken_19 : decode cX12_isMistaken 19 = .ok (.getfield 9, 3) := by decide +kernel
theorem dX12_isMistaken_22 : decode cX12_isMistaken 22 = .ok (.bipush 42, 2) := by decide +kernel
theorem dX12_isMistaken_24 : decode cX12_isMistaken 24 = .ok (.iload_n 1, 1) := by decide +kernel
theorem dX12_isMistaken_25 : decode cX12_isMistaken 25 = .ok (.iadd, 1) := by decide +kernel
theorem dX12_isMistaken_26 : decode cX12_isMistaken 26 = .ok (.iaload, 1) := by decide +kernel
theorem dX12_isMistaken_27 : decode cX12_isMistaken 27 = .ok (.iconst 4, 1) := by decide +kernel
theorem dX12_isMistaken_28 : decode cX12_isMistaken 28 = .ok (.if_icmp .eq 22, 3) := by decide +kernel
theorem dX12_isMistaken_31 : decode cX12_isMistaken 31 = .ok (.aload_n 0, 1) := by decide +kernel
theorem dX12_isMistaken_32 : decode cX12_isMistaken 32 = .ok (.iload_n 1, 1) := by decide +kernel
theorem dX12_isMistaken_33 : decode cX12_isMistaken 33 = .ok (.iload_n 3, 1) := by decide +kernel
theorem dX12_isMistaken_34 : decode cX12_isMistaken 34 = .ok (.invokevirtual 205, 3) := by decide +kernel
theorem dX12_isMistaken_37 : decode cX12_isMistaken 37 = .ok (.aload_n 0, 1) := by decide +kernel
theorem dX12_isMistaken_38 : decode cX12_isMistaken 38 = .ok (.iload_n 1, 1) := by decide +kernel
theorem dX12_isMistaken_39 : decode cX12_isMistaken 39 = .ok (.iload_n 1, 1) := by decide +kernel
theorem dX12_isMistaken_40 : decode cX12_isMistaken 40 = .ok (.invokevirtual 205, 3) := by decide +kernel
theorem dX12_isMistaken_43 : decode cX12_isMistaken 43 = .ok (.if_icmp .ge 7, 3) := by decide +kernel
theorem dX12_isMistaken_46 : decode cX12_isMistaken 46 = .ok (.iconst 1, 1) := by decide +kernel
theorem dX12_isMistaken_47 : decode cX12_isMistaken 47 = .ok (.goto 4, 3) := by decide +kernel
theorem dX12_isMistaken_50 : decode cX12_isMistaken 50 = .ok (.iconst 0, 1) := by decide +kernel
theorem dX12_isMistaken_51 : decode cX12_isMistaken 51 = .ok (.istore_n 2, 1) := by decide +kernel
theorem dX12_isMistaken_52 : decode cX12_isMistaken 52 = .ok (.iinc 3 1, 3) := by decide +kernel
theorem dX12_isMistaken_55 : decode cX12_isMistaken 55 = .ok (.goto (-51), 3) := by decide +kernel
theorem dX12_isMistaken_58 : decode cX12_isMistaken 58 = .ok (.iload_n 2, 1) := by decide +kernel
theorem dX12_isMistaken_59 : decode cX12_isMistaken 59 = .ok (.ireturn, 1) := by decide +kernel
theorem dX12_told_0 : decode cX12_told 0 = .ok (.iconst 0, 1) := by decide +kernel
theorem dX12_told_1 : decode cX12_told 1 = .ok (.istore_n 2, 1) := by decide +kernel
theorem dX12_told_2 : decode cX12_told 2 = .ok (.iconst 0, 1) := by decide +kernel
theorem dX12_told_3 : decode cX12_told 3 = .ok (.istore_n 3, 1) := by decide +kernel
theorem dX12_told_4 : decode cX12_told 4 = .ok (.iconst 0, 1) := by decide +kernel
theorem dX12_told_5 : decode cX12_told 5 = .ok (.istore 4, 2) := by decide +kernel
theorem dX12_told_7 : decode cX12_told 7 = .ok (.iload 4, 2) := by decide +kernel
theorem dX12_told_9 : decode cX12_told 9 = .ok (.aload_n 0, 1) := by decide +kernel
theorem dX12_told_10 : decode cX12_told 10 = .ok (.getfield 9, 3) := by decide +kernel
theorem dX12_told_13 : decode cX12_told 13 = .ok (.iconst 0, 1) := by decide +kernel
theorem dX12_told_14 : decode cX12_told 14 = .ok (.iaload, 1) := by decide +kernel
theorem dX12_told_15 : decode cX12_told 15 = .ok (.if_icmp .ge 54, 3) := by decide +kernel
theorem dX12_told_18 : decode cX12_told 18 = .ok (.iload_n 2, 1) := by decide +kernel
theorem dX12_told_19 : decode cX12_told 19 = .ok (.aload_n 0, 1) := by decide +kernel
theorem dX12_told_20 : decode cX12_told 20 = .ok (.iload 4, 2) := by decide +kernel
theorem dX12_told_22 : decode cX12_told 22 = .ok (.invokevirtual 208, 3) := by decide +kernel
theorem dX12_told_25 : decode cX12_told 25 = .ok (.ifCond .eq 10, 3) := by decide +kernel
theorem dX12_told_28 : decode cX12_told 28 = .ok (.iconst 1, 1) := by decide +kernel
theorem dX12_told_29 : decode cX12_told 29 = .ok (.iload 4, 2) := by decide +kernel
theorem dX12_told_31 : decode cX12_told 31 = .ok (.ishl, 1) := by decide +kernel
theorem dX12_told_32 : decode cX12_told 32 = .ok (.goto 4, 3) := by decide +kernel
theorem dX12_told_35 : decode cX12_told 35 = .ok (.iconst 0, 1) := by decide +kernel
theorem dX12_told_36 : decode cX12_told 36 = .ok (.ior, 1) := by decide +kernel
theorem dX12_told_37 : decode cX12_told 37 = .ok (.istore_n 2, 1) := by decide +kernel
theorem dX12_told_38 : decode cX12_told 38 = .ok (.iload_n 3, 1) := by decide +kernel
theorem dX12_told_39 : decode cX12_told 39 = .ok (.aload_n 0, 1) := by decide +kernel
theorem dX12_told_40 : decode cX12_told 40 = .ok (.getfield 9, 3) := by decide +kernel
theorem dX12_told_43 : decode cX12_told 43 = .ok (.bipush 42, 2) := by decide +kernel
theorem dX12_told_45 : decode cX12_told 45 = .ok (.iload 4, 2) := by decide +kernel
theorem dX12_told_47 : decode cX12_told 47 = .ok (.iadd, 1) := by decide +kernel
theorem dX12_told_48 : decode cX12_told 48 = .ok (.iaload, 1) := by decide +kernel
theorem dX12_told_49 : decode cX12_told 49 = .ok (.iconst 4, 1) := by decide +kernel
theorem dX12_told_50 : decode cX12_told 50 = .ok (.if_icmp .ne 7, 3) := by decide +kernel
theorem dX12_told_53 : decode cX12_told 53 = .ok (.iconst 0, 1) := by decide +kernel
theorem dX12_told_54 : decode cX12_told 54 = .ok (.goto 7, 3) := by decide +kernel
theorem dX12_told_57 : decode cX12_told 57 = .ok (.iconst 1, 1) := by decide +kernel
theorem dX12_told_58 : decode cX12_told 58 = .ok (.iload 4, 2) := by decide +kernel
theorem dX12_told_60 : decode cX12_told 60 = .ok (.ishl, 1) := by decide +kernel
theorem dX12_told_61 : decode cX12_told 61 = .ok (.ior, 1) := by decide +kernel
theorem dX12_told_62 : decode cX12_told 62 = .ok (.istore_n 3, 1) := by decide +kernel
theorem dX12_told_63 : decode cX12_told 63 = .ok (.iinc 4 1, 3) := by decide +kernel
theorem dX12_told_66 : decode cX12_told 66 = .ok (.goto (-59), 3) := by decide +kernel
theorem dX12_told_69 : decode cX12_told 69 = .ok (.iload_n 1, 1) := by decide +kernel
theorem dX12_told_70 : decode cX12_told 70 = .ok (.tableswitch 62 0 5 #[38, 43, 48, 53, 58, 60], 38) := by decide +kernel
theorem dX12_told_108 : decode cX12_told 108 = .ok (.aload_n 0, 1) := by decide +kernel
theorem dX12_told_109 : decode cX12_told 109 = .ok (.invokevirtual 164, 3) := by decide +kernel
theorem dX12_told_112 : decode cX12_told 112 = .ok (.ireturn, 1) := by decide +kernel
theorem dX12_told_113 : decode cX12_told 113 = .ok (.aload_n 0, 1) := by decide +kernel
theorem dX12_told_114 : decode cX12_told 114 = .ok (.invokevirtual 174, 3) := by decide +kernel
theorem dX12_told_117 : decode cX12_told 117 = .ok (.ireturn, 1) := by decide +kernel
theorem dX12_told_118 : decode cX12_told 118 = .ok (.aload_n 0, 1) := by decide +kernel
theorem dX12_told_119 : decode cX12_told 119 = .ok (.invokevirtual 211, 3) := by decide +kernel
theorem dX12_told_122 : decode cX12_told 122 = .ok (.ireturn, 1) := by decide +kernel
theorem dX12_told_123 : decode cX12_told 123 = .ok (.aload_n 0, 1) := by decide +kernel
theorem dX12_told_124 : decode cX12_told 124 = .ok (.invokevirtual 214, 3) := by decide +kernel
theorem dX12_told_127 : decode cX12_told 127 = .ok (.ireturn, 1) := by decide +kernel
theorem dX12_told_128 : decode cX12_told 128 = .ok (.iload_n 2, 1) := by decide +kernel
theorem dX12_told_129 : decode cX12_told 129 = .ok (.ireturn, 1) := by decide +kernel
theorem dX12_told_130 : decode cX12_told 130 = .ok (.iload_n 3, 1) := by decide +kernel
theorem dX12_told_131 : decode cX12_told 131 = .ok (.ireturn, 1) := by decide +kernel
theorem dX12_told_132 : decode cX12_told 132 = .ok (.sipush (-10001), 3) := by decide +kernel
theorem dX12_told_135 : decode cX12_told 135 = .ok (.ireturn, 1) := by decide +kernel
theorem dX12_clash_0 : decode cX12_clash 0 = .ok (.aload_n 0, 1) := by decide +kernel
theorem dX12_clash_1 : decode cX12_clash 1 = .ok (.iload_n 1, 1) := by decide +kernel
theorem dX12_clash_2 : decode cX12_clash 2 = .ok (.invokevirtual 189, 3) := by decide +kernel
theorem dX12_clash_5 : decode cX12_clash 5 = .ok (.ifCond .eq 26, 3) := by decide +kernel
theorem dX12_clash_8 : decode cX12_clash 8 = .ok (.iload_n 2, 1) := by decide +kernel
theorem dX12_clash_9 : decode cX12_clash 9 = .ok (.invokestatic 199, 3) := by decide +kernel
theorem dX12_clash_12 : decode cX12_clash 12 = .ok (.ifCond .eq 19, 3) := by decide +kernel
theorem dX12_clash_15 : decode cX12_clash 15 = .ok (.aload_n 0, 1) := by decide +kernel
theorem dX12_clash_16 : decode cX12_clash 16 = .ok (.iload_n 3, 1) := by decide +kernel
theorem dX12_clash_17 : decode cX12_clash 17 = .ok (.invokevirtual 189, 3) := by decide +kernel
theorem dX12_clash_20 : decode cX12_clash 20 = .ok (.ifCond .eq 11, 3) := by decide +kernel
theorem dX12_clash_23 : decode cX12_clash 23 = .ok (.iload 4, 2) := by decide +kernel
theorem dX12_clash_25 : decode cX12_clash 25 = .ok (.invokestatic 199, 3) := by decide +kernel
theorem dX12_clash_28 : decode cX12_clash 28 = .ok (.ifCond .ne 5, 3) := by decide +kernel
theorem dX12_clash_31 : decode cX12_clash 31 = .ok (.iconst (-1), 1) := by decide +kernel
theorem dX12_clash_32 : decode cX12_clash 32 = .ok (.ireturn, 1) := by decide +kernel
theorem dX12_clash_33 : decode cX12_clash 33 = .ok (.iload_n 1, 1) := by decide +kernel
theorem dX12_clash_34 : decode cX12_clash 34 = .ok (.iload_n 3, 1) := by decide +kernel
theorem dX12_clash_35 : decode cX12_clash 35 = .ok (.if_icmp .ne 8, 3) := by decide +kernel
theorem dX12_clash_38 : decode cX12_clash 38 = .ok (.bipush (-2), 2) := by decide +kernel
theorem dX12_clash_40 : decode cX12_clash 40 = .ok (.goto 12, 3) := by decide +kernel
theorem dX12_clash_43 : decode cX12_clash 43 = .ok (.aload_n 0, 1) := by decide +kernel
theorem dX12_clash_44 : decode cX12_clash 44 = .ok (.iload_n 1, 1) := by decide +kernel
theorem dX12_clash_45 : decode cX12_clash 45 = .ok (.iload_n 2, 1) := by decide +kernel
theorem dX12_clash_46 : decode cX12_clash 46 = .ok (.iload_n 3, 1) := by decide +kernel
theorem dX12_clash_47 : decode cX12_clash 47 = .ok (.iload 4, 2) := by decide +kernel
theorem dX12_clash_49 : decode cX12_clash 49 = .ok (.invokevirtual 170, 3) := by decide +kernel
theorem dX12_clash_52 : decode cX12_clash 52 = .ok (.ireturn, 1) := by decide +kernel
theorem dX12_at_0 : decode cX12_at 0 = .ok (.iload_n 1, 1) := by decide +kernel
theorem dX12_at_1 : decode cX12_at 1 = .ok (.iconst 0, 1) := by decide +kernel
theorem dX12_at_2 : decode cX12_at 2 = .ok (.bipush 29, 2) := by decide +kernel
theorem dX12_at_4 : decode cX12_at 4 = .ok (.invokestatic 56, 3) := by decide +kernel
theorem dX12_at_7 : decode cX12_at 7 = .ok (.ifCond .eq 13, 3) := by decide +kernel
theorem dX12_at_10 : decode cX12_at 10 = .ok (.iload_n 2, 1) := by decide +kernel
theorem dX12_at_11 : decode cX12_at 11 = .ok (.iconst 0, 1) := by decide +kernel
theorem dX12_at_12 : decode cX12_at 12 = .ok (.bipush 11, 2) := by decide +kernel
theorem dX12_at_14 : decode cX12_at 14 = .ok (.invokestatic 56, 3) := by decide +kernel
theorem dX12_at_17 : decode cX12_at 17 = .ok (.ifCond .ne 5, 3) := by decide +kernel
theorem dX12_at_20 : decode cX12_at 20 = .ok (.iconst (-1), 1) := by decide +kernel
theorem dX12_at_21 : decode cX12_at 21 = .ok (.ireturn, 1) := by decide +kernel
theorem dX12_at_22 : decode cX12_at 22 = .ok (.iconst 0, 1) := by decide +kernel
theorem dX12_at_23 : decode cX12_at 23 = .ok (.istore_n 3, 1) := by decide +kernel
theorem dX12_at_24 : decode cX12_at 24 = .ok (.iconst 0, 1) := by decide +kernel
theorem dX12_at_25 : decode cX12_at 25 = .ok (.istore 4, 2) := by decide +kernel
theorem dX12_at_27 : decode cX12_at 27 = .ok (.iload 4, 2) := by decide +kernel
theorem dX12_at_29 : decode cX12_at 29 = .ok (.aload_n 0, 1) := by decide +kernel
theorem dX12_at_30 : decode cX12_at 30 = .ok (.getfield 9, 3) := by decide +kernel
theorem dX12_at_33 : decode cX12_at 33 = .ok (.iconst 0, 1) := by decide +kernel
theorem dX12_at_34 : decode cX12_at 34 = .ok (.iaload, 1) := by decide +kernel
theorem dX12_at_35 : decode cX12_at 35 = .ok (.if_icmp .ge 41, 3) := by decide +kernel
theorem dX12_at_38 : decode cX12_at 38 = .ok (.iload_n 3, 1) := by decide +kernel
theorem dX12_at_39 : decode cX12_at 39 = .ok (.aload_n 0, 1) := by decide +kernel
theorem dX12_at_40 : decode cX12_at 40 = .ok (.iload 4, 2) := by decide +kernel
theorem dX12_at_42 : decode cX12_at 42 = .ok (.aload_n 0, 1) := by decide +kernel
theorem dX12_at_43 : decode cX12_at 43 = .ok (.getfield 9, 3) := by decide +kernel
theorem dX12_at_46 : decode cX12_at 46 = .ok (.bipush 42, 2) := by decide +kernel
theorem dX12_at_48 : decode cX12_at 48 = .ok (.iload 4, 2) := by decide +kernel
theorem dX12_at_50 : decode cX12_at 50 = .ok (.iadd, 1) := by decide +kernel
theorem dX12_at_51 : decode cX12_at 51 = .ok (.iaload, 1) := by decide +kernel
theorem dX12_at_52 : decode cX12_at 52 = .ok (.iload_n 1, 1) := by decide +kernel
theorem dX12_at_53 : decode cX12_at 53 = .ok (.iload_n 2, 1) := by decide +kernel
theorem dX12_at_54 : decode cX12_at 54 = .ok (.invokevirtual 156, 3) := by decide +kernel
theorem dX12_at_57 : decode cX12_at 57 = .ok (.ifCond .eq 10, 3) := by decide +kernel
theorem dX12_at_60 : decode cX12_at 60 = .ok (.iconst 1, 1) := by decide +kernel
theorem dX12_at_61 : decode cX12_at 61 = .ok (.iload 4, 2) := by decide +kernel
theorem dX12_at_63 : decode cX12_at 63 = .ok (.ishl, 1) := by decide +kernel
theorem dX12_at_64 : decode cX12_at 64 = .ok (.goto 4, 3) := by decide +kernel
theorem dX12_at_67 : decode cX12_at 67 = .ok (.iconst 0, 1) := by decide +kernel
theorem dX12_at_68 : decode cX12_at 68 = .ok (.ior, 1) := by decide +kernel
theorem dX12_at_69 : decode cX12_at 69 = .ok (.istore_n 3, 1) := by decide +kernel
theorem dX12_at_70 : decode cX12_at 70 = .ok (.iinc 4 1, 3) := by decide +kernel
theorem dX12_at_73 : decode cX12_at 73 = .ok (.goto (-46), 3) := by decide +kernel
theorem dX12_at_76 : decode cX12_at 76 = .ok (.iload_n 3, 1) := by decide +kernel
theorem dX12_at_77 : decode cX12_at 77 = .ok (.ireturn, 1) := by decide +kernel
theorem dX12_looksForFits_0 : decode cX12_looksForFits 0 = .ok (.iconst 0, 1) := by decide +kernel
theorem dX12_looksForFits_1 : decode cX12_looksForFits 1 = .ok (.istore_n 2, 1) := by decide +kernel
theorem dX12_looksForFits_2 : decode cX12_looksForFits 2 = .ok (.iload_n 2, 1) := by decide +kernel
theorem dX12_looksForFits_3 : decode cX12_looksForFits 3 = .ok (.iconst 4, 1) := by decide +kernel
theorem dX12_looksForFits_4 : decode cX12_looksForFits 4 = .ok (.aload_n 0, 1) := by decide +kernel
theorem dX12_looksForFits_5 : decode cX12_looksForFits 5 = .ok (.getfield 9, 3) := by decide +kernel
theorem dX12_looksForFits_8 : decode cX12_looksForFits 8 = .ok (.iconst 0, 1) := by decide +kernel
theorem dX12_looksForFits_9 : decode cX12_looksForFits 9 = .ok (.iaload, 1) := by decide +kernel
theorem dX12_looksForFits_10 : decode cX12_looksForFits 10 = .ok (.imul, 1) := by decide +kernel
theorem dX12_looksForFits_11 : decode cX12_looksForFits 11 = .ok (.if_icmp .ge 26, 3) := by decide +kernel
theorem dX12_looksForFits_14 : decode cX12_looksForFits 14 = .ok (.aload_n 0, 1) := by decide +kernel
theorem dX12_looksForFits_15 : decode cX12_looksForFits 15 = .ok (.getfield 25, 3) := by decide +kernel
theorem dX12_looksForFits_18 : decode cX12_looksForFits 18 = .ok (.iload_n 2, 1) := by decide +kernel
theorem dX12_looksForFits_19 : decode cX12_looksForFits 19 = .ok (.aload_n 0, 1) := by decide +kernel
theorem dX12_looksForFits_20 : decode cX12_looksForFits 20 = .ok (.iload_n 2, 1) := by decide +kernel
theorem dX12_looksForFits_21 : decode cX12_looksForFits 21 = .ok (.iconst 4, 1) := by decide +kernel
theorem dX12_looksForFits_22 : decode cX12_looksForFits 22 = .ok (.idiv, 1) := by decide +kernel
theorem dX12_looksForFits_23 : decode cX12_looksForFits 23 = .ok (.iload_n 2, 1) := by decide +kernel
theorem dX12_looksForFits_24 : decode cX12_looksForFits 24 = .ok (.iconst 4, 1) := by decide +kernel
theorem dX12_looksForFits_25 : decode cX12_looksForFits 25 = .ok (.irem, 1) := by decide +kernel
theorem dX12_looksForFits_26 : decode cX12_looksForFits 26 = .ok (.iload_n 1, 1) := by decide +kernel
theorem dX12_looksForFits_27 : decode cX12_looksForFits 27 = .ok (.invokevirtual 167, 3) := by decide +kernel
theorem dX12_looksForFits_30 : decode cX12_looksForFits 30 = .ok (.bastore, 1) := by decide +kernel
theorem dX12_looksForFits_31 : decode cX12_looksForFits 31 = .ok (.iinc 2 1, 3) := by decide +kernel
theorem dX12_looksForFits_34 : decode cX12_looksForFits 34 = .ok (.goto (-32), 3) := by decide +kernel
theorem dX12_looksForFits_37 : decode cX12_looksForFits 37 = .ok (.return_, 1) := by decide +kernel
theorem dX12_looksForGoods_0 : decode cX12_looksForGoods 0 = .ok (.iconst 0, 1) := by decide +kernel
theorem dX12_looksForGoods_1 : decode cX12_looksForGoods 1 = .ok (.istore_n 1, 1) := by decide +kernel
theorem dX12_looksForGoods_2 : decode cX12_looksForGoods 2 = .ok (.iload_n 1, 1) := by decide +kernel
theorem dX12_looksForGoods_3 : decode cX12_looksForGoods 3 = .ok (.iconst 4, 1) := by decide +kernel
theorem dX12_looksForGoods_4 : decode cX12_looksForGoods 4 = .ok (.aload_n 0, 1) := by decide +kernel
theorem dX12_looksForGoods_5 : decode cX12_looksForGoods 5 = .ok (.getfield 9, 3) := by decide +kernel
theorem dX12_looksForGoods_8 : decode cX12_looksForGoods 8 = .ok (.iconst 0, 1) := by decide +kernel
theorem dX12_looksForGoods_9 : decode cX12_looksForGoods 9 = .ok (.iaload, 1) := by decide +kernel
theorem dX12_looksForGoods_10 : decode cX12_looksForGoods 10 = .ok (.imul, 1) := by decide +kernel
theorem dX12_looksForGoods_11 : decode cX12_looksForGoods 11 = .ok (.if_icmp .ge 25, 3) := by decide +kernel
theorem dX12_looksForGoods_14 : decode cX12_looksForGoods 14 = .ok (.aload_n 0, 1) := by decide +kernel
theorem dX12_looksForGoods_15 : decode cX12_looksForGoods 15 = .ok (.getfield 28, 3) := by decide +kernel
theorem dX12_looksForGoods_18 : decode cX12_looksForGoods 18 = .ok (.iload_n 1, 1) := by decide +kernel
theorem dX12_looksForGoods_19 : decode cX12_looksForGoods 19 = .ok (.aload_n 0, 1) := by decide +kernel
theorem dX12_looksForGoods_20 : decode cX12_looksForGoods 20 = .ok (.iload_n 1, 1) := by decide +kernel
theorem dX12_looksForGoods_21 : decode cX12_looksForGoods 21 = .ok (.iconst 4, 1) := by decide +kernel
theorem dX12_looksForGoods_22 : decode cX12_looksForGoods 22 = .ok (.idiv, 1) := by decide +kernel
theorem dX12_looksForGoods_23 : decode cX12_looksForGoods 23 = .ok (.iload_n 1, 1) := by decide +kernel
theorem dX12_looksForGoods_24 : decode cX12_looksForGoods 24 = .ok (.iconst 4, 1) := by decide +kernel
theorem dX12_looksForGoods_25 : decode cX12_looksForGoods 25 = .ok (.irem, 1) := by decide +kernel
theorem dX12_looksForGoods_26 : decode cX12_looksForGoods 26 = .ok (.invokevirtual 180, 3) := by decide +kernel
theorem dX12_looksForGoods_29 : decode cX12_looksForGoods 29 = .ok (.iastore, 1) := by decide +kernel
theorem dX12_looksForGoods_30 : decode cX12_looksForGoods 30 = .ok (.iinc 1 1, 3) := by decide +kernel
theorem dX12_looksForGoods_33 : decode cX12_looksForGoods 33 = .ok (.goto (-31), 3) := by decide +kernel
theorem dX12_looksForGoods_36 : decode cX12_looksForGoods 36 = .ok (.return_, 1) := by decide +kernel
theorem dX12_looksForClashes_0 : decode cX12_looksForClashes 0 = .ok (.iconst 0, 1) := by decide +kernel
theorem dX12_looksForClashes_1 : decode cX12_looksForClashes 1 = .ok (.istore_n 1, 1) := by decide +kernel
theorem dX12_looksForClashes_2 : decode cX12_looksForClashes 2 = .ok (.iload_n 1, 1) := by decide +kernel
theorem dX12_looksForClashes_3 : decode cX12_looksForClashes 3 = .ok (.iconst 4, 1) := by decide +kernel
theorem dX12_looksForClashes_4 : decode cX12_looksForClashes 4 = .ok (.aload_n 0, 1) := by decide +kernel
theorem dX12_looksForClashes_5 : decode cX12_looksForClashes 5 = .ok (.getfield 9, 3) := by decide +kernel
theorem dX12_looksForClashes_8 : decode cX12_looksForClashes 8 = .ok (.iconst 0, 1) := by decide +kernel
theorem dX12_looksForClashes_9 : decode cX12_looksForClashes 9 = .ok (.iaload, 1) := by decide +kernel
theorem dX12_looksForClashes_10 : decode cX12_looksForClashes 10 = .ok (.imul, 1) := by decide +kernel
theorem dX12_looksForClashes_11 : decode cX12_looksForClashes 11 = .ok (.if_icmp .ge 80, 3) := by decide +kernel
theorem dX12_looksForClashes_14 : decode cX12_looksForClashes 14 = .ok (.aload_n 0, 1) := by decide +kernel
theorem dX12_looksForClashes_15 : decode cX12_looksForClashes 15 = .ok (.getfield 31, 3) := by decide +kernel
theorem dX12_looksForClashes_18 : decode cX12_looksForClashes 18 = .ok (.iload_n 1, 1) := by decide +kernel
theorem dX12_looksForClashes_19 : decode cX12_looksForClashes 19 = .ok (.iconst 0, 1) := by decide +kernel
theorem dX12_looksForClashes_20 : decode cX12_looksForClashes 20 = .ok (.iastore, 1) := by decide +kernel
theorem dX12_looksForClashes_21 : decode cX12_looksForClashes 21 = .ok (.iconst 0, 1) := by decide +kernel
theorem dX12_looksForClashes_22 : decode cX12_looksForClashes 22 = .ok (.istore_n 2, 1) := by decide +kernel
theorem dX12_looksForClashes_23 : decode cX12_looksForClashes 23 = .ok (.iload_n 2, 1) := by decide +kernel
theorem dX12_looksForClashes_24 : decode cX12_looksForClashes 24 = .ok (.iconst 4, 1) := by decide +kernel
theorem dX12_looksForClashes_25 : decode cX12_looksForClashes 25 = .ok (.aload_n 0, 1) := by decide +kernel
theorem dX12_looksForClashes_26 : decode cX12_looksForClashes 26 = .ok (.getfield 9, 3) := by decide +kernel
theorem dX12_looksForClashes_29 : decode cX12_looksForClashes 29 = .ok (.iconst 0, 1) := by decide +kernel
theorem dX12_looksForClashes_30 : decode cX12_looksForClashes 30 = .ok (.iaload, 1) := by decide +kernel
theorem dX12_looksForClashes_31 : decode cX12_looksForClashes 31 = .ok (.imul, 1) := by decide +kernel
theorem dX12_looksForClashes_32 : decode cX12_looksForClashes 32 = .ok (.if_icmp .ge 53, 3) := by decide +kernel
theorem dX12_looksForClashes_35 : decode cX12_looksForClashes 35 = .ok (.aload_n 0, 1) := by decide +kernel
theorem dX12_looksForClashes_36 : decode cX12_looksForClashes 36 = .ok (.getfield 31, 3) := by decide +kernel
theorem dX12_looksForClashes_39 : decode cX12_looksForClashes 39 = .ok (.iload_n 1, 1) := by decide +kernel
theorem dX12_looksForClashes_40 : decode cX12_looksForClashes 40 = .ok (.dup2, 1) := by decide +kernel
theorem dX12_looksForClashes_41 : decode cX12_looksForClashes 41 = .ok (.iaload, 1) := by decide +kernel
theorem dX12_looksForClashes_42 : decode cX12_looksForClashes 42 = .ok (.iload_n 1, 1) := by decide +kernel
theorem dX12_looksForClashes_43 : decode cX12_looksForClashes 43 = .ok (.iconst 4, 1) := by decide +kernel
theorem dX12_looksForClashes_44 : decode cX12_looksForClashes 44 = .ok (.idiv, 1) := by decide +kernel
theorem dX12_looksForClashes_45 : decode cX12_looksForClashes 45 = .ok (.iload_n 2, 1) := by decide +kernel
theorem dX12_looksForClashes_46 : decode cX12_looksForClashes 46 = .ok (.iconst 4, 1) := by decide +kernel
theorem dX12_looksForClashes_47 : decode cX12_looksForClashes 47 = .ok (.idiv, 1) := by decide +kernel
theorem dX12_looksForClashes_48 : decode cX12_looksForClashes 48 = .ok (.if_icmp .eq 28, 3) := by decide +kernel
theorem dX12_looksForClashes_51 : decode cX12_looksForClashes 51 = .ok (.aload_n 0, 1) := by decide +kernel
theorem dX12_looksForClashes_52 : decode cX12_looksForClashes 52 = .ok (.iload_n 1, 1) := by decide +kernel
theorem dX12_looksForClashes_53 : decode cX12_looksForClashes 53 = .ok (.iconst 4, 1) := by decide +kernel
theorem dX12_looksForClashes_54 : decode cX12_looksForClashes 54 = .ok (.idiv, 1) := by decide +kernel
theorem dX12_looksForClashes_55 : decode cX12_looksForClashes 55 = .ok (.iload_n 1, 1) := by decide +kernel
theorem dX12_looksForClashes_56 : decode cX12_looksForClashes 56 = .ok (.iconst 4, 1) := by decide +kernel
theorem dX12_looksForClashes_57 : decode cX12_looksForClashes 57 = .ok (.irem, 1) := by decide +kernel
theorem dX12_looksForClashes_58 : decode cX12_looksForClashes 58 = .ok (.iload_n 2, 1) := by decide +kernel
theorem dX12_looksForClashes_59 : decode cX12_looksForClashes 59 = .ok (.iconst 4, 1) := by decide +kernel
theorem dX12_looksForClashes_60 : decode cX12_looksForClashes 60 = .ok (.idiv, 1) := by decide +kernel
theorem dX12_looksForClashes_61 : decode cX12_looksForClashes 61 = .ok (.iload_n 2, 1) := by decide +kernel
theorem dX12_looksForClashes_62 : decode cX12_looksForClashes 62 = .ok (.iconst 4, 1) := by decide +kernel
theorem dX12_looksForClashes_63 : decode cX12_looksForClashes 63 = .ok (.irem, 1) := by decide +kernel
theorem dX12_looksForClashes_64 : decode cX12_looksForClashes 64 = .ok (.invokevirtual 170, 3) := by decide +kernel
theorem dX12_looksForClashes_67 : decode cX12_looksForClashes 67 = .ok (.ifCond .le 9, 3) := by decide +kernel
theorem dX12_looksForClashes_70 : decode cX12_looksForClashes 70 = .ok (.iconst 1, 1) := by decide +kernel
theorem dX12_looksForClashes_71 : decode cX12_looksForClashes 71 = .ok (.iload_n 2, 1) := by decide +kernel
theorem dX12_looksForClashes_72 : decode cX12_looksForClashes 72 = .ok (.ishl, 1) := by decide +kernel
theorem dX12_looksForClashes_73 : decode cX12_looksForClashes 73 = .ok (.goto 4, 3) := by decide +kernel
theorem dX12_looksForClashes_76 : decode cX12_looksForClashes 76 = .ok (.iconst 0, 1) := by decide +kernel
theorem dX12_looksForClashes_77 : decode cX12_looksForClashes 77 = .ok (.ior, 1) := by decide +kernel
theorem dX12_looksForClashes_78 : decode cX12_looksForClashes 78 = .ok (.iastore, 1) := by decide +kernel
theorem dX12_looksForClashes_79 : decode cX12_looksForClashes 79 = .ok (.iinc 2 1, 3) := by decide +kernel
theorem dX12_looksForClashes_82 : decode cX12_looksForClashes 82 = .ok (.goto (-59), 3) := by decide +kernel
theorem dX12_looksForClashes_85 : decode cX12_looksForClashes 85 = .ok (.iinc 1 1, 3) := by decide +kernel
theorem dX12_looksForClashes_88 : decode cX12_looksForClashes 88 = .ok (.goto (-86), 3) := by decide +kernel
theorem dX12_looksForClashes_91 : decode cX12_looksForClashes 91 = .ok (.return_, 1) := by decide +kernel
theorem dX12_looksForPairs_0 : decode cX12_looksForPairs 0 = .ok (.aload_n 0, 1) := by decide +kernel
theorem dX12_looksForPairs_1 : decode cX12_looksForPairs 1 = .ok (.aload_n 0, 1) := by decide +kernel
theorem dX12_looksForPairs_2 : decode cX12_looksForPairs 2 = .ok (.invokevirtual 164, 3) := by decide +kernel
theorem dX12_looksForPairs_5 : decode cX12_looksForPairs 5 = .ok (.invokevirtual 217, 3) := by decide +kernel
theorem dX12_looksForPairs_8 : decode cX12_looksForPairs 8 = .ok (.aload_n 0, 1) := by decide +kernel
theorem dX12_looksForPairs_9 : decode cX12_looksForPairs 9 = .ok (.invokevirtual 220, 3) := by decide +kernel
theorem dX12_looksForPairs_12 : decode cX12_looksForPairs 12 = .ok (.aload_n 0, 1) := by decide +kernel
theorem dX12_looksForPairs_13 : decode cX12_looksForPairs 13 = .ok (.invokevirtual 223, 3) := by decide +kernel
theorem dX12_looksForPairs_16 : decode cX12_looksForPairs 16 = .ok (.return_, 1) := by decide +kernel
theorem dX12_keepsWay_0 : decode cX12_keepsWay 0 = .ok (.aload_n 0, 1) := by decide +kernel
theorem dX12_keepsWay_1 : decode cX12_keepsWay 1 = .ok (.getfield 226, 3) := by decide +kernel
theorem dX12_keepsWay_4 : decode cX12_keepsWay 4 = .ok (.ifCond .eq 35, 3) := by decide +kernel
theorem dX12_keepsWay_7 : decode cX12_keepsWay 7 = .ok (.iload_n 1, 1) := by decide +kernel
theorem dX12_keepsWay_8 : decode cX12_keepsWay 8 = .ok (.aload_n 0, 1) := by decide +kernel
theorem dX12_keepsWay_9 : decode cX12_keepsWay 9 = .ok (.getfield 229, 3) := by decide +kernel
theorem dX12_keepsWay_12 : decode cX12_keepsWay 12 = .ok (.if_icmp .gt 19, 3) := by decide +kernel
theorem dX12_keepsWay_15 : decode cX12_keepsWay 15 = .ok (.iload_n 1, 1) := by decide +kernel
theorem dX12_keepsWay_16 : decode cX12_keepsWay 16 = .ok (.aload_n 0, 1) := by decide +kernel
theorem dX12_keepsWay_17 : decode cX12_keepsWay 17 = .ok (.getfield 229, 3) := by decide +kernel
theorem dX12_keepsWay_20 : decode cX12_keepsWay 20 = .ok (.if_icmp .ne 15, 3) := by decide +kernel
theorem dX12_keepsWay_23 : decode cX12_keepsWay 23 = .ok (.iload_n 2, 1) := by decide +kernel
theorem dX12_keepsWay_24 : decode cX12_keepsWay 24 = .ok (.aload_n 0, 1) := by decide +kernel
theorem dX12_keepsWay_25 : decode cX12_keepsWay 25 = .ok (.getfield 232, 3) := by decide +kernel
theorem dX12_keepsWay_28 : decode cX12_keepsWay 28 = .ok (.if_icmp .le 7, 3) := by decide +kernel
theorem dX12_keepsWay_31 : decode cX12_keepsWay 31 = .ok (.iconst 1, 1) := by decide +kernel
theorem dX12_keepsWay_32 : decode cX12_keepsWay 32 = .ok (.goto 28, 3) := by decide +kernel
theorem dX12_keepsWay_35 : decode cX12_keepsWay 35 = .ok (.iconst 0, 1) := by decide +kernel
theorem dX12_keepsWay_36 : decode cX12_keepsWay 36 = .ok (.goto 24, 3) := by decide +kernel
theorem dX12_keepsWay_39 : decode cX12_keepsWay 39 = .ok (.aload_n 0, 1) := by decide +kernel
theorem dX12_keepsWay_40 : decode cX12_keepsWay 40 = .ok (.getfield 229, 3) := by decide +kernel
theorem dX12_keepsWay_43 : decode cX12_keepsWay 43 = .ok (.iconst (-1), 1) := by decide +kernel
theorem dX12_keepsWay_44 : decode cX12_keepsWay 44 = .ok (.if_icmp .eq 11, 3) := by decide +kernel
theorem dX12_keepsWay_47 : decode cX12_keepsWay 47 = .ok (.iload_n 2, 1) := by decide +kernel
theorem dX12_keepsWay_48 : decode cX12_keepsWay 48 = .ok (.aload_n 0, 1) := by decide +kernel
theorem dX12_keepsWay_49 : decode cX12_keepsWay 49 = .ok (.getfield 232, 3) := by decide +kernel
theorem dX12_keepsWay_52 : decode cX12_keepsWay 52 = .ok (.if_icmp .le 7, 3) := by decide +kernel
theorem dX12_keepsWay_55 : decode cX12_keepsWay 55 = .ok (.iconst 1, 1) := by decide +kernel
theorem dX12_keepsWay_56 : decode cX12_keepsWay 56 = .ok (.goto 4, 3) := by decide +kernel
theorem dX12_keepsWay_59 : decode cX12_keepsWay 59 = .ok (.iconst 0, 1) := by decide +kernel
theorem dX12_keepsWay_60 : decode cX12_keepsWay 60 = .ok (.istore_n 3, 1) := by decide +kernel
theorem dX12_keepsWay_61 : decode cX12_keepsWay 61 = .ok (.iload_n 3, 1) := by decide +kernel
theorem dX12_keepsWay_62 : decode cX12_keepsWay 62 = .ok (.ifCond .eq 47, 3) := by decide +kernel
theorem dX12_keepsWay_65 : decode cX12_keepsWay 65 = .ok (.aload_n 0, 1) := by decide +kernel
theorem dX12_keepsWay_66 : decode cX12_keepsWay 66 = .ok (.iload_n 1, 1) := by decide +kernel
theorem dX12_keepsWay_67 : decode cX12_keepsWay 67 = .ok (.putfield 229, 3) := by decide +kernel
theorem dX12_keepsWay_70 : decode cX12_keepsWay 70 = .ok (.aload_n 0, 1) := by decide +kernel
theorem dX12_keepsWay_71 : decode cX12_keepsWay 71 = .ok (.iload_n 2, 1) := by decide +kernel
theorem dX12_keepsWay_72 : decode cX12_keepsWay 72 = .ok (.putfield 232, 3) := by decide +kernel
theorem dX12_keepsWay_75 : decode cX12_keepsWay 75 = .ok (.iconst 0, 1) := by decide +kernel
theorem dX12_keepsWay_76 : decode cX12_keepsWay 76 = .ok (.istore 4, 2) := by decide +kernel
theorem dX12_keepsWay_78 : decode cX12_keepsWay 78 = .ok (.iload 4, 2) := by decide +kernel
theorem dX12_keepsWay_80 : decode cX12_keepsWay 80 = .ok (.aload_n 0, 1) := by decide +kernel
theorem dX12_keepsWay_81 : decode cX12_keepsWay 81 = .ok (.getfield 9, 3) := by decide +kernel
theorem dX12_keepsWay_84 : decode cX12_keepsWay 84 = .ok (.iconst 0, 1) := by decide +kernel
theorem dX12_keepsWay_85 : decode cX12_keepsWay 85 = .ok (.iaload, 1) := by decide +kernel
theorem dX12_keepsWay_86 : decode cX12_keepsWay 86 = .ok (.if_icmp .ge 23, 3) := by decide +kernel
theorem dX12_keepsWay_89 : decode cX12_keepsWay 89 = .ok (.aload_n 0, 1) := by decide +kernel
theorem dX12_keepsWay_90 : decode cX12_keepsWay 90 = .ok (.getfield 37, 3) := by decide +kernel
theorem dX12_keepsWay_93 : decode cX12_keepsWay 93 = .ok (.iload 4, 2) := by decide +kernel
theorem dX12_keepsWay_95 : decode cX12_keepsWay 95 = .ok (.aload_n 0, 1) := by decide +kernel
theorem dX12_keepsWay_96 : decode cX12_keepsWay 96 = .ok (.getfield 34, 3) := by decide +kernel
theorem dX12_keepsWay_99 : decode cX12_keepsWay 99 = .ok (.iload 4, 2) := by decide +kernel
theorem dX12_keepsWay_101 : decode cX12_keepsWay 101 = .ok (.iaload, 1) := by decide +kernel
theorem dX12_keepsWay_102 : decode cX12_keepsWay 102 = .ok (.iastore, 1) := by decide +kernel
theorem dX12_keepsWay_103 : decode cX12_keepsWay 103 = .ok (.iinc 4 1, 3) := by decide +kernel
theorem dX12_keepsWay_106 : decode cX12_keepsWay 106 = .ok (.goto (-28), 3) := by decide +kernel
theorem dX12_keepsWay_109 : decode cX12_keepsWay 109 = .ok (.return_, 1) := by decide +kernel
theorem dX12_waysFrom_0 : decode cX12_waysFrom 0 = .ok (.iload_n 1, 1) := by decide +kernel
theorem dX12_waysFrom_1 : decode cX12_waysFrom 1 = .ok (.aload_n 0, 1) := by decide +kernel
theorem dX12_waysFrom_2 : decode cX12_waysFrom 2 = .ok (.getfield 9, 3) := by decide +kernel
theorem dX12_waysFrom_5 : decode cX12_waysFrom 5 = .ok (.iconst 0, 1) := by decide +kernel
theorem dX12_waysFrom_6 : decode cX12_waysFrom 6 = .ok (.iaload, 1) := by decide +kernel
theorem dX12_waysFrom_7 : decode cX12_waysFrom 7 = .ok (.if_icmp .ne 11, 3) := by decide +kernel
theorem dX12_waysFrom_10 : decode cX12_waysFrom 10 = .ok (.aload_n 0, 1) := by decide +kernel
theorem dX12_waysFrom_11 : decode cX12_waysFrom 11 = .ok (.iload_n 3, 1) := by decide +kernel
theorem dX12_waysFrom_12 : decode cX12_waysFrom 12 = .ok (.iload 4, 2) := by decide +kernel
theorem dX12_waysFrom_14 : decode cX12_waysFrom 14 = .ok (.invokevirtual 235, 3) := by decide +kernel
theorem dX12_waysFrom_17 : decode cX12_waysFrom 17 = .ok (.return_, 1) := by decide +kernel
theorem dX12_waysFrom_18 : decode cX12_waysFrom 18 = .ok (.iconst 0, 1) := by decide +kernel
theorem dX12_waysFrom_19 : decode cX12_waysFrom 19 = .ok (.istore 5, 2) := by decide +kernel
theorem dX12_waysFrom_21 : decode cX12_waysFrom 21 = .ok (.iload 5, 2) := by decide +kernel
theorem dX12_waysFrom_23 : decode cX12_waysFrom 23 = .ok (.iconst 4, 1) := by decide +kernel
theorem dX12_waysFrom_24 : decode cX12_waysFrom 24 = .ok (.if_icmp .ge 73, 3) := by decide +kernel
theorem dX12_waysFrom_27 : decode cX12_waysFrom 27 = .ok (.iconst 4, 1) := by decide +kernel
theorem dX12_waysFrom_28 : decode cX12_waysFrom 28 = .ok (.iload_n 1, 1) := by decide +kernel
theorem dX12_waysFrom_29 : decode cX12_waysFrom 29 = .ok (.imul, 1) := by decide +kernel
theorem dX12_waysFrom_30 : decode cX12_waysFrom 30 = .ok (.iload 5, 2) := by decide +kernel
theorem dX12_waysFrom_32 : decode cX12_waysFrom 32 = .ok (.iadd, 1) := by decide +kernel
theorem dX12_waysFrom_33 : decode cX12_waysFrom 33 = .ok (.istore 6, 2) := by decide +kernel
theorem dX12_waysFrom_35 : decode cX12_waysFrom 35 = .ok (.aload_n 0, 1) := by decide +kernel
theorem dX12_waysFrom_36 : decode cX12_waysFrom 36 = .ok (.getfield 25, 3) := by decide +kernel
theorem dX12_waysFrom_39 : decode cX12_waysFrom 39 = .ok (.iload 6, 2) := by decide +kernel
theorem dX12_waysFrom_41 : decode cX12_waysFrom 41 = .ok (.baload, 1) := by decide +kernel
theorem dX12_waysFrom_42 : decode cX12_waysFrom 42 = .ok (.ifCond .eq 49, 3) := by decide +kernel
theorem dX12_waysFrom_45 : decode cX12_waysFrom 45 = .ok (.aload_n 0, 1) := by decide +kernel
theorem dX12_waysFrom_46 : decode cX12_waysFrom 46 = .ok (.getfield 31, 3) := by decide +kernel
theorem dX12_waysFrom_49 : decode cX12_waysFrom 49 = .ok (.iload 6, 2) := by decide +kernel
theorem dX12_waysFrom_51 : decode cX12_waysFrom 51 = .ok (.iaload, 1) := by decide +kernel
theorem dX12_waysFrom_52 : decode cX12_waysFrom 52 = .ok (.iload_n 2, 1) := by decide +kernel
theorem dX12_waysFrom_53 : decode cX12_waysFrom 53 = .ok (.iand, 1) := by decide +kernel
theorem dX12_waysFrom_54 : decode cX12_waysFrom 54 = .ok (.ifCond .ne 37, 3) := by decide +kernel
theorem dX12_waysFrom_57 : decode cX12_waysFrom 57 = .ok (.aload_n 0, 1) := by decide +kernel
theorem dX12_waysFrom_58 : decode cX12_waysFrom 58 = .ok (.getfield 34, 3) := by decide +kernel
theorem dX12_waysFrom_61 : decode cX12_waysFrom 61 = .ok (.iload_n 1, 1) := by decide +kernel
theorem dX12_waysFrom_62 : decode cX12_waysFrom 62 = .ok (.iload 5, 2) := by decide +kernel
theorem dX12_waysFrom_64 : decode cX12_waysFrom 64 = .ok (.iastore, 1) := by decide +kernel
theorem dX12_waysFrom_65 : decode cX12_waysFrom 65 = .ok (.aload_n 0, 1) := by decide +kernel
theorem dX12_waysFrom_66 : decode cX12_waysFrom 66 = .ok (.iload_n 1, 1) := by decide +kernel
theorem dX12_waysFrom_67 : decode cX12_waysFrom 67 = .ok (.iconst 1, 1) := by decide +kernel
theorem dX12_waysFrom_68 : decode cX12_waysFrom 68 = .ok (.iadd, 1) := by decide +kernel
theorem dX12_waysFrom_69 : decode cX12_waysFrom 69 = .ok (.iload_n 2, 1) := by decide +kernel
theorem dX12_waysFrom_70 : decode cX12_waysFrom 70 = .ok (.iconst 1, 1) := by decide +kernel
theorem dX12_waysFrom_71 : decode cX12_waysFrom 71 = .ok (.iload 6, 2) := by decide +kernel
theorem dX12_waysFrom_73 : decode cX12_waysFrom 73 = .ok (.ishl, 1) := by decide +kernel
theorem dX12_waysFrom_74 : decode cX12_waysFrom 74 = .ok (.ior, 1) := by decide +kernel
theorem dX12_waysFrom_75 : decode cX12_waysFrom 75 = .ok (.iload_n 3, 1) := by decide +kernel
theorem dX12_waysFrom_76 : decode cX12_waysFrom 76 = .ok (.iconst 1, 1) := by decide +kernel
theorem dX12_waysFrom_77 : decode cX12_waysFrom 77 = .ok (.iadd, 1) := by decide +kernel
theorem dX12_waysFrom_78 : decode cX12_waysFrom 78 = .ok (.iload 4, 2) := by decide +kernel
theorem dX12_waysFrom_80 : decode cX12_waysFrom 80 = .ok (.aload_n 0, 1) := by decide +kernel
theorem dX12_waysFrom_81 : decode cX12_waysFrom 81 = .ok (.getfield 28, 3) := by decide +kernel
theorem dX12_waysFrom_84 : decode cX12_waysFrom 84 = .ok (.iload 6, 2) := by decide +kernel
theorem dX12_waysFrom_86 : decode cX12_waysFrom 86 = .ok (.iaload, 1) := by decide +kernel
theorem dX12_waysFrom_87 : decode cX12_waysFrom 87 = .ok (.iadd, 1) := by decide +kernel
theorem dX12_waysFrom_88 : decode cX12_waysFrom 88 = .ok (.invokevirtual 239, 3) := by decide +kernel
theorem dX12_waysFrom_91 : decode cX12_waysFrom 91 = .ok (.iinc 5 1, 3) := by decide +kernel
theorem dX12_waysFrom_94 : decode cX12_waysFrom 94 = .ok (.goto (-73), 3) := by decide +kernel
theorem dX12_waysFrom_97 : decode cX12_waysFrom 97 = .ok (.aload_n 0, 1) := by decide +kernel
theorem dX12_waysFrom_98 : decode cX12_waysFrom 98 = .ok (.getfield 34, 3) := by decide +kernel
theorem dX12_waysFrom_101 : decode cX12_waysFrom 101 = .ok (.iload_n 1, 1) := by decide +kernel
theorem dX12_waysFrom_102 : decode cX12_waysFrom 102 = .ok (.iconst 4, 1) := by decide +kernel
theorem dX12_waysFrom_103 : decode cX12_waysFrom 103 = .ok (.iastore, 1) := by decide +kernel
theorem dX12_waysFrom_104 : decode cX12_waysFrom 104 = .ok (.aload_n 0, 1) := by decide +kernel
theorem dX12_waysFrom_105 : decode cX12_waysFrom 105 = .ok (.iload_n 1, 1) := by decide +kernel
theorem dX12_waysFrom_106 : decode cX12_waysFrom 106 = .ok (.iconst 1, 1) := by decide +kernel
theorem dX12_waysFrom_107 : decode cX12_waysFrom 107 = .ok (.iadd, 1) := by decide +kernel
theorem dX12_waysFrom_108 : decode cX12_waysFrom 108 = .ok (.iload_n 2, 1) := by decide +kernel
theorem dX12_waysFrom_109 : decode cX12_waysFrom 109 = .ok (.iload_n 3, 1) := by decide +kernel
theorem dX12_waysFrom_110 : decode cX12_waysFrom 110 = .ok (.iload 4, 2) := by decide +kernel
theorem dX12_waysFrom_112 : decode cX12_waysFrom 112 = .ok (.invokevirtual 239, 3) := by decide +kernel
theorem dX12_waysFrom_115 : decode cX12_waysFrom 115 = .ok (.return_, 1) := by decide +kernel
theorem dX12_looksForWay_0 : decode cX12_looksForWay 0 = .ok (.aload_n 0, 1) := by decide +kernel
theorem dX12_looksForWay_1 : decode cX12_looksForWay 1 = .ok (.invokevirtual 243, 3) := by decide +kernel
theorem dX12_looksForWay_4 : decode cX12_looksForWay 4 = .ok (.aload_n 0, 1) := by decide +kernel
theorem dX12_looksForWay_5 : decode cX12_looksForWay 5 = .ok (.iload_n 1, 1) := by decide +kernel
theorem dX12_looksForWay_6 : decode cX12_looksForWay 6 = .ok (.putfield 226, 3) := by decide +kernel
theorem dX12_looksForWay_9 : decode cX12_looksForWay 9 = .ok (.aload_n 0, 1) := by decide +kernel
theorem dX12_looksForWay_10 : decode cX12_looksForWay 10 = .ok (.iconst (-1), 1) := by decide +kernel
theorem dX12_looksForWay_11 : decode cX12_looksForWay 11 = .ok (.putfield 229, 3) := by decide +kernel
theorem dX12_looksForWay_14 : decode cX12_looksForWay 14 = .ok (.aload_n 0, 1) := by decide +kernel
theorem dX12_looksForWay_15 : decode cX12_looksForWay 15 = .ok (.ldc 246, 2) := by decide +kernel
theorem dX12_looksForWay_17 : decode cX12_looksForWay 17 = .ok (.putfield 232, 3) := by decide +kernel
theorem dX12_looksForWay_20 : decode cX12_looksForWay 20 = .ok (.aload_n 0, 1) := by decide +kernel
theorem dX12_looksForWay_21 : decode cX12_looksForWay 21 = .ok (.iconst 0, 1) := by decide +kernel
theorem dX12_looksForWay_22 : decode cX12_looksForWay 22 = .ok (.iconst 0, 1) := by decide +kernel
theorem dX12_looksForWay_23 : decode cX12_looksForWay 23 = .ok (.iconst 0, 1) := by decide +kernel
theorem dX12_looksForWay_24 : decode cX12_looksForWay 24 = .ok (.iconst 0, 1) := by decide +kernel
theorem dX12_looksForWay_25 : decode cX12_looksForWay 25 = .ok (.invokevirtual 239, 3) := by decide +kernel
theorem dX12_looksForWay_28 : decode cX12_looksForWay 28 = .ok (.return_, 1) := by decide +kernel
theorem dX12_most_0 : decode cX12_most 0 = .ok (.iload_n 1, 1) := by decide +kernel
theorem dX12_most_1 : decode cX12_most 1 = .ok (.iconst 0, 1) := by decide +kernel
theorem dX12_most_2 : decode cX12_most 2 = .ok (.iconst 1, 1) := by decide +kernel
theorem dX12_most_3 : decode cX12_most 3 = .ok (.invokestatic 56, 3) := by decide +kernel
theorem dX12_most_6 : decode cX12_most 6 = .ok (.ifCond .ne 18, 3) := by decide +kernel
theorem dX12_most_9 : decode cX12_most 9 = .ok (.aload_n 0, 1) := by decide +kernel
theorem dX12_most_10 : decode cX12_most 10 = .ok (.iload_n 1, 1) := by decide +kernel
theorem dX12_most_11 : decode cX12_most 11 = .ok (.bipush 10, 2) := by decide +kernel
theorem dX12_most_13 : decode cX12_most 13 = .ok (.isub, 1) := by decide +kernel
theorem dX12_most_14 : decode cX12_most 14 = .ok (.invokevirtual 189, 3) := by decide +kernel
theorem dX12_most_17 : decode cX12_most 17 = .ok (.ifCond .ne 7, 3) := by decide +kernel
theorem dX12_most_20 : decode cX12_most 20 = .ok (.sipush (-10001), 3) := by decide +kernel
theorem dX12_most_23 : decode cX12_most 23 = .ok (.ireturn, 1) := by decide +kernel
theorem dX12_most_24 : decode cX12_most 24 = .ok (.aload_n 0, 1) := by decide +kernel
theorem dX12_most_25 : decode cX12_most 25 = .ok (.iconst 1, 1) := by decide +kernel
theorem dX12_most_26 : decode cX12_most 26 = .ok (.invokevirtual 247, 3) := by decide +kernel
theorem dX12_most_29 : decode cX12_most 29 = .ok (.iload_n 1, 1) := by decide +kernel
theorem dX12_most_30 : decode cX12_most 30 = .ok (.ifCond .ne 10, 3) := by decide +kernel
theorem dX12_most_33 : decode cX12_most 33 = .ok (.aload_n 0, 1) := by decide +kernel
theorem dX12_most_34 : decode cX12_most 34 = .ok (.getfield 229, 3) := by decide +kernel
theorem dX12_most_37 : decode cX12_most 37 = .ok (.goto 27, 3) := by decide +kernel
theorem dX12_most_40 : decode cX12_most 40 = .ok (.iload_n 1, 1) := by decide +kernel
theorem dX12_most_41 : decode cX12_most 41 = .ok (.iconst 1, 1) := by decide +kernel
theorem dX12_most_42 : decode cX12_most 42 = .ok (.if_icmp .ne 10, 3) := by decide +kernel
theorem dX12_most_45 : decode cX12_most 45 = .ok (.aload_n 0, 1) := by decide +kernel
theorem dX12_most_46 : decode cX12_most 46 = .ok (.getfield 232, 3) := by decide +kernel
theorem dX12_most_49 : decode cX12_most 49 = .ok (.goto 15, 3) := by decide +kernel
theorem dX12_most_52 : decode cX12_most 52 = .ok (.aload_n 0, 1) := by decide +kernel
theorem dX12_most_53 : decode cX12_most 53 = .ok (.getfield 37, 3) := by decide +kernel
theorem dX12_most_56 : decode cX12_most 56 = .ok (.iload_n 1, 1) := by decide +kernel
theorem dX12_most_57 : decode cX12_most 57 = .ok (.bipush 10, 2) := by decide +kernel
theorem dX12_most_59 : decode cX12_most 59 = .ok (.isub, 1) := by decide +kernel
theorem dX12_most_60 : decode cX12_most 60 = .ok (.iaload, 1) := by decide +kernel
theorem dX12_most_61 : decode cX12_most 61 = .ok (.invokestatic 193, 3) := by decide +kernel
theorem dX12_most_64 : decode cX12_most 64 = .ok (.ireturn, 1) := by decide +kernel
theorem dX12_best_0 : decode cX12_best 0 = .ok (.iload_n 1, 1) := by decide +kernel
theorem dX12_best_1 : decode cX12_best 1 = .ok (.ifCond .eq 18, 3) := by decide +kernel
theorem dX12_best_4 : decode cX12_best 4 = .ok (.aload_n 0, 1) := by decide +kernel
theorem dX12_best_5 : decode cX12_best 5 = .ok (.iload_n 1, 1) := by decide +kernel
theorem dX12_best_6 : decode cX12_best 6 = .ok (.bipush 10, 2) := by decide +kernel
theorem dX12_best_8 : decode cX12_best 8 = .ok (.isub, 1) := by decide +kernel
theorem dX12_best_9 : decode cX12_best 9 = .ok (.invokevirtual 189, 3) := by decide +kernel
theorem dX12_best_12 : decode cX12_best 12 = .ok (.ifCond .ne 7, 3) := by decide +kernel
theorem dX12_best_15 : decode cX12_best 15 = .ok (.sipush (-10001), 3) := by decide +kernel
theorem dX12_best_18 : decode cX12_best 18 = .ok (.ireturn, 1) := by decide +kernel
theorem dX12_best_19 : decode cX12_best 19 = .ok (.aload_n 0, 1) := by decide +kernel
theorem dX12_best_20 : decode cX12_best 20 = .ok (.iconst 0, 1) := by decide +kernel
theorem dX12_best_21 : decode cX12_best 21 = .ok (.invokevirtual 247, 3) := by decide +kernel
theorem dX12_best_24 : decode cX12_best 24 = .ok (.iload_n 1, 1) := by decide +kernel
theorem dX12_best_25 : decode cX12_best 25 = .ok (.ifCond .ne 10, 3) := by decide +kernel
theorem dX12_best_28 : decode cX12_best 28 = .ok (.aload_n 0, 1) := by decide +kernel
theorem dX12_best_29 : decode cX12_best 29 = .ok (.getfield 232, 3) := by decide +kernel
theorem dX12_best_32 : decode cX12_best 32 = .ok (.goto 15, 3) := by decide +kernel
theorem dX12_best_35 : decode cX12_best 35 = .ok (.aload_n 0, 1) := by decide +kernel
theorem dX12_best_36 : decode cX12_best 36 = .ok (.getfield 37, 3) := by decide +kernel
theorem dX12_best_39 : decode cX12_best 39 = .ok (.iload_n 1, 1) := by decide +kernel
theorem dX12_best_40 : decode cX12_best 40 = .ok (.bipush 10, 2) := by decide +kernel
theorem dX12_best_42 : decode cX12_best 42 = .ok (.isub, 1) := by decide +kernel
theorem dX12_best_43 : decode cX12_best 43 = .ok (.iaload, 1) := by decide +kernel
theorem dX12_best_44 : decode cX12_best 44 = .ok (.invokestatic 193, 3) := by decide +kernel
theorem dX12_best_47 : decode cX12_best 47 = .ok (.ireturn, 1) := by decide +kernel
theorem dX12_allFrom_0 : decode cX12_allFrom 0 = .ok (.iload_n 1, 1) := by decide +kernel
theorem dX12_allFrom_1 : decode cX12_allFrom 1 = .ok (.aload_n 0, 1) := by decide +kernel
theorem dX12_allFrom_2 : decode cX12_allFrom 2 = .ok (.getfield 9, 3) := by decide +kernel
theorem dX12_allFrom_5 : decode cX12_allFrom 5 = .ok (.iconst 0, 1) := by decide +kernel
theorem dX12_allFrom_6 : decode cX12_allFrom 6 = .ok (.iaload, 1) := by decide +kernel
theorem dX12_allFrom_7 : decode cX12_allFrom 7 = .ok (.if_icmp .ne 5, 3) := by decide +kernel
theorem dX12_allFrom_10 : decode cX12_allFrom 10 = .ok (.iconst 1, 1) := by decide +kernel
theorem dX12_allFrom_11 : decode cX12_allFrom 11 = .ok (.ireturn, 1) := by decide +kernel
theorem dX12_allFrom_12 : decode cX12_allFrom 12 = .ok (.iconst 0, 1) := by decide +kernel
theorem dX12_allFrom_13 : decode cX12_allFrom 13 = .ok (.istore 4, 2) := by decide +kernel
theorem dX12_allFrom_15 : decode cX12_allFrom 15 = .ok (.iload 4, 2) := by decide +kernel
theorem dX12_allFrom_17 : decode cX12_allFrom 17 = .ok (.iconst 4, 1) := by decide +kernel
theorem dX12_allFrom_18 : decode cX12_allFrom 18 = .ok (.if_icmp .ge 68, 3) := by decide +kernel
theorem dX12_allFrom_21 : decode cX12_allFrom 21 = .ok (.iconst 4, 1) := by decide +kernel
theorem dX12_allFrom_22 : decode cX12_allFrom 22 = .ok (.iload_n 1, 1) := by decide +kernel
theorem dX12_allFrom_23 : decode cX12_allFrom 23 = .ok (.imul, 1) := by decide +kernel
theorem dX12_allFrom_24 : decode cX12_allFrom 24 = .ok (.iload 4, 2) := by decide +kernel
theorem dX12_allFrom_26 : decode cX12_allFrom 26 = .ok (.iadd, 1) := by decide +kernel
theorem dX12_allFrom_27 : decode cX12_allFrom 27 = .ok (.istore 5, 2) := by decide +kernel
theorem dX12_allFrom_29 : decode cX12_allFrom 29 = .ok (.iload_n 3, 1) := by decide +kernel
theorem dX12_allFrom_30 : decode cX12_allFrom 30 = .ok (.iload 4, 2) := by decide +kernel
theorem dX12_allFrom_32 : decode cX12_allFrom 32 = .ok (.ishr, 1) := by decide +kernel
theorem dX12_allFrom_33 : decode cX12_allFrom 33 = .ok (.iconst 1, 1) := by decide +kernel
theorem dX12_allFrom_34 : decode cX12_allFrom 34 = .ok (.iand, 1) := by decide +kernel
theorem dX12_allFrom_35 : decode cX12_allFrom 35 = .ok (.iconst 1, 1) := by decide +kernel
theorem dX12_allFrom_36 : decode cX12_allFrom 36 = .ok (.if_icmp .ne 44, 3) := by decide +kernel
theorem dX12_allFrom_39 : decode cX12_allFrom 39 = .ok (.aload_n 0, 1) := by decide +kernel
theorem dX12_allFrom_40 : decode cX12_allFrom 40 = .ok (.getfield 25, 3) := by decide +kernel
theorem dX12_allFrom_43 : decode cX12_allFrom 43 = .ok (.iload 5, 2) := by decide +kernel
theorem dX12_allFrom_45 : decode cX12_allFrom 45 = .ok (.baload, 1) := by decide +kernel
theorem dX12_allFrom_46 : decode cX12_allFrom 46 = .ok (.ifCond .eq 34, 3) := by decide +kernel
theorem dX12_allFrom_49 : decode cX12_allFrom 49 = .ok (.aload_n 0, 1) := by decide +kernel
theorem dX12_allFrom_50 : decode cX12_allFrom 50 = .ok (.getfield 31, 3) := by decide +kernel
theorem dX12_allFrom_53 : decode cX12_allFrom 53 = .ok (.iload 5, 2) := by decide +kernel
theorem dX12_allFrom_55 : decode cX12_allFrom 55 = .ok (.iaload, 1) := by decide +kernel
theorem dX12_allFrom_56 : decode cX12_allFrom 56 = .ok (.iload_n 2, 1) := by decide +kernel
theorem dX12_allFrom_57 : decode cX12_allFrom 57 = .ok (.iand, 1) := by decide +kernel
theorem dX12_allFrom_58 : decode cX12_allFrom 58 = .ok (.ifCond .ne 22, 3) := by decide +kernel
theorem dX12_allFrom_61 : decode cX12_allFrom 61 = .ok (.aload_n 0, 1) := by decide +kernel
theorem dX12_allFrom_62 : decode cX12_allFrom 62 = .ok (.iload_n 1, 1) := by decide +kernel
theorem dX12_allFrom_63 : decode cX12_allFrom 63 = .ok (.iconst 1, 1) := by decide +kernel
theorem dX12_allFrom_64 : decode cX12_allFrom 64 = .ok (.iadd, 1) := by decide +kernel
theorem dX12_allFrom_65 : decode cX12_allFrom 65 = .ok (.iload_n 2, 1) := by decide +kernel
theorem dX12_allFrom_66 : decode cX12_allFrom 66 = .ok (.iconst 1, 1) := by decide +kernel
theorem dX12_allFrom_67 : decode cX12_allFrom 67 = .ok (.iload 5, 2) := by decide +kernel
theorem dX12_allFrom_69 : decode cX12_allFrom 69 = .ok (.ishl, 1) := by decide +kernel
theorem dX12_allFrom_70 : decode cX12_allFrom 70 = .ok (.ior, 1) := by decide +kernel
theorem dX12_allFrom_71 : decode cX12_allFrom 71 = .ok (.iload_n 3, 1) := by decide +kernel
theorem dX12_allFrom_72 : decode cX12_allFrom 72 = .ok (.invokevirtual 251, 3) := by decide +kernel
theorem dX12_allFrom_75 : decode cX12_allFrom 75 = .ok (.ifCond .eq 5, 3) := by decide +kernel
theorem dX12_allFrom_78 : decode cX12_allFrom 78 = .ok (.iconst 1, 1) := by decide +kernel
theorem dX12_allFrom_79 : decode cX12_allFrom 79 = .ok (.ireturn, 1) := by decide +kernel
theorem dX12_allFrom_80 : decode cX12_allFrom 80 = .ok (.iinc 4 1, 3) := by decide +kernel
theorem dX12_allFrom_83 : decode cX12_allFrom 83 = .ok (.goto (-68), 3) := by decide +kernel
theorem dX12_allFrom_86 : decode cX12_allFrom 86 = .ok (.iconst 0, 1) := by decide +kernel
theorem dX12_allFrom_87 : decode cX12_allFrom 87 = .ok (.ireturn, 1) := by decide +kernel
theorem dX12_all_0 : decode cX12_all 0 = .ok (.iload_n 1, 1) := by decide +kernel
theorem dX12_all_1 : decode cX12_all 1 = .ok (.iconst 1, 1) := by decide +kernel
theorem dX12_all_2 : decode cX12_all 2 = .ok (.bipush 15, 2) := by decide +kernel
theorem dX12_all_4 : decode cX12_all 4 = .ok (.invokestatic 56, 3) := by decide +kernel
theorem dX12_all_7 : decode cX12_all 7 = .ok (.ifCond .ne 6, 3) := by decide +kernel
theorem dX12_all_10 : decode cX12_all 10 = .ok (.bipush (-2), 2) := by decide +kernel
theorem dX12_all_12 : decode cX12_all 12 = .ok (.ireturn, 1) := by decide +kernel
theorem dX12_all_13 : decode cX12_all 13 = .ok (.aload_n 0, 1) := by decide +kernel
theorem dX12_all_14 : decode cX12_all 14 = .ok (.aload_n 0, 1) := by decide +kernel
theorem dX12_all_15 : decode cX12_all 15 = .ok (.invokevirtual 164, 3) := by decide +kernel
theorem dX12_all_18 : decode cX12_all 18 = .ok (.invokevirtual 217, 3) := by decide +kernel
theorem dX12_all_21 : decode cX12_all 21 = .ok (.aload_n 0, 1) := by decide +kernel
theorem dX12_all_22 : decode cX12_all 22 = .ok (.invokevirtual 223, 3) := by decide +kernel
theorem dX12_all_25 : decode cX12_all 25 = .ok (.aload_n 0, 1) := by decide +kernel
theorem dX12_all_26 : decode cX12_all 26 = .ok (.iconst 0, 1) := by decide +kernel
theorem dX12_all_27 : decode cX12_all 27 = .ok (.iconst 0, 1) := by decide +kernel
theorem dX12_all_28 : decode cX12_all 28 = .ok (.iload_n 1, 1) := by decide +kernel
theorem dX12_all_29 : decode cX12_all 29 = .ok (.invokevirtual 251, 3) := by decide +kernel
theorem dX12_all_32 : decode cX12_all 32 = .ok (.ifCond .eq 7, 3) := by decide +kernel
theorem dX12_all_35 : decode cX12_all 35 = .ok (.iconst 1, 1) := by decide +kernel
theorem dX12_all_36 : decode cX12_all 36 = .ok (.goto 4, 3) := by decide +kernel
theorem dX12_all_39 : decode cX12_all 39 = .ok (.iconst 0, 1) := by decide +kernel
theorem dX12_all_40 : decode cX12_all 40 = .ok (.ireturn, 1) := by decide +kernel
theorem dX12_room_0 : decode cX12_room 0 = .ok (.aload_n 0, 1) := by decide +kernel
theorem dX12_room_1 : decode cX12_room 1 = .ok (.invokevirtual 223, 3) := by decide +kernel
theorem dX12_room_4 : decode cX12_room 4 = .ok (.bipush 10, 2) := by decide +kernel
theorem dX12_room_6 : decode cX12_room 6 = .ok (.istore_n 1, 1) := by decide +kernel
theorem dX12_room_7 : decode cX12_room 7 = .ok (.iload_n 1, 1) := by decide +kernel
theorem dX12_room_8 : decode cX12_room 8 = .ok (.bipush 30, 2) := by decide +kernel
theorem dX12_room_10 : decode cX12_room 10 = .ok (.if_icmp .gt 27, 3) := by decide +kernel
theorem dX12_room_13 : decode cX12_room 13 = .ok (.aload_n 0, 1) := by decide +kernel
theorem dX12_room_14 : decode cX12_room 14 = .ok (.iload_n 1, 1) := by decide +kernel
theorem dX12_room_15 : decode cX12_room 15 = .ok (.invokevirtual 217, 3) := by decide +kernel
theorem dX12_room_18 : decode cX12_room 18 = .ok (.aload_n 0, 1) := by decide +kernel
theorem dX12_room_19 : decode cX12_room 19 = .ok (.iconst 0, 1) := by decide +kernel
theorem dX12_room_20 : decode cX12_room 20 = .ok (.iconst 0, 1) := by decide +kernel
theorem dX12_room_21 : decode cX12_room 21 = .ok (.bipush 15, 2) := by decide +kernel
theorem dX12_room_23 : decode cX12_room 23 = .ok (.invokevirtual 251, 3) := by decide +kernel
theorem dX12_room_26 : decode cX12_room 26 = .ok (.ifCond .eq 5, 3) := by decide +kernel
theorem dX12_room_29 : decode cX12_room 29 = .ok (.iload_n 1, 1) := by decide +kernel
theorem dX12_room_30 : decode cX12_room 30 = .ok (.ireturn, 1) := by decide +kernel
theorem dX12_room_31 : decode cX12_room 31 = .ok (.iinc 1 1, 3) := by decide +kernel
theorem dX12_room_34 : decode cX12_room 34 = .ok (.goto (-27), 3) := by decide +kernel
theorem dX12_room_37 : decode cX12_room 37 = .ok (.bipush (-5), 2) := by decide +kernel
theorem dX12_room_39 : decode cX12_room 39 = .ok (.ireturn, 1) := by decide +kernel
theorem dX12_movesFrom_0 : decode cX12_movesFrom 0 = .ok (.iload_n 3, 1) := by decide +kernel
theorem dX12_movesFrom_1 : decode cX12_movesFrom 1 = .ok (.aload_n 0, 1) := by decide +kernel
theorem dX12_movesFrom_2 : decode cX12_movesFrom 2 = .ok (.getfield 254, 3) := by decide +kernel
theorem dX12_movesFrom_5 : decode cX12_movesFrom 5 = .ok (.if_icmp .lt 4, 3) := by decide +kernel
theorem dX12_movesFrom_8 : decode cX12_movesFrom 8 = .ok (.return_, 1) := by decide +kernel
theorem dX12_movesFrom_9 : decode cX12_movesFrom 9 = .ok (.iload_n 1, 1) := by decide +kernel
theorem dX12_movesFrom_10 : decode cX12_movesFrom 10 = .ok (.aload_n 0, 1) := by decide +kernel
theorem dX12_movesFrom_11 : decode cX12_movesFrom 11 = .ok (.getfield 9, 3) := by decide +kernel
theorem dX12_movesFrom_14 : decode cX12_movesFrom 14 = .ok (.iconst 0, 1) := by decide +kernel
theorem dX12_movesFrom_15 : decode cX12_movesFrom 15 = .ok (.iaload, 1) := by decide +kernel
theorem dX12_movesFrom_16 : decode cX12_movesFrom 16 = .ok (.if_icmp .ne 9, 3) := by decide +kernel
theorem dX12_movesFrom_19 : decode cX12_movesFrom 19 = .ok (.aload_n 0, 1) := by decide +kernel
theorem dX12_movesFrom_20 : decode cX12_movesFrom 20 = .ok (.iload_n 3, 1) := by decide +kernel
theorem dX12_movesFrom_21 : decode cX12_movesFrom 21 = .ok (.putfield 254, 3) := by decide +kernel
theorem dX12_movesFrom_24 : decode cX12_movesFrom 24 = .ok (.return_, 1) := by decide +kernel
theorem dX12_movesFrom_25 : decode cX12_movesFrom 25 = .ok (.iload_n 1, 1) := by decide +kernel
theorem dX12_movesFrom_26 : decode cX12_movesFrom 26 = .ok (.iload 4, 2) := by decide +kernel
theorem dX12_movesFrom_28 : decode cX12_movesFrom 28 = .ok (.if_icmp .eq 28, 3) := by decide +kernel
theorem dX12_movesFrom_31 : decode cX12_movesFrom 31 = .ok (.aload_n 0, 1) := by decide +kernel
theorem dX12_movesFrom_32 : decode cX12_movesFrom 32 = .ok (.getfield 9, 3) := by decide +kernel
theorem dX12_movesFrom_35 : decode cX12_movesFrom 35 = .ok (.bipush 42, 2) := by decide +kernel
theorem dX12_movesFrom_37 : decode cX12_movesFrom 37 = .ok (.iload_n 1, 1) := by decide +kernel
theorem dX12_movesFrom_38 : decode cX12_movesFrom 38 = .ok (.iadd, 1) := by decide +kernel
theorem dX12_movesFrom_39 : decode cX12_movesFrom 39 = .ok (.iaload, 1) := by decide +kernel
theorem dX12_movesFrom_40 : decode cX12_movesFrom 40 = .ok (.iconst 4, 1) := by decide +kernel
theorem dX12_movesFrom_41 : decode cX12_movesFrom 41 = .ok (.if_icmp .ne 15, 3) := by decide +kernel
theorem dX12_movesFrom_44 : decode cX12_movesFrom 44 = .ok (.aload_n 0, 1) := by decide +kernel
theorem dX12_movesFrom_45 : decode cX12_movesFrom 45 = .ok (.iload_n 1, 1) := by decide +kernel
theorem dX12_movesFrom_46 : decode cX12_movesFrom 46 = .ok (.iconst 1, 1) := by decide +kernel
theorem dX12_movesFrom_47 : decode cX12_movesFrom 47 = .ok (.iadd, 1) := by decide +kernel
theorem dX12_movesFrom_48 : decode cX12_movesFrom 48 = .ok (.iload_n 2, 1) := by decide +kernel
theorem dX12_movesFrom_49 : decode cX12_movesFrom 49 = .ok (.iload_n 3, 1) := by decide +kernel
theorem dX12_movesFrom_50 : decode cX12_movesFrom 50 = .ok (.iload 4, 2) := by decide +kernel
theorem dX12_movesFrom_52 : decode cX12_movesFrom 52 = .ok (.invokevirtual 257, 3) := by decide +kernel
theorem dX12_movesFrom_55 : decode cX12_movesFrom 55 = .ok (.return_, 1) := by decide +kernel
theorem dX12_movesFrom_56 : decode cX12_movesFrom 56 = .ok (.iconst 0, 1) := by decide +kernel
theorem dX12_movesFrom_57 : decode cX12_movesFrom 57 = .ok (.istore 5, 2) := by decide +kernel
theorem dX12_movesFrom_59 : decode cX12_movesFrom 59 = .ok (.iload 5, 2) := by decide +kernel
theorem dX12_movesFrom_61 : decode cX12_movesFrom 61 = .ok (.iconst 4, 1) := by decide +kernel
theorem dX12_movesFrom_62 : decode cX12_movesFrom 62 = .ok (.if_icmp .ge 81, 3) := by decide +kernel
theorem dX12_movesFrom_65 : decode cX12_movesFrom 65 = .ok (.iconst 4, 1) := by decide +kernel
theorem dX12_movesFrom_66 : decode cX12_movesFrom 66 = .ok (.iload_n 1, 1) := by decide +kernel
theorem dX12_movesFrom_67 : decode cX12_movesFrom 67 = .ok (.imul, 1) := by decide +kernel
theorem dX12_movesFrom_68 : decode cX12_movesFrom 68 = .ok (.iload 5, 2) := by decide +kernel
theorem dX12_movesFrom_70 : decode cX12_movesFrom 70 = .ok (.iadd, 1) := by decide +kernel
theorem dX12_movesFrom_71 : decode cX12_movesFrom 71 = .ok (.istore 6, 2) := by decide +kernel
theorem dX12_movesFrom_73 : decode cX12_movesFrom 73 = .ok (.aload_n 0, 1) := by decide +kernel
theorem dX12_movesFrom_74 : decode cX12_movesFrom 74 = .ok (.getfield 25, 3) := by decide +kernel
theorem dX12_movesFrom_77 : decode cX12_movesFrom 77 = .ok (.iload 6, 2) := by decide +kernel
theorem dX12_movesFrom_79 : decode cX12_movesFrom 79 = .ok (.baload, 1) := by decide +kernel
theorem dX12_movesFrom_80 : decode cX12_movesFrom 80 = .ok (.ifCond .eq 57, 3) := by decide +kernel
theorem dX12_movesFrom_83 : decode cX12_movesFrom 83 = .ok (.aload_n 0, 1) := by decide +kernel
theorem dX12_movesFrom_84 : decode cX12_movesFrom 84 = .ok (.getfield 31, 3) := by decide +kernel
theorem dX12_movesFrom_87 : decode cX12_movesFrom 87 = .ok (.iload 6, 2) := by decide +kernel
theorem dX12_movesFrom_89 : decode cX12_movesFrom 89 = .ok (.iaload, 1) := by decide +kernel
theorem dX12_movesFrom_90 : decode cX12_movesFrom 90 = .ok (.iload_n 2, 1) := by decide +kernel
theorem dX12_movesFrom_91 : decode cX12_movesFrom 91 = .ok (.iand, 1) := by decide +kernel
theorem dX12_movesFrom_92 : decode cX12_movesFrom 92 = .ok (.ifCond .ne 45, 3) := by decide +kernel
theorem dX12_movesFrom_95 : decode cX12_movesFrom 95 = .ok (.aload_n 0, 1) := by decide +kernel
theorem dX12_movesFrom_96 : decode cX12_movesFrom 96 = .ok (.iload_n 1, 1) := by decide +kernel
theorem dX12_movesFrom_97 : decode cX12_movesFrom 97 = .ok (.iconst 1, 1) := by decide +kernel
theorem dX12_movesFrom_98 : decode cX12_movesFrom 98 = .ok (.iadd, 1) := by decide +kernel
theorem dX12_movesFrom_99 : decode cX12_movesFrom 99 = .ok (.iload_n 2, 1) := by decide +kernel
theorem dX12_movesFrom_100 : decode cX12_movesFrom 100 = .ok (.iconst 1, 1) := by decide +kernel
theorem dX12_movesFrom_101 : decode cX12_movesFrom 101 = .ok (.iload 6, 2) := by decide +kernel
theorem dX12_movesFrom_103 : decode cX12_movesFrom 103 = .ok (.ishl, 1) := by decide +kernel
theorem dX12_movesFrom_104 : decode cX12_movesFrom 104 = .ok (.ior, 1) := by decide +kernel
theorem dX12_movesFrom_105 : decode cX12_movesFrom 105 = .ok (.iload_n 3, 1) := by decide +kernel
theorem dX12_movesFrom_106 : decode cX12_movesFrom 106 = .ok (.iload_n 1, 1) := by decide +kernel
theorem dX12_movesFrom_107 : decode cX12_movesFrom 107 = .ok (.iload 4, 2) := by decide +kernel
theorem dX12_movesFrom_109 : decode cX12_movesFrom 109 = .ok (.if_icmp .eq 17, 3) := by decide +kernel
theorem dX12_movesFrom_112 : decode cX12_movesFrom 112 = .ok (.aload_n 0, 1) := by decide +kernel
theorem dX12_movesFrom_113 : decode cX12_movesFrom 113 = .ok (.getfield 9, 3) := by decide +kernel
theorem dX12_movesFrom_116 : decode cX12_movesFrom 116 = .ok (.bipush 42, 2) := by decide +kernel
theorem dX12_movesFrom_118 : decode cX12_movesFrom 118 = .ok (.iload_n 1, 1) := by decide +kernel
theorem dX12_movesFrom_119 : decode cX12_movesFrom 119 = .ok (.iadd, 1) := by decide +kernel
theorem dX12_movesFrom_120 : decode cX12_movesFrom 120 = .ok (.iaload, 1) := by decide +kernel
theorem dX12_movesFrom_121 : decode cX12_movesFrom 121 = .ok (.iload 5, 2) := by decide +kernel
theorem dX12_movesFrom_123 : decode cX12_movesFrom 123 = .ok (.if_icmp .ne 7, 3) := by decide +kernel
theorem dX12_movesFrom_126 : decode cX12_movesFrom 126 = .ok (.iconst 0, 1) := by decide +kernel
theorem dX12_movesFrom_127 : decode cX12_movesFrom 127 = .ok (.goto 4, 3) := by decide +kernel
theorem dX12_movesFrom_130 : decode cX12_movesFrom 130 = .ok (.iconst 1, 1) := by decide +kernel
theorem dX12_movesFrom_131 : decode cX12_movesFrom 131 = .ok (.iadd, 1) := by decide +kernel
theorem dX12_movesFrom_132 : decode cX12_movesFrom 132 = .ok (.iload 4, 2) := by decide +kernel
theorem dX12_movesFrom_134 : decode cX12_movesFrom 134 = .ok (.invokevirtual 257, 3) := by decide +kernel
theorem dX12_movesFrom_137 : decode cX12_movesFrom 137 = .ok (.iinc 5 1, 3) := by decide +kernel
theorem dX12_movesFrom_140 : decode cX12_movesFrom 140 = .ok (.goto (-81), 3) := by decide +kernel
theorem dX12_movesFrom_143 : decode cX12_movesFrom 143 = .ok (.return_, 1) := by decide +kernel
theorem dX12_moved_0 : decode cX12_moved 0 = .ok (.aload_n 0, 1) := by decide +kernel
theorem dX12_moved_1 : decode cX12_moved 1 = .ok (.iload_n 1, 1) := by decide +kernel
theorem dX12_moved_2 : decode cX12_moved 2 = .ok (.invokevirtual 189, 3) := by decide +kernel
theorem dX12_moved_5 : decode cX12_moved 5 = .ok (.ifCond .ne 5, 3) := by decide +kernel
theorem dX12_moved_8 : decode cX12_moved 8 = .ok (.iconst (-1), 1) := by decide +kernel
theorem dX12_moved_9 : decode cX12_moved 9 = .ok (.ireturn, 1) := by decide +kernel
theorem dX12_moved_10 : decode cX12_moved 10 = .ok (.aload_n 0, 1) := by decide +kernel
theorem dX12_moved_11 : decode cX12_moved 11 = .ok (.getfield 9, 3) := by decide +kernel
theorem dX12_moved_14 : decode cX12_moved 14 = .ok (.bipush 42, 2) := by decide +kernel
theorem dX12_moved_16 : decode cX12_moved 16 = .ok (.iload_n 1, 1) := by decide +kernel
theorem dX12_moved_17 : decode cX12_moved 17 = .ok (.iadd, 1) := by decide +kernel
theorem dX12_moved_18 : decode cX12_moved 18 = .ok (.iaload, 1) := by decide +kernel
theorem dX12_moved_19 : decode cX12_moved 19 = .ok (.iconst 4, 1) := by decide +kernel
theorem dX12_moved_20 : decode cX12_moved 20 = .ok (.if_icmp .eq 6, 3) := by decide +kernel
theorem dX12_moved_23 : decode cX12_moved 23 = .ok (.bipush (-5), 2) := by decide +kernel
theorem dX12_moved_25 : decode cX12_moved 25 = .ok (.ireturn, 1) := by decide +kernel
theorem dX12_moved_26 : decode cX12_moved 26 = .ok (.aload_n 0, 1) := by decide +kernel
theorem dX12_moved_27 : decode cX12_moved 27 = .ok (.aload_n 0, 1) := by decide +kernel
theorem dX12_moved_28 : decode cX12_moved 28 = .ok (.invokevirtual 164, 3) := by decide +kernel
theorem dX12_moved_31 : decode cX12_moved 31 = .ok (.invokevirtual 217, 3) := by decide +kernel
theorem dX12_moved_34 : decode cX12_moved 34 = .ok (.aload_n 0, 1) := by decide +kernel
theorem dX12_moved_35 : decode cX12_moved 35 = .ok (.invokevirtual 223, 3) := by decide +kernel
theorem dX12_moved_38 : decode cX12_moved 38 = .ok (.aload_n 0, 1) := by decide +kernel
theorem dX12_moved_39 : decode cX12_moved 39 = .ok (.bipush 99, 2) := by decide +kernel
theorem dX12_moved_41 : decode cX12_moved 41 = .ok (.putfield 254, 3) := by decide +kernel
theorem dX12_moved_44 : decode cX12_moved 44 = .ok (.aload_n 0, 1) := by decide +kernel
theorem dX12_moved_45 : decode cX12_moved 45 = .ok (.iconst 0, 1) := by decide +kernel
theorem dX12_moved_46 : decode cX12_moved 46 = .ok (.iconst 0, 1) := by decide +kernel
theorem dX12_moved_47 : decode cX12_moved 47 = .ok (.iconst 0, 1) := by decide +kernel
theorem dX12_moved_48 : decode cX12_moved 48 = .ok (.iload_n 1, 1) := by decide +kernel
theorem dX12_moved_49 : decode cX12_moved 49 = .ok (.invokevirtual 257, 3) := by decide +kernel
theorem dX12_moved_52 : decode cX12_moved 52 = .ok (.aload_n 0, 1) := by decide +kernel
theorem dX12_moved_53 : decode cX12_moved 53 = .ok (.getfield 254, 3) := by decide +kernel
theorem dX12_moved_56 : decode cX12_moved 56 = .ok (.bipush 99, 2) := by decide +kernel
theorem dX12_moved_58 : decode cX12_moved 58 = .ok (.if_icmp .ne 8, 3) := by decide +kernel
theorem dX12_moved_61 : decode cX12_moved 61 = .ok (.bipush (-5), 2) := by decide +kernel
theorem dX12_moved_63 : decode cX12_moved 63 = .ok (.goto 7, 3) := by decide +kernel
theorem dX12_moved_66 : decode cX12_moved 66 = .ok (.aload_n 0, 1) := by decide +kernel
theorem dX12_moved_67 : decode cX12_moved 67 = .ok (.getfield 254, 3) := by decide +kernel
theorem dX12_moved_70 : decode cX12_moved 70 = .ok (.ireturn, 1) := by decide +kernel
theorem dX12_takes_0 : decode cX12_takes 0 = .ok (.iconst 4, 1) := by decide +kernel
theorem dX12_takes_1 : decode cX12_takes 1 = .ok (.istore_n 3, 1) := by decide +kernel
theorem dX12_takes_2 : decode cX12_takes 2 = .ok (.iconst 0, 1) := by decide +kernel
theorem dX12_takes_3 : decode cX12_takes 3 = .ok (.istore 4, 2) := by decide +kernel
theorem dX12_takes_5 : decode cX12_takes 5 = .ok (.iload 4, 2) := by decide +kernel
theorem dX12_takes_7 : decode cX12_takes 7 = .ok (.iconst 4, 1) := by decide +kernel
theorem dX12_takes_8 : decode cX12_takes 8 = .ok (.if_icmp .ge 83, 3) := by decide +kernel
theorem dX12_takes_11 : decode cX12_takes 11 = .ok (.iconst 4, 1) := by decide +kernel
theorem dX12_takes_12 : decode cX12_takes 12 = .ok (.iload_n 1, 1) := by decide +kernel
theorem dX12_takes_13 : decode cX12_takes 13 = .ok (.imul, 1) := by decide +kernel
theorem dX12_takes_14 : decode cX12_takes 14 = .ok (.iload 4, 2) := by decide +kernel
theorem dX12_takes_16 : decode cX12_takes 16 = .ok (.iadd, 1) := by decide +kernel
theorem dX12_takes_17 : decode cX12_takes 17 = .ok (.istore 5, 2) := by decide +kernel
theorem dX12_takes_19 : decode cX12_takes 19 = .ok (.aload_n 0, 1) := by decide +kernel
theorem dX12_takes_20 : decode cX12_takes 20 = .ok (.getfield 25, 3) := by decide +kernel
theorem dX12_takes_23 : decode cX12_takes 23 = .ok (.iload 5, 2) := by decide +kernel
theorem dX12_takes_25 : decode cX12_takes 25 = .ok (.baload, 1) := by decide +kernel
theorem dX12_takes_26 : decode cX12_takes 26 = .ok (.ifCond .eq 19, 3) := by decide +kernel
theorem dX12_takes_29 : decode cX12_takes 29 = .ok (.aload_n 0, 1) := by decide +kernel
theorem dX12_takes_30 : decode cX12_takes 30 = .ok (.getfield 31, 3) := by decide +kernel
theorem dX12_takes_33 : decode cX12_takes 33 = .ok (.iload 5, 2) := by decide +kernel
theorem dX12_takes_35 : decode cX12_takes 35 = .ok (.iaload, 1) := by decide +kernel
theorem dX12_takes_36 : decode cX12_takes 36 = .ok (.iload_n 2, 1) := by decide +kernel
theorem dX12_takes_37 : decode cX12_takes 37 = .ok (.iand, 1) := by decide +kernel
theorem dX12_takes_38 : decode cX12_takes 38 = .ok (.ifCond .ne 7, 3) := by decide +kernel
theorem dX12_takes_41 : decode cX12_takes 41 = .ok (.iconst 1, 1) := by decide +kernel
theorem dX12_takes_42 : decode cX12_takes 42 = .ok (.goto 4, 3) := by decide +kernel
theorem dX12_takes_45 : decode cX12_takes 45 = .ok (.iconst 0, 1) := by decide +kernel
theorem dX12_takes_46 : decode cX12_takes 46 = .ok (.istore 6, 2) := by decide +kernel
theorem dX12_takes_48 : decode cX12_takes 48 = .ok (.iload 6, 2) := by decide +kernel
theorem dX12_takes_50 : decode cX12_takes 50 = .ok (.ifCond .eq 33, 3) := by decide +kernel
theorem dX12_takes_53 : decode cX12_takes 53 = .ok (.iload_n 3, 1) := by decide +kernel
theorem dX12_takes_54 : decode cX12_takes 54 = .ok (.iconst 4, 1) := by decide +kernel
theorem dX12_takes_55 : decode cX12_takes 55 = .ok (.if_icmp .eq 23, 3) := by decide +kernel
theorem dX12_takes_58 : decode cX12_takes 58 = .ok (.aload_n 0, 1) := by decide +kernel
theorem dX12_takes_59 : decode cX12_takes 59 = .ok (.getfield 28, 3) := by decide +kernel
theorem dX12_takes_62 : decode cX12_takes 62 = .ok (.iload 5, 2) := by decide +kernel
theorem dX12_takes_64 : decode cX12_takes 64 = .ok (.iaload, 1) := by decide +kernel
theorem dX12_takes_65 : decode cX12_takes 65 = .ok (.aload_n 0, 1) := by decide +kernel
theorem dX12_takes_66 : decode cX12_takes 66 = .ok (.getfield 28, 3) := by decide +kernel
theorem dX12_takes_69 : decode cX12_takes 69 = .ok (.iconst 4, 1) := by decide +kernel
theorem dX12_takes_70 : decode cX12_takes 70 = .ok (.iload_n 1, 1) := by decide +kernel
theorem dX12_takes_71 : decode cX12_takes 71 = .ok (.imul, 1) := by decide +kernel
theorem dX12_takes_72 : decode cX12_takes 72 = .ok (.iload_n 3, 1) := by decide +kernel
theorem dX12_takes_73 : decode cX12_takes 73 = .ok (.iadd, 1) := by decide +kernel
theorem dX12_takes_74 : decode cX12_takes 74 = .ok (.iaload, 1) := by decide +kernel
theorem dX12_takes_75 : decode cX12_takes 75 = .ok (.if_icmp .le 8, 3) := by decide +kernel
theorem dX12_takes_78 : decode cX12_takes 78 = .ok (.iload 4, 2) := by decide +kernel
theorem dX12_takes_80 : decode cX12_takes 80 = .ok (.goto 4, 3) := by decide +kernel
theorem dX12_takes_83 : decode cX12_takes 83 = .ok (.iload_n 3, 1) := by decide +kernel
theorem dX12_takes_84 : decode cX12_takes 84 = .ok (.istore_n 3, 1) := by decide +kernel
theorem dX12_takes_85 : decode cX12_takes 85 = .ok (.iinc 4 1, 3) := by decide +kernel
theorem dX12_takes_88 : decode cX12_takes 88 = .ok (.goto (-83), 3) := by decide +kernel
theorem dX12_takes_91 : decode cX12_takes 91 = .ok (.iload_n 3, 1) := by decide +kernel
theorem dX12_takes_92 : decode cX12_takes 92 = .ok (.ireturn, 1) := by decide +kernel
theorem dX12_keepsLine_0 : decode cX12_keepsLine 0 = .ok (.iload_n 1, 1) := by decide +kernel
theorem dX12_keepsLine_1 : decode cX12_keepsLine 1 = .ok (.aload_n 0, 1) := by decide +kernel
theorem dX12_keepsLine_2 : decode cX12_keepsLine 2 = .ok (.getfield 229, 3) := by decide +kernel
theorem dX12_keepsLine_5 : decode cX12_keepsLine 5 = .ok (.if_icmp .gt 19, 3) := by decide +kernel
theorem dX12_keepsLine_8 : decode cX12_keepsLine 8 = .ok (.iload_n 1, 1) := by decide +kernel
theorem dX12_keepsLine_9 : decode cX12_keepsLine 9 = .ok (.aload_n 0, 1) := by decide +kernel
theorem dX12_keepsLine_10 : decode cX12_keepsLine 10 = .ok (.getfield 229, 3) := by decide +kernel
theorem dX12_keepsLine_13 : decode cX12_keepsLine 13 = .ok (.if_icmp .ne 51, 3) := by decide +kernel
theorem dX12_keepsLine_16 : decode cX12_keepsLine 16 = .ok (.iload_n 2, 1) := by decide +kernel
theorem dX12_keepsLine_17 : decode cX12_keepsLine 17 = .ok (.aload_n 0, 1) := by decide +kernel
theorem dX12_keepsLine_18 : decode cX12_keepsLine 18 = .ok (.getfield 232, 3) := by decide +kernel
theorem dX12_keepsLine_21 : decode cX12_keepsLine 21 = .ok (.if_icmp .le 43, 3) := by decide +kernel
theorem dX12_keepsLine_24 : decode cX12_keepsLine 24 = .ok (.aload_n 0, 1) := by decide +kernel
theorem dX12_keepsLine_25 : decode cX12_keepsLine 25 = .ok (.iload_n 1, 1) := by decide +kernel
theorem dX12_keepsLine_26 : decode cX12_keepsLine 26 = .ok (.putfield 229, 3) := by decide +kernel
theorem dX12_keepsLine_29 : decode cX12_keepsLine 29 = .ok (.aload_n 0, 1) := by decide +kernel
theorem dX12_keepsLine_30 : decode cX12_keepsLine 30 = .ok (.iload_n 2, 1) := by decide +kernel
theorem dX12_keepsLine_31 : decode cX12_keepsLine 31 = .ok (.putfield 232, 3) := by decide +kernel
theorem dX12_keepsLine_34 : decode cX12_keepsLine 34 = .ok (.iconst 0, 1) := by decide +kernel
theorem dX12_keepsLine_35 : decode cX12_keepsLine 35 = .ok (.istore_n 3, 1) := by decide +kernel
theorem dX12_keepsLine_36 : decode cX12_keepsLine 36 = .ok (.iload_n 3, 1) := by decide +kernel
theorem dX12_keepsLine_37 : decode cX12_keepsLine 37 = .ok (.aload_n 0, 1) := by decide +kernel
theorem dX12_keepsLine_38 : decode cX12_keepsLine 38 = .ok (.getfield 9, 3) := by decide +kernel
theorem dX12_keepsLine_41 : decode cX12_keepsLine 41 = .ok (.iconst 0, 1) := by decide +kernel
theorem dX12_keepsLine_42 : decode cX12_keepsLine 42 = .ok (.iaload, 1) := by decide +kernel
theorem dX12_keepsLine_43 : decode cX12_keepsLine 43 = .ok (.if_icmp .ge 21, 3) := by decide +kernel
theorem dX12_keepsLine_46 : decode cX12_keepsLine 46 = .ok (.aload_n 0, 1) := by decide +kernel
theorem dX12_keepsLine_47 : decode cX12_keepsLine 47 = .ok (.getfield 43, 3) := by decide +kernel
theorem dX12_keepsLine_50 : decode cX12_keepsLine 50 = .ok (.iload_n 3, 1) := by decide +kernel
theorem dX12_keepsLine_51 : decode cX12_keepsLine 51 = .ok (.aload_n 0, 1) := by decide +kernel
theorem dX12_keepsLine_52 : decode cX12_keepsLine 52 = .ok (.getfield 40, 3) := by decide +kernel
theorem dX12_keepsLine_55 : decode cX12_keepsLine 55 = .ok (.iload_n 3, 1) := by decide +kernel
theorem dX12_keepsLine_56 : decode cX12_keepsLine 56 = .ok (.iaload, 1) := by decide +kernel
theorem dX12_keepsLine_57 : decode cX12_keepsLine 57 = .ok (.iastore, 1) := by decide +kernel
theorem dX12_keepsLine_58 : decode cX12_keepsLine 58 = .ok (.iinc 3 1, 3) := by decide +kernel
theorem dX12_keepsLine_61 : decode cX12_keepsLine 61 = .ok (.goto (-25), 3) := by decide +kernel
theorem dX12_keepsLine_64 : decode cX12_keepsLine 64 = .ok (.return_, 1) := by decide +kernel
theorem dX12_ordersFrom_0 : decode cX12_ordersFrom 0 = .ok (.iload_n 1, 1) := by decide +kernel
theorem dX12_ordersFrom_1 : decode cX12_ordersFrom 1 = .ok (.aload_n 0, 1) := by decide +kernel
theorem dX12_ordersFrom_2 : decode cX12_ordersFrom 2 = .ok (.getfield 9, 3) := by decide +kernel
theorem dX12_ordersFrom_5 : decode cX12_ordersFrom 5 = .ok (.iconst 0, 1) := by decide +kernel
theorem dX12_ordersFrom_6 : decode cX12_ordersFrom 6 = .ok (.iaload, 1) := by decide +kernel
theorem dX12_ordersFrom_7 : decode cX12_ordersFrom 7 = .ok (.if_icmp .ne 12, 3) := by decide +kernel
theorem dX12_ordersFrom_10 : decode cX12_ordersFrom 10 = .ok (.aload_n 0, 1) := by decide +kernel
theorem dX12_ordersFrom_11 : decode cX12_ordersFrom 11 = .ok (.iload 4, 2) := by decide +kernel
theorem dX12_ordersFrom_13 : decode cX12_ordersFrom 13 = .ok (.iload 5, 2) := by decide +kernel
theorem dX12_ordersFrom_15 : decode cX12_ordersFrom 15 = .ok (.invokevirtual 260, 3) := by decide +kernel
theorem dX12_ordersFrom_18 : decode cX12_ordersFrom 18 = .ok (.return_, 1) := by decide +kernel
theorem dX12_ordersFrom_19 : decode cX12_ordersFrom 19 = .ok (.iconst 0, 1) := by decide +kernel
theorem dX12_ordersFrom_20 : decode cX12_ordersFrom 20 = .ok (.istore 6, 2) := by decide +kernel
theorem dX12_ordersFrom_22 : decode cX12_ordersFrom 22 = .ok (.iload 6, 2) := by decide +kernel
theorem dX12_ordersFrom_24 : decode cX12_ordersFrom 24 = .ok (.aload_n 0, 1) := by decide +kernel
theorem dX12_ordersFrom_25 : decode cX12_ordersFrom 25 = .ok (.getfield 9, 3) := by decide +kernel
theorem dX12_ordersFrom_28 : decode cX12_ordersFrom 28 = .ok (.iconst 0, 1) := by decide +kernel
theorem dX12_ordersFrom_29 : decode cX12_ordersFrom 29 = .ok (.iaload, 1) := by decide +kernel
theorem dX12_ordersFrom_30 : decode cX12_ordersFrom 30 = .ok (.if_icmp .ge 105, 3) := by decide +kernel
theorem dX12_ordersFrom_33 : decode cX12_ordersFrom 33 = .ok (.iload_n 2, 1) := by decide +kernel
theorem dX12_ordersFrom_34 : decode cX12_ordersFrom 34 = .ok (.iload 6, 2) := by decide +kernel
theorem dX12_ordersFrom_36 : decode cX12_ordersFrom 36 = .ok (.ishr, 1) := by decide +kernel
theorem dX12_ordersFrom_37 : decode cX12_ordersFrom 37 = .ok (.iconst 1, 1) := by decide +kernel
theorem dX12_ordersFrom_38 : decode cX12_ordersFrom 38 = .ok (.iand, 1) := by decide +kernel
theorem dX12_ordersFrom_39 : decode cX12_ordersFrom 39 = .ok (.ifCond .ne 90, 3) := by decide +kernel
theorem dX12_ordersFrom_42 : decode cX12_ordersFrom 42 = .ok (.aload_n 0, 1) := by decide +kernel
theorem dX12_ordersFrom_43 : decode cX12_ordersFrom 43 = .ok (.iload 6, 2) := by decide +kernel
theorem dX12_ordersFrom_45 : decode cX12_ordersFrom 45 = .ok (.iload_n 3, 1) := by decide +kernel
theorem dX12_ordersFrom_46 : decode cX12_ordersFrom 46 = .ok (.invokevirtual 263, 3) := by decide +kernel
theorem dX12_ordersFrom_49 : decode cX12_ordersFrom 49 = .ok (.istore 7, 2) := by decide +kernel
theorem dX12_ordersFrom_51 : decode cX12_ordersFrom 51 = .ok (.aload_n 0, 1) := by decide +kernel
theorem dX12_ordersFrom_52 : decode cX12_ordersFrom 52 = .ok (.getfield 40, 3) := by decide +kernel
theorem dX12_ordersFrom_55 : decode cX12_ordersFrom 55 = .ok (.iload_n 1, 1) := by decide +kernel
theorem dX12_ordersFrom_56 : decode cX12_ordersFrom 56 = .ok (.iload 6, 2) := by decide +kernel
theorem dX12_ordersFrom_58 : decode cX12_ordersFrom 58 = .ok (.iastore, 1) := by decide +kernel
theorem dX12_ordersFrom_59 : decode cX12_ordersFrom 59 = .ok (.iload 7, 2) := by decide +kernel
theorem dX12_ordersFrom_61 : decode cX12_ordersFrom 61 = .ok (.iconst 4, 1) := by decide +kernel
theorem dX12_ordersFrom_62 : decode cX12_ordersFrom 62 = .ok (.if_icmp .ne 24, 3) := by decide +kernel
theorem dX12_ordersFrom_65 : decode cX12_ordersFrom 65 = .ok (.aload_n 0, 1) := by decide +kernel
theorem dX12_ordersFrom_66 : decode cX12_ordersFrom 66 = .ok (.iload_n 1, 1) := by decide +kernel
theorem dX12_ordersFrom_67 : decode cX12_ordersFrom 67 = .ok (.iconst 1, 1) := by decide +kernel
theorem dX12_ordersFrom_68 : decode cX12_ordersFrom 68 = .ok (.iadd, 1) := by decide +kernel
theorem dX12_ordersFrom_69 : decode cX12_ordersFrom 69 = .ok (.iload_n 2, 1) := by decide +kernel
theorem dX12_ordersFrom_70 : decode cX12_ordersFrom 70 = .ok (.iconst 1, 1) := by decide +kernel
theorem dX12_ordersFrom_71 : decode cX12_ordersFrom 71 = .ok (.iload 6, 2) := by decide +kernel
theorem dX12_ordersFrom_73 : decode cX12_ordersFrom 73 = .ok (.ishl, 1) := by decide +kernel
theorem dX12_ordersFrom_74 : decode cX12_ordersFrom 74 = .ok (.ior, 1) := by decide +kernel
theorem dX12_ordersFrom_75 : decode cX12_ordersFrom 75 = .ok (.iload_n 3, 1) := by decide +kernel
theorem dX12_ordersFrom_76 : decode cX12_ordersFrom 76 = .ok (.iload 4, 2) := by decide +kernel
theorem dX12_ordersFrom_78 : decode cX12_ordersFrom 78 = .ok (.iload 5, 2) := by decide +kernel
theorem dX12_ordersFrom_80 : decode cX12_ordersFrom 80 = .ok (.invokevirtual 266, 3) := by decide +kernel
theorem dX12_ordersFrom_83 : decode cX12_ordersFrom 83 = .ok (.goto 46, 3) := by decide +kernel
theorem dX12_ordersFrom_86 : decode cX12_ordersFrom 86 = .ok (.aload_n 0, 1) := by decide +kernel
theorem dX12_ordersFrom_87 : decode cX12_ordersFrom 87 = .ok (.iload_n 1, 1) := by decide +kernel
theorem dX12_ordersFrom_88 : decode cX12_ordersFrom 88 = .ok (.iconst 1, 1) := by decide +kernel
theorem dX12_ordersFrom_89 : decode cX12_ordersFrom 89 = .ok (.iadd, 1) := by decide +kernel
theorem dX12_ordersFrom_90 : decode cX12_ordersFrom 90 = .ok (.iload_n 2, 1) := by decide +kernel
theorem dX12_ordersFrom_91 : decode cX12_ordersFrom 91 = .ok (.iconst 1, 1) := by decide +kernel
theorem dX12_ordersFrom_92 : decode cX12_ordersFrom 92 = .ok (.iload 6, 2) := by decide +kernel
theorem dX12_ordersFrom_94 : decode cX12_ordersFrom 94 = .ok (.ishl, 1) := by decide +kernel
theorem dX12_ordersFrom_95 : decode cX12_ordersFrom 95 = .ok (.ior, 1) := by decide +kernel
theorem dX12_ordersFrom_96 : decode cX12_ordersFrom 96 = .ok (.iload_n 3, 1) := by decide +kernel
theorem dX12_ordersFrom_97 : decode cX12_ordersFrom 97 = .ok (.iconst 1, 1) := by decide +kernel
theorem dX12_ordersFrom_98 : decode cX12_ordersFrom 98 = .ok (.iconst 4, 1) := by decide +kernel
theorem dX12_ordersFrom_99 : decode cX12_ordersFrom 99 = .ok (.iload 6, 2) := by decide +kernel
theorem dX12_ordersFrom_101 : decode cX12_ordersFrom 101 = .ok (.imul, 1) := by decide +kernel
theorem dX12_ordersFrom_102 : decode cX12_ordersFrom 102 = .ok (.iload 7, 2) := by decide +kernel
theorem dX12_ordersFrom_104 : decode cX12_ordersFrom 104 = .ok (.iadd, 1) := by decide +kernel
theorem dX12_ordersFrom_105 : decode cX12_ordersFrom 105 = .ok (.ishl, 1) := by decide +kernel
theorem dX12_ordersFrom_106 : decode cX12_ordersFrom 106 = .ok (.ior, 1) := by decide +kernel
theorem dX12_ordersFrom_107 : decode cX12_ordersFrom 107 = .ok (.iload 4, 2) := by decide +kernel
theorem dX12_ordersFrom_109 : decode cX12_ordersFrom 109 = .ok (.iconst 1, 1) := by decide +kernel
theorem dX12_ordersFrom_110 : decode cX12_ordersFrom 110 = .ok (.iadd, 1) := by decide +kernel
theorem dX12_ordersFrom_111 : decode cX12_ordersFrom 111 = .ok (.iload 5, 2) := by decide +kernel
theorem dX12_ordersFrom_113 : decode cX12_ordersFrom 113 = .ok (.aload_n 0, 1) := by decide +kernel
theorem dX12_ordersFrom_114 : decode cX12_ordersFrom 114 = .ok (.getfield 28, 3) := by decide +kernel
theorem dX12_ordersFrom_117 : decode cX12_ordersFrom 117 = .ok (.iconst 4, 1) := by decide +kernel
theorem dX12_ordersFrom_118 : decode cX12_ordersFrom 118 = .ok (.iload 6, 2) := by decide +kernel
theorem dX12_ordersFrom_120 : decode cX12_ordersFrom 120 = .ok (.imul, 1) := by decide +kernel
theorem dX12_ordersFrom_121 : decode cX12_ordersFrom 121 = .ok (.iload 7, 2) := by decide +kernel
theorem dX12_ordersFrom_123 : decode cX12_ordersFrom 123 = .ok (.iadd, 1) := by decide +kernel
theorem dX12_ordersFrom_124 : decode cX12_ordersFrom 124 = .ok (.iaload, 1) := by decide +kernel
theorem dX12_ordersFrom_125 : decode cX12_ordersFrom 125 = .ok (.iadd, 1) := by decide +kernel
theorem dX12_ordersFrom_126 : decode cX12_ordersFrom 126 = .ok (.invokevirtual 266, 3) := by decide +kernel
theorem dX12_ordersFrom_129 : decode cX12_ordersFrom 129 = .ok (.iinc 6 1, 3) := by decide +kernel
theorem dX12_ordersFrom_132 : decode cX12_ordersFrom 132 = .ok (.goto (-110), 3) := by decide +kernel
theorem dX12_ordersFrom_135 : decode cX12_ordersFrom 135 = .ok (.return_, 1) := by decide +kernel
theorem dX12_inline_0 : decode cX12_inline 0 = .ok (.iload_n 1, 1) := by decide +kernel
theorem dX12_inline_1 : decode cX12_inline 1 = .ok (.iconst 0, 1) := by decide +kernel
theorem dX12_inline_2 : decode cX12_inline 2 = .ok (.iconst 1, 1) := by decide +kernel
theorem dX12_inline_3 : decode cX12_inline 3 = .ok (.invokestatic 56, 3) := by decide +kernel
theorem dX12_inline_6 : decode cX12_inline 6 = .ok (.ifCond .ne 7, 3) := by decide +kernel
theorem dX12_inline_9 : decode cX12_inline 9 = .ok (.sipush (-10001), 3) := by decide +kernel
theorem dX12_inline_12 : decode cX12_inline 12 = .ok (.ireturn, 1) := by decide +kernel
theorem dX12_inline_13 : decode cX12_inline 13 = .ok (.aload_n 0, 1) := by decide +kernel
theorem dX12_inline_14 : decode cX12_inline 14 = .ok (.invokevirtual 243, 3) := by decide +kernel
theorem dX12_inline_17 : decode cX12_inline 17 = .ok (.iconst 0, 1) := by decide +kernel
theorem dX12_inline_18 : decode cX12_inline 18 = .ok (.istore_n 2, 1) := by decide +kernel
theorem dX12_inline_19 : decode cX12_inline 19 = .ok (.iconst 0, 1) := by decide +kernel
theorem dX12_inline_20 : decode cX12_inline 20 = .ok (.istore_n 3, 1) := by decide +kernel
theorem dX12_inline_21 : decode cX12_inline 21 = .ok (.iconst 0, 1) := by decide +kernel
theorem dX12_inline_22 : decode cX12_inline 22 = .ok (.istore 4, 2) := by decide +kernel
theorem dX12_inline_24 : decode cX12_inline 24 = .ok (.iconst 0, 1) := by decide +kernel
theorem dX12_inline_25 : decode cX12_inline 25 = .ok (.istore 5, 2) := by decide +kernel
theorem dX12_inline_27 : decode cX12_inline 27 = .ok (.iload 5, 2) := by decide +kernel
theorem dX12_inline_29 : decode cX12_inline 29 = .ok (.aload_n 0, 1) := by decide +kernel
theorem dX12_inline_30 : decode cX12_inline 30 = .ok (.getfield 9, 3) := by decide +kernel
theorem dX12_inline_33 : decode cX12_inline 33 = .ok (.iconst 0, 1) := by decide +kernel
theorem dX12_inline_34 : decode cX12_inline 34 = .ok (.iaload, 1) := by decide +kernel
theorem dX12_inline_35 : decode cX12_inline 35 = .ok (.if_icmp .ge 56, 3) := by decide +kernel
theorem dX12_inline_38 : decode cX12_inline 38 = .ok (.aload_n 0, 1) := by decide +kernel
theorem dX12_inline_39 : decode cX12_inline 39 = .ok (.iload 5, 2) := by decide +kernel
theorem dX12_inline_41 : decode cX12_inline 41 = .ok (.iload_n 2, 1) := by decide +kernel
theorem dX12_inline_42 : decode cX12_inline 42 = .ok (.invokevirtual 263, 3) := by decide +kernel
theorem dX12_inline_45 : decode cX12_inline 45 = .ok (.istore 6, 2) := by decide +kernel
theorem dX12_inline_47 : decode cX12_inline 47 = .ok (.iload 6, 2) := by decide +kernel
theorem dX12_inline_49 : decode cX12_inline 49 = .ok (.iconst 4, 1) := by decide +kernel
theorem dX12_inline_50 : decode cX12_inline 50 = .ok (.if_icmp .eq 35, 3) := by decide +kernel
theorem dX12_inline_53 : decode cX12_inline 53 = .ok (.iload_n 2, 1) := by decide +kernel
theorem dX12_inline_54 : decode cX12_inline 54 = .ok (.iconst 1, 1) := by decide +kernel
theorem dX12_inline_55 : decode cX12_inline 55 = .ok (.iconst 4, 1) := by decide +kernel
theorem dX12_inline_56 : decode cX12_inline 56 = .ok (.iload 5, 2) := by decide +kernel
theorem dX12_inline_58 : decode cX12_inline 58 = .ok (.imul, 1) := by decide +kernel
theorem dX12_inline_59 : decode cX12_inline 59 = .ok (.iload 6, 2) := by decide +kernel
theorem dX12_inline_61 : decode cX12_inline 61 = .ok (.iadd, 1) := by decide +kernel
theorem dX12_inline_62 : decode cX12_inline 62 = .ok (.ishl, 1) := by decide +kernel
theorem dX12_inline_63 : decode cX12_inline 63 = .ok (.ior, 1) := by decide +kernel
theorem dX12_inline_64 : decode cX12_inline 64 = .ok (.istore_n 2, 1) := by decide +kernel
theorem dX12_inline_65 : decode cX12_inline 65 = .ok (.iinc 3 1, 3) := by decide +kernel
theorem dX12_inline_68 : decode cX12_inline 68 = .ok (.iload 4, 2) := by decide +kernel
theorem dX12_inline_70 : decode cX12_inline 70 = .ok (.aload_n 0, 1) := by decide +kernel
theorem dX12_inline_71 : decode cX12_inline 71 = .ok (.getfield 28, 3) := by decide +kernel
theorem dX12_inline_74 : decode cX12_inline 74 = .ok (.iconst 4, 1) := by decide +kernel
theorem dX12_inline_75 : decode cX12_inline 75 = .ok (.iload 5, 2) := by decide +kernel
theorem dX12_inline_77 : decode cX12_inline 77 = .ok (.imul, 1) := by decide +kernel
theorem dX12_inline_78 : decode cX12_inline 78 = .ok (.iload 6, 2) := by decide +kernel
theorem dX12_inline_80 : decode cX12_inline 80 = .ok (.iadd, 1) := by decide +kernel
theorem dX12_inline_81 : decode cX12_inline 81 = .ok (.iaload, 1) := by decide +kernel
theorem dX12_inline_82 : decode cX12_inline 82 = .ok (.iadd, 1) := by decide +kernel
theorem dX12_inline_83 : decode cX12_inline 83 = .ok (.istore 4, 2) := by decide +kernel
theorem dX12_inline_85 : decode cX12_inline 85 = .ok (.iinc 5 1, 3) := by decide +kernel
theorem dX12_inline_88 : decode cX12_inline 88 = .ok (.goto (-61), 3) := by decide +kernel
theorem dX12_inline_91 : decode cX12_inline 91 = .ok (.iload_n 1, 1) := by decide +kernel
theorem dX12_inline_92 : decode cX12_inline 92 = .ok (.ifCond .ne 7, 3) := by decide +kernel
theorem dX12_inline_95 : decode cX12_inline 95 = .ok (.iload_n 3, 1) := by decide +kernel
theorem dX12_inline_96 : decode cX12_inline 96 = .ok (.goto 5, 3) := by decide +kernel
theorem dX12_inline_99 : decode cX12_inline 99 = .ok (.iload 4, 2) := by decide +kernel
theorem dX12_inline_101 : decode cX12_inline 101 = .ok (.ireturn, 1) := by decide +kernel
theorem dX12_order_0 : decode cX12_order 0 = .ok (.iload_n 1, 1) := by decide +kernel
theorem dX12_order_1 : decode cX12_order 1 = .ok (.bipush (-2), 2) := by decide +kernel
theorem dX12_order_3 : decode cX12_order 3 = .ok (.bipush 6, 2) := by decide +kernel
theorem dX12_order_5 : decode cX12_order 5 = .ok (.invokestatic 56, 3) := by decide +kernel
theorem dX12_order_8 : decode cX12_order 8 = .ok (.ifCond .ne 7, 3) := by decide +kernel
theorem dX12_order_11 : decode cX12_order 11 = .ok (.sipush (-10001), 3) := by decide +kernel
theorem dX12_order_14 : decode cX12_order 14 = .ok (.ireturn, 1) := by decide +kernel
theorem dX12_order_15 : decode cX12_order 15 = .ok (.aload_n 0, 1) := by decide +kernel
theorem dX12_order_16 : decode cX12_order 16 = .ok (.invokevirtual 243, 3) := by decide +kernel
theorem dX12_order_19 : decode cX12_order 19 = .ok (.aload_n 0, 1) := by decide +kernel
theorem dX12_order_20 : decode cX12_order 20 = .ok (.iconst (-1), 1) := by decide +kernel
theorem dX12_order_21 : decode cX12_order 21 = .ok (.putfield 229, 3) := by decide +kernel
theorem dX12_order_24 : decode cX12_order 24 = .ok (.aload_n 0, 1) := by decide +kernel
theorem dX12_order_25 : decode cX12_order 25 = .ok (.ldc 246, 2) := by decide +kernel
theorem dX12_order_27 : decode cX12_order 27 = .ok (.putfield 232, 3) := by decide +kernel
theorem dX12_order_30 : decode cX12_order 30 = .ok (.aload_n 0, 1) := by decide +kernel
theorem dX12_order_31 : decode cX12_order 31 = .ok (.iconst 0, 1) := by decide +kernel
theorem dX12_order_32 : decode cX12_order 32 = .ok (.iconst 0, 1) := by decide +kernel
theorem dX12_order_33 : decode cX12_order 33 = .ok (.iconst 0, 1) := by decide +kernel
theorem dX12_order_34 : decode cX12_order 34 = .ok (.iconst 0, 1) := by decide +kernel
theorem dX12_order_35 : decode cX12_order 35 = .ok (.iconst 0, 1) := by decide +kernel
theorem dX12_order_36 : decode cX12_order 36 = .ok (.invokevirtual 266, 3) := by decide +kernel
theorem dX12_order_39 : decode cX12_order 39 = .ok (.iload_n 1, 1) := by decide +kernel
theorem dX12_order_40 : decode cX12_order 40 = .ok (.bipush (-2), 2) := by decide +kernel
theorem dX12_order_42 : decode cX12_order 42 = .ok (.if_icmp .ne 10, 3) := by decide +kernel
theorem dX12_order_45 : decode cX12_order 45 = .ok (.aload_n 0, 1) := by decide +kernel
theorem dX12_order_46 : decode cX12_order 46 = .ok (.getfield 229, 3) := by decide +kernel
theorem dX12_order_49 : decode cX12_order 49 = .ok (.goto 36, 3) := by decide +kernel
theorem dX12_order_52 : decode cX12_order 52 = .ok (.iload_n 1, 1) := by decide +kernel
theorem dX12_order_53 : decode cX12_order 53 = .ok (.iconst (-1), 1) := by decide +kernel
theorem dX12_order_54 : decode cX12_order 54 = .ok (.if_icmp .ne 10, 3) := by decide +kernel
theorem dX12_order_57 : decode cX12_order 57 = .ok (.aload_n 0, 1) := by decide +kernel
theorem dX12_order_58 : decode cX12_order 58 = .ok (.getfield 232, 3) := by decide +kernel
theorem dX12_order_61 : decode cX12_order 61 = .ok (.goto 24, 3) := by decide +kernel
theorem dX12_order_64 : decode cX12_order 64 = .ok (.iload_n 1, 1) := by decide +kernel
theorem dX12_order_65 : decode cX12_order 65 = .ok (.aload_n 0, 1) := by decide +kernel
theorem dX12_order_66 : decode cX12_order 66 = .ok (.getfield 9, 3) := by decide +kernel
theorem dX12_order_69 : decode cX12_order 69 = .ok (.iconst 0, 1) := by decide +kernel
theorem dX12_order_70 : decode cX12_order 70 = .ok (.iaload, 1) := by decide +kernel
theorem dX12_order_71 : decode cX12_order 71 = .ok (.if_icmp .ge 12, 3) := by decide +kernel
theorem dX12_order_74 : decode cX12_order 74 = .ok (.aload_n 0, 1) := by decide +kernel
theorem dX12_order_75 : decode cX12_order 75 = .ok (.getfield 43, 3) := by decide +kernel
theorem dX12_order_78 : decode cX12_order 78 = .ok (.iload_n 1, 1) := by decide +kernel
theorem dX12_order_79 : decode cX12_order 79 = .ok (.iaload, 1) := by decide +kernel
theorem dX12_order_80 : decode cX12_order 80 = .ok (.goto 5, 3) := by decide +kernel
theorem dX12_order_83 : decode cX12_order 83 = .ok (.bipush (-5), 2) := by decide +kernel
theorem dX12_order_85 : decode cX12_order 85 = .ok (.ireturn, 1) := by decide +kernel
theorem dX12_far_0 : decode cX12_far 0 = .ok (.aload_n 0, 1) := by decide +kernel
theorem dX12_far_1 : decode cX12_far 1 = .ok (.iload_n 1, 1) := by decide +kernel
theorem dX12_far_2 : decode cX12_far 2 = .ok (.invokevirtual 189, 3) := by decide +kernel
theorem dX12_far_5 : decode cX12_far 5 = .ok (.ifCond .ne 5, 3) := by decide +kernel
theorem dX12_far_8 : decode cX12_far 8 = .ok (.iconst (-1), 1) := by decide +kernel
theorem dX12_far_9 : decode cX12_far 9 = .ok (.ireturn, 1) := by decide +kernel
theorem dX12_far_10 : decode cX12_far 10 = .ok (.aload_n 0, 1) := by decide +kernel
theorem dX12_far_11 : decode cX12_far 11 = .ok (.getfield 9, 3) := by decide +kernel
theorem dX12_far_14 : decode cX12_far 14 = .ok (.bipush 42, 2) := by decide +kernel
theorem dX12_far_16 : decode cX12_far 16 = .ok (.iload_n 1, 1) := by decide +kernel
theorem dX12_far_17 : decode cX12_far 17 = .ok (.iadd, 1) := by decide +kernel
theorem dX12_far_18 : decode cX12_far 18 = .ok (.iaload, 1) := by decide +kernel
theorem dX12_far_19 : decode cX12_far 19 = .ok (.iconst 4, 1) := by decide +kernel
theorem dX12_far_20 : decode cX12_far 20 = .ok (.if_icmp .ne 8, 3) := by decide +kernel
theorem dX12_far_23 : decode cX12_far 23 = .ok (.bipush (-5), 2) := by decide +kernel
theorem dX12_far_25 : decode cX12_far 25 = .ok (.goto 9, 3) := by decide +kernel
theorem dX12_far_28 : decode cX12_far 28 = .ok (.aload_n 0, 1) := by decide +kernel
theorem dX12_far_29 : decode cX12_far 29 = .ok (.iload_n 1, 1) := by decide +kernel
theorem dX12_far_30 : decode cX12_far 30 = .ok (.iload_n 1, 1) := by decide +kernel
theorem dX12_far_31 : decode cX12_far 31 = .ok (.invokevirtual 205, 3) := by decide +kernel
theorem dX12_far_34 : decode cX12_far 34 = .ok (.ireturn, 1) := by decide +kernel
theorem dX12_see_0 : decode cX12_see 0 = .ok (.iload_n 1, 1) := by decide +kernel
theorem dX12_see_1 : decode cX12_see 1 = .ok (.iconst (-1), 1) := by decide +kernel
theorem dX12_see_2 : decode cX12_see 2 = .ok (.if_icmp .ne 12, 3) := by decide +kernel
theorem dX12_see_5 : decode cX12_see 5 = .ok (.aload_n 0, 1) := by decide +kernel
theorem dX12_see_6 : decode cX12_see 6 = .ok (.getfield 9, 3) := by decide +kernel
theorem dX12_see_9 : decode cX12_see 9 = .ok (.iconst 2, 1) := by decide +kernel
theorem dX12_see_10 : decode cX12_see 10 = .ok (.iconst 0, 1) := by decide +kernel
theorem dX12_see_11 : decode cX12_see 11 = .ok (.iastore, 1) := by decide +kernel
theorem dX12_see_12 : decode cX12_see 12 = .ok (.iconst 0, 1) := by decide +kernel
theorem dX12_see_13 : decode cX12_see 13 = .ok (.ireturn, 1) := by decide +kernel
theorem dX12_see_14 : decode cX12_see 14 = .ok (.iload_n 1, 1) := by decide +kernel
theorem dX12_see_15 : decode cX12_see 15 = .ok (.iconst 0, 1) := by decide +kernel
theorem dX12_see_16 : decode cX12_see 16 = .ok (.bipush 29, 2) := by decide +kernel
theorem dX12_see_18 : decode cX12_see 18 = .ok (.invokestatic 56, 3) := by decide +kernel
theorem dX12_see_21 : decode cX12_see 21 = .ok (.ifCond .eq 13, 3) := by decide +kernel
theorem dX12_see_24 : decode cX12_see 24 = .ok (.iload_n 2, 1) := by decide +kernel
theorem dX12_see_25 : decode cX12_see 25 = .ok (.iconst 0, 1) := by decide +kernel
theorem dX12_see_26 : decode cX12_see 26 = .ok (.bipush 11, 2) := by decide +kernel
theorem dX12_see_28 : decode cX12_see 28 = .ok (.invokestatic 56, 3) := by decide +kernel
theorem dX12_see_31 : decode cX12_see 31 = .ok (.ifCond .ne 5, 3) := by decide +kernel
theorem dX12_see_34 : decode cX12_see 34 = .ok (.iconst (-1), 1) := by decide +kernel
theorem dX12_see_35 : decode cX12_see 35 = .ok (.ireturn, 1) := by decide +kernel
theorem dX12_see_36 : decode cX12_see 36 = .ok (.aload_n 0, 1) := by decide +kernel
theorem dX12_see_37 : decode cX12_see 37 = .ok (.getfield 9, 3) := by decide +kernel
theorem dX12_see_40 : decode cX12_see 40 = .ok (.iconst 2, 1) := by decide +kernel
theorem dX12_see_41 : decode cX12_see 41 = .ok (.iaload, 1) := by decide +kernel
theorem dX12_see_42 : decode cX12_see 42 = .ok (.iconst 5, 1) := by decide +kernel
theorem dX12_see_43 : decode cX12_see 43 = .ok (.if_icmp .ne 6, 3) := by decide +kernel
theorem dX12_see_46 : decode cX12_see 46 = .ok (.bipush (-4), 2) := by decide +kernel
theorem dX12_see_48 : decode cX12_see 48 = .ok (.ireturn, 1) := by decide +kernel
theorem dX12_see_49 : decode cX12_see 49 = .ok (.aload_n 0, 1) := by decide +kernel
theorem dX12_see_50 : decode cX12_see 50 = .ok (.getfield 9, 3) := by decide +kernel
theorem dX12_see_53 : decode cX12_see 53 = .ok (.bipush 77, 2) := by decide +kernel
theorem dX12_see_55 : decode cX12_see 55 = .ok (.aload_n 0, 1) := by decide +kernel
theorem dX12_see_56 : decode cX12_see 56 = .ok (.getfield 9, 3) := by decide +kernel
theorem dX12_see_59 : decode cX12_see 59 = .ok (.iconst 2, 1) := by decide +kernel
theorem dX12_see_60 : decode cX12_see 60 = .ok (.iaload, 1) := by decide +kernel
theorem dX12_see_61 : decode cX12_see 61 = .ok (.iadd, 1) := by decide +kernel
theorem dX12_see_62 : decode cX12_see 62 = .ok (.iload_n 1, 1) := by decide +kernel
theorem dX12_see_63 : decode cX12_see 63 = .ok (.iastore, 1) := by decide +kernel
theorem dX12_see_64 : decode cX12_see 64 = .ok (.aload_n 0, 1) := by decide +kernel
theorem dX12_see_65 : decode cX12_see 65 = .ok (.getfield 9, 3) := by decide +kernel
theorem dX12_see_68 : decode cX12_see 68 = .ok (.bipush 82, 2) := by decide +kernel
theorem dX12_see_70 : decode cX12_see 70 = .ok (.aload_n 0, 1) := by decide +kernel
theorem dX12_see_71 : decode cX12_see 71 = .ok (.getfield 9, 3) := by decide +kernel
theorem dX12_see_74 : decode cX12_see 74 = .ok (.iconst 2, 1) := by decide +kernel
theorem dX12_see_75 : decode cX12_see 75 = .ok (.iaload, 1) := by decide +kernel
theorem dX12_see_76 : decode cX12_see 76 = .ok (.iadd, 1) := by decide +kernel
theorem dX12_see_77 : decode cX12_see 77 = .ok (.iload_n 2, 1) := by decide +kernel
theorem dX12_see_78 : decode cX12_see 78 = .ok (.iastore, 1) := by decide +kernel
theorem dX12_see_79 : decode cX12_see 79 = .ok (.aload_n 0, 1) := by decide +kernel
theorem dX12_see_80 : decode cX12_see 80 = .ok (.getfield 9, 3) := by decide +kernel
theorem dX12_see_83 : decode cX12_see 83 = .ok (.bipush 87, 2) := by decide +kernel
theorem dX12_see_85 : decode cX12_see 85 = .ok (.aload_n 0, 1) := by decide +kernel
theorem dX12_see_86 : decode cX12_see 86 = .ok (.getfield 9, 3) := by decide +kernel
theorem dX12_see_89 : decode cX12_see 89 = .ok (.iconst 2, 1) := by decide +kernel
theorem dX12_see_90 : decode cX12_see 90 = .ok (.iaload, 1) := by decide +kernel
theorem dX12_see_91 : decode cX12_see 91 = .ok (.iadd, 1) := by decide +kernel
theorem dX12_see_92 : decode cX12_see 92 = .ok (.iload_n 3, 1) := by decide +kernel
theorem dX12_see_93 : decode cX12_see 93 = .ok (.ifCond .eq 7, 3) := by decide +kernel
theorem dX12_see_96 : decode cX12_see 96 = .ok (.iconst 1, 1) := by decide +kernel
theorem dX12_see_97 : decode cX12_see 97 = .ok (.goto 4, 3) := by decide +kernel
theorem dX12_see_100 : decode cX12_see 100 = .ok (.iconst 0, 1) := by decide +kernel
theorem dX12_see_101 : decode cX12_see 101 = .ok (.iastore, 1) := by decide +kernel
theorem dX12_see_102 : decode cX12_see 102 = .ok (.aload_n 0, 1) := by decide +kernel
theorem dX12_see_103 : decode cX12_see 103 = .ok (.getfield 9, 3) := by decide +kernel
theorem dX12_see_106 : decode cX12_see 106 = .ok (.iconst 2, 1) := by decide +kernel
theorem dX12_see_107 : decode cX12_see 107 = .ok (.dup2, 1) := by decide +kernel
theorem dX12_see_108 : decode cX12_see 108 = .ok (.iaload, 1) := by decide +kernel
theorem dX12_see_109 : decode cX12_see 109 = .ok (.iconst 1, 1) := by decide +kernel
theorem dX12_see_110 : decode cX12_see 110 = .ok (.iadd, 1) := by decide +kernel
theorem dX12_see_111 : decode cX12_see 111 = .ok (.iastore, 1) := by decide +kernel
theorem dX12_see_112 : decode cX12_see 112 = .ok (.aload_n 0, 1) := by decide +kernel
theorem dX12_see_113 : decode cX12_see 113 = .ok (.getfield 9, 3) := by decide +kernel
theorem dX12_see_116 : decode cX12_see 116 = .ok (.iconst 2, 1) := by decide +kernel
theorem dX12_see_117 : decode cX12_see 117 = .ok (.iaload, 1) := by decide +kernel
theorem dX12_see_118 : decode cX12_see 118 = .ok (.ireturn, 1) := by decide +kernel
theorem dX12_areAsSeen_0 : decode cX12_areAsSeen 0 = .ok (.iconst 1, 1) := by decide +kernel
theorem dX12_areAsSeen_1 : decode cX12_areAsSeen 1 = .ok (.istore_n 1, 1) := by decide +kernel
theorem dX12_areAsSeen_2 : decode cX12_areAsSeen 2 = .ok (.iconst 0, 1) := by decide +kernel
theorem dX12_areAsSeen_3 : decode cX12_areAsSeen 3 = .ok (.istore_n 2, 1) := by decide +kernel
theorem dX12_areAsSeen_4 : decode cX12_areAsSeen 4 = .ok (.iload_n 2, 1) := by decide +kernel
theorem dX12_areAsSeen_5 : decode cX12_areAsSeen 5 = .ok (.aload_n 0, 1) := by decide +kernel
theorem dX12_areAsSeen_6 : decode cX12_areAsSeen 6 = .ok (.getfield 9, 3) := by decide +kernel
theorem dX12_areAsSeen_9 : decode cX12_areAsSeen 9 = .ok (.iconst 2, 1) := by decide +kernel
theorem dX12_areAsSeen_10 : decode cX12_areAsSeen 10 = .ok (.iaload, 1) := by decide +kernel
theorem dX12_areAsSeen_11 : decode cX12_areAsSeen 11 = .ok (.if_icmp .ge 70, 3) := by decide +kernel
theorem dX12_areAsSeen_14 : decode cX12_areAsSeen 14 = .ok (.iload_n 1, 1) := by decide +kernel
theorem dX12_areAsSeen_15 : decode cX12_areAsSeen 15 = .ok (.ifCond .eq 66, 3) := by decide +kernel
theorem dX12_areAsSeen_18 : decode cX12_areAsSeen 18 = .ok (.aload_n 0, 1) := by decide +kernel
theorem dX12_areAsSeen_19 : decode cX12_areAsSeen 19 = .ok (.aload_n 0, 1) := by decide +kernel
theorem dX12_areAsSeen_20 : decode cX12_areAsSeen 20 = .ok (.getfield 9, 3) := by decide +kernel
theorem dX12_areAsSeen_23 : decode cX12_areAsSeen 23 = .ok (.bipush 77, 2) := by decide +kernel
theorem dX12_areAsSeen_25 : decode cX12_areAsSeen 25 = .ok (.iload_n 2, 1) := by decide +kernel
theorem dX12_areAsSeen_26 : decode cX12_areAsSeen 26 = .ok (.iadd, 1) := by decide +kernel
theorem dX12_areAsSeen_27 : decode cX12_areAsSeen 27 = .ok (.iaload, 1) := by decide +kernel
theorem dX12_areAsSeen_28 : decode cX12_areAsSeen 28 = .ok (.aload_n 0, 1) := by decide +kernel
theorem dX12_areAsSeen_29 : decode cX12_areAsSeen 29 = .ok (.getfield 9, 3) := by decide +kernel
theorem dX12_areAsSeen_32 : decode cX12_areAsSeen 32 = .ok (.bipush 82, 2) := by decide +kernel
theorem dX12_areAsSeen_34 : decode cX12_areAsSeen 34 = .ok (.iload_n 2, 1) := by decide +kernel
theorem dX12_areAsSeen_35 : decode cX12_areAsSeen 35 = .ok (.iadd, 1) := by decide +kernel
theorem dX12_areAsSeen_36 : decode cX12_areAsSeen 36 = .ok (.iaload, 1) := by decide +kernel
theorem dX12_areAsSeen_37 : decode cX12_areAsSeen 37 = .ok (.invokevirtual 270, 3) := by decide +kernel
theorem dX12_areAsSeen_40 : decode cX12_areAsSeen 40 = .ok (.ifCond .le 7, 3) := by decide +kernel
theorem dX12_areAsSeen_43 : decode cX12_areAsSeen 43 = .ok (.iconst 1, 1) := by decide +kernel
theorem dX12_areAsSeen_44 : decode cX12_areAsSeen 44 = .ok (.goto 4, 3) := by decide +kernel
theorem dX12_areAsSeen_47 : decode cX12_areAsSeen 47 = .ok (.iconst 0, 1) := by decide +kernel
theorem dX12_areAsSeen_48 : decode cX12_areAsSeen 48 = .ok (.aload_n 0, 1) := by decide +kernel
theorem dX12_areAsSeen_49 : decode cX12_areAsSeen 49 = .ok (.getfield 9, 3) := by decide +kernel
theorem dX12_areAsSeen_52 : decode cX12_areAsSeen 52 = .ok (.bipush 87, 2) := by decide +kernel
theorem dX12_areAsSeen_54 : decode cX12_areAsSeen 54 = .ok (.iload_n 2, 1) := by decide +kernel
theorem dX12_areAsSeen_55 : decode cX12_areAsSeen 55 = .ok (.iadd, 1) := by decide +kernel
theorem dX12_areAsSeen_56 : decode cX12_areAsSeen 56 = .ok (.iaload, 1) := by decide +kernel
theorem dX12_areAsSeen_57 : decode cX12_areAsSeen 57 = .ok (.iconst 1, 1) := by decide +kernel
theorem dX12_areAsSeen_58 : decode cX12_areAsSeen 58 = .ok (.if_icmp .ne 7, 3) := by decide +kernel
theorem dX12_areAsSeen_61 : decode cX12_areAsSeen 61 = .ok (.iconst 1, 1) := by decide +kernel
theorem dX12_areAsSeen_62 : decode cX12_areAsSeen 62 = .ok (.goto 4, 3) := by decide +kernel
theorem dX12_areAsSeen_65 : decode cX12_areAsSeen 65 = .ok (.iconst 0, 1) := by decide +kernel
theorem dX12_areAsSeen_66 : decode cX12_areAsSeen 66 = .ok (.if_icmp .ne 7, 3) := by decide +kernel
theorem dX12_areAsSeen_69 : decode cX12_areAsSeen 69 = .ok (.iconst 1, 1) := by decide +kernel
theorem dX12_areAsSeen_70 : decode cX12_areAsSeen 70 = .ok (.goto 4, 3) := by decide +kernel
theorem dX12_areAsSeen_73 : decode cX12_areAsSeen 73 = .ok (.iconst 0, 1) := by decide +kernel
theorem dX12_areAsSeen_74 : decode cX12_areAsSeen 74 = .ok (.istore_n 1, 1) := by decide +kernel
theorem dX12_areAsSeen_75 : decode cX12_areAsSeen 75 = .ok (.iinc 2 1, 3) := by decide +kernel
theorem dX12_areAsSeen_78 : decode cX12_areAsSeen 78 = .ok (.goto (-74), 3) := by decide +kernel
theorem dX12_areAsSeen_81 : decode cX12_areAsSeen 81 = .ok (.iload_n 1, 1) := by decide +kernel
theorem dX12_areAsSeen_82 : decode cX12_areAsSeen 82 = .ok (.ireturn, 1) := by decide +kernel
theorem dX12_can_0 : decode cX12_can 0 = .ok (.aload_n 0, 1) := by decide +kernel
theorem dX12_can_1 : decode cX12_can 1 = .ok (.iload_n 1, 1) := by decide +kernel
theorem dX12_can_2 : decode cX12_can 2 = .ok (.invokevirtual 189, 3) := by decide +kernel
theorem dX12_can_5 : decode cX12_can 5 = .ok (.ifCond .ne 5, 3) := by decide +kernel
theorem dX12_can_8 : decode cX12_can 8 = .ok (.iconst (-1), 1) := by decide +kernel
theorem dX12_can_9 : decode cX12_can 9 = .ok (.ireturn, 1) := by decide +kernel
theorem dX12_can_10 : decode cX12_can 10 = .ok (.aload_n 0, 1) := by decide +kernel
theorem dX12_can_11 : decode cX12_can 11 = .ok (.getfield 9, 3) := by decide +kernel
theorem dX12_can_14 : decode cX12_can 14 = .ok (.bipush 42, 2) := by decide +kernel
theorem dX12_can_16 : decode cX12_can 16 = .ok (.iload_n 1, 1) := by decide +kernel
theorem dX12_can_17 : decode cX12_can 17 = .ok (.iadd, 1) := by decide +kernel
theorem dX12_can_18 : decode cX12_can 18 = .ok (.iaload, 1) := by decide +kernel
theorem dX12_can_19 : decode cX12_can 19 = .ok (.istore_n 2, 1) := by decide +kernel
theorem dX12_can_20 : decode cX12_can 20 = .ok (.iconst 0, 1) := by decide +kernel
theorem dX12_can_21 : decode cX12_can 21 = .ok (.istore_n 3, 1) := by decide +kernel
theorem dX12_can_22 : decode cX12_can 22 = .ok (.iconst 0, 1) := by decide +kernel
theorem dX12_can_23 : decode cX12_can 23 = .ok (.istore 4, 2) := by decide +kernel
theorem dX12_can_25 : decode cX12_can 25 = .ok (.iload 4, 2) := by decide +kernel
theorem dX12_can_27 : decode cX12_can 27 = .ok (.iconst 4, 1) := by decide +kernel
theorem dX12_can_28 : decode cX12_can 28 = .ok (.if_icmp .gt 38, 3) := by decide +kernel
theorem dX12_can_31 : decode cX12_can 31 = .ok (.aload_n 0, 1) := by decide +kernel
theorem dX12_can_32 : decode cX12_can 32 = .ok (.getfield 9, 3) := by decide +kernel
theorem dX12_can_35 : decode cX12_can 35 = .ok (.bipush 42, 2) := by decide +kernel
theorem dX12_can_37 : decode cX12_can 37 = .ok (.iload_n 1, 1) := by decide +kernel
theorem dX12_can_38 : decode cX12_can 38 = .ok (.iadd, 1) := by decide +kernel
theorem dX12_can_39 : decode cX12_can 39 = .ok (.iload 4, 2) := by decide +kernel
theorem dX12_can_41 : decode cX12_can 41 = .ok (.iastore, 1) := by decide +kernel
