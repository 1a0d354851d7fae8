theorem dX10_init_0 : decode cX10_init 0 = .ok (.aload_n 0, 1) := by decide +kernel
theorem dX10_init_1 : decode cX10_init 1 = .ok (.invokespecial 1, 3) := by decide +kernel
theorem dX10_init_4 : decode cX10_init 4 = .ok (.aload_n 0, 1) := by decide +kernel
theorem dX10_init_5 : decode cX10_init 5 = .ok (.iconst 1, 1) := by decide +kernel
theorem dX10_init_6 : decode cX10_init 6 = .ok (.putfield 7, 3) := by decide +kernel
theorem dX10_init_9 : decode cX10_init 9 = .ok (.aload_n 0, 1) := by decide +kernel
theorem dX10_init_10 : decode cX10_init 10 = .ok (.bipush 32, 2) := by decide +kernel
theorem dX10_init_12 : decode cX10_init 12 = .ok (.newarray .int, 2) := by decide +kernel
theorem dX10_init_14 : decode cX10_init 14 = .ok (.putfield 13, 3) := by decide +kernel
theorem dX10_init_17 : decode cX10_init 17 = .ok (.aload_n 0, 1) := by decide +kernel
theorem dX10_init_18 : decode cX10_init 18 = .ok (.bipush 32, 2) := by decide +kernel
theorem dX10_init_20 : decode cX10_init 20 = .ok (.newarray .int, 2) := by decide +kernel
theorem dX10_init_22 : decode cX10_init 22 = .ok (.putfield 17, 3) := by decide +kernel
theorem dX10_init_25 : decode cX10_init 25 = .ok (.aload_n 0, 1) := by decide +kernel
theorem dX10_init_26 : decode cX10_init 26 = .ok (.bipush 8, 2) := by decide +kernel
theorem dX10_init_28 : decode cX10_init 28 = .ok (.newarray .int, 2) := by decide +kernel
theorem dX10_init_30 : decode cX10_init 30 = .ok (.putfield 20, 3) := by decide +kernel
theorem dX10_init_33 : decode cX10_init 33 = .ok (.aload_n 0, 1) := by decide +kernel
theorem dX10_init_34 : decode cX10_init 34 = .ok (.bipush 8, 2) := by decide +kernel
theorem dX10_init_36 : decode cX10_init 36 = .ok (.newarray .boolean, 2) := by decide +kernel
theorem dX10_init_38 : decode cX10_init 38 = .ok (.putfield 23, 3) := by decide +kernel
theorem dX10_init_41 : decode cX10_init 41 = .ok (.aload_n 0, 1) := by decide +kernel
theorem dX10_init_42 : decode cX10_init 42 = .ok (.bipush 8, 2) := by decide +kernel
theorem dX10_init_44 : decode cX10_init 44 = .ok (.newarray .int, 2) := by decide +kernel
theorem dX10_init_46 : decode cX10_init 46 = .ok (.putfield 27, 3) := by decide +kernel
theorem dX10_init_49 : decode cX10_init 49 = .ok (.aload_n 0, 1) := by decide +kernel
theorem dX10_init_50 : decode cX10_init 50 = .ok (.iconst 4, 1) := by decide +kernel
theorem dX10_init_51 : decode cX10_init 51 = .ok (.newarray .int, 2) := by decide +kernel
theorem dX10_init_53 : decode cX10_init 53 = .ok (.putfield 30, 3) := by decide +kernel
theorem dX10_init_56 : decode cX10_init 56 = .ok (.aload_n 0, 1) := by decide +kernel
theorem dX10_init_57 : decode cX10_init 57 = .ok (.iconst 4, 1) := by decide +kernel
theorem dX10_init_58 : decode cX10_init 58 = .ok (.newarray .int, 2) := by decide +kernel
theorem dX10_init_60 : decode cX10_init 60 = .ok (.putfield 33, 3) := by decide +kernel
theorem dX10_init_63 : decode cX10_init 63 = .ok (.aload_n 0, 1) := by decide +kernel
theorem dX10_init_64 : decode cX10_init 64 = .ok (.iconst 4, 1) := by decide +kernel
theorem dX10_init_65 : decode cX10_init 65 = .ok (.newarray .int, 2) := by decide +kernel
theorem dX10_init_67 : decode cX10_init 67 = .ok (.putfield 36, 3) := by decide +kernel
theorem dX10_init_70 : decode cX10_init 70 = .ok (.aload_n 0, 1) := by decide +kernel
theorem dX10_init_71 : decode cX10_init 71 = .ok (.bipush 8, 2) := by decide +kernel
theorem dX10_init_73 : decode cX10_init 73 = .ok (.newarray .int, 2) := by decide +kernel
theorem dX10_init_75 : decode cX10_init 75 = .ok (.putfield 39, 3) := by decide +kernel
theorem dX10_init_78 : decode cX10_init 78 = .ok (.aload_n 0, 1) := by decide +kernel
theorem dX10_init_79 : decode cX10_init 79 = .ok (.bipush 8, 2) := by decide +kernel
theorem dX10_init_81 : decode cX10_init 81 = .ok (.newarray .int, 2) := by decide +kernel
theorem dX10_init_83 : decode cX10_init 83 = .ok (.putfield 42, 3) := by decide +kernel
theorem dX10_init_86 : decode cX10_init 86 = .ok (.aload_n 0, 1) := by decide +kernel
theorem dX10_init_87 : decode cX10_init 87 = .ok (.bipush 8, 2) := by decide +kernel
theorem dX10_init_89 : decode cX10_init 89 = .ok (.newarray .int, 2) := by decide +kernel
theorem dX10_init_91 : decode cX10_init 91 = .ok (.putfield 45, 3) := by decide +kernel
theorem dX10_init_94 : decode cX10_init 94 = .ok (.aload_n 0, 1) := by decide +kernel
theorem dX10_init_95 : decode cX10_init 95 = .ok (.bipush 8, 2) := by decide +kernel
theorem dX10_init_97 : decode cX10_init 97 = .ok (.newarray .boolean, 2) := by decide +kernel
theorem dX10_init_99 : decode cX10_init 99 = .ok (.putfield 48, 3) := by decide +kernel
theorem dX10_init_102 : decode cX10_init 102 = .ok (.aload_n 0, 1) := by decide +kernel
theorem dX10_init_103 : decode cX10_init 103 = .ok (.sipush 150, 3) := by decide +kernel
theorem dX10_init_106 : decode cX10_init 106 = .ok (.newarray .int, 2) := by decide +kernel
theorem dX10_init_108 : decode cX10_init 108 = .ok (.putfield 51, 3) := by decide +kernel
theorem dX10_init_111 : decode cX10_init 111 = .ok (.aload_n 0, 1) := by decide +kernel
theorem dX10_init_112 : decode cX10_init 112 = .ok (.sipush 150, 3) := by decide +kernel
theorem dX10_init_115 : decode cX10_init 115 = .ok (.newarray .int, 2) := by decide +kernel
theorem dX10_init_117 : decode cX10_init 117 = .ok (.putfield 54, 3) := by decide +kernel
theorem dX10_init_120 : decode cX10_init 120 = .ok (.aload_n 0, 1) := by decide +kernel
theorem dX10_init_121 : decode cX10_init 121 = .ok (.sipush 150, 3) := by decide +kernel
theorem dX10_init_124 : decode cX10_init 124 = .ok (.newarray .int, 2) := by decide +kernel
theorem dX10_init_126 : decode cX10_init 126 = .ok (.putfield 57, 3) := by decide +kernel
theorem dX10_init_129 : decode cX10_init 129 = .ok (.aload_n 0, 1) := by decide +kernel
theorem dX10_init_130 : decode cX10_init 130 = .ok (.sipush 150, 3) := by decide +kernel
theorem dX10_init_133 : decode cX10_init 133 = .ok (.newarray .int, 2) := by decide +kernel
theorem dX10_init_135 : decode cX10_init 135 = .ok (.putfield 60, 3) := by decide +kernel
theorem dX10_init_138 : decode cX10_init 138 = .ok (.aload_n 0, 1) := by decide +kernel
theorem dX10_init_139 : decode cX10_init 139 = .ok (.sipush 150, 3) := by decide +kernel
theorem dX10_init_142 : decode cX10_init 142 = .ok (.newarray .int, 2) := by decide +kernel
theorem dX10_init_144 : decode cX10_init 144 = .ok (.putfield 63, 3) := by decide +kernel
theorem dX10_init_147 : decode cX10_init 147 = .ok (.aload_n 0, 1) := by decide +kernel
theorem dX10_init_148 : decode cX10_init 148 = .ok (.sipush 150, 3) := by decide +kernel
theorem dX10_init_151 : decode cX10_init 151 = .ok (.newarray .int, 2) := by decide +kernel
theorem dX10_init_153 : decode cX10_init 153 = .ok (.putfield 66, 3) := by decide +kernel
theorem dX10_init_156 : decode cX10_init 156 = .ok (.aload_n 0, 1) := by decide +kernel
theorem dX10_init_157 : decode cX10_init 157 = .ok (.sipush 150, 3) := by decide +kernel
theorem dX10_init_160 : decode cX10_init 160 = .ok (.newarray .int, 2) := by decide +kernel
theorem dX10_init_162 : decode cX10_init 162 = .ok (.putfield 69, 3) := by decide +kernel
theorem dX10_init_165 : decode cX10_init 165 = .ok (.aload_n 0, 1) := by decide +kernel
theorem dX10_init_166 : decode cX10_init 166 = .ok (.sipush 150, 3) := by decide +kernel
theorem dX10_init_169 : decode cX10_init 169 = .ok (.newarray .boolean, 2) := by decide +kernel
theorem dX10_init_171 : decode cX10_init 171 = .ok (.putfield 72, 3) := by decide +kernel
theorem dX10_init_174 : decode cX10_init 174 = .ok (.aload_n 0, 1) := by decide +kernel
theorem dX10_init_175 : decode cX10_init 175 = .ok (.sipush 150, 3) := by decide +kernel
theorem dX10_init_178 : decode cX10_init 178 = .ok (.newarray .int, 2) := by decide +kernel
theorem dX10_init_180 : decode cX10_init 180 = .ok (.putfield 75, 3) := by decide +kernel
theorem dX10_init_183 : decode cX10_init 183 = .ok (.aload_n 0, 1) := by decide +kernel
theorem dX10_init_184 : decode cX10_init 184 = .ok (.sipush 150, 3) := by decide +kernel
theorem dX10_init_187 : decode cX10_init 187 = .ok (.newarray .int, 2) := by decide +kernel
theorem dX10_init_189 : decode cX10_init 189 = .ok (.putfield 78, 3) := by decide +kernel
theorem dX10_init_192 : decode cX10_init 192 = .ok (.aload_n 0, 1) := by decide +kernel
theorem dX10_init_193 : decode cX10_init 193 = .ok (.sipush 150, 3) := by decide +kernel
theorem dX10_init_196 : decode cX10_init 196 = .ok (.newarray .int, 2) := by decide +kernel
theorem dX10_init_198 : decode cX10_init 198 = .ok (.putfield 81, 3) := by decide +kernel
theorem dX10_init_201 : decode cX10_init 201 = .ok (.aload_n 0, 1) := by decide +kernel
theorem dX10_init_202 : decode cX10_init 202 = .ok (.sipush 150, 3) := by decide +kernel
theorem dX10_init_205 : decode cX10_init 205 = .ok (.newarray .int, 2) := by decide +kernel
theorem dX10_init_207 : decode cX10_init 207 = .ok (.putfield 84, 3) := by decide +kernel
theorem dX10_init_210 : decode cX10_init 210 = .ok (.aload_n 0, 1) := by decide +kernel
theorem dX10_init_211 : decode cX10_init 211 = .ok (.sipush 150, 3) := by decide +kernel
theorem dX10_init_214 : decode cX10_init 214 = .ok (.newarray .boolean, 2) := by decide +kernel
theorem dX10_init_216 : decode cX10_init 216 = .ok (.putfield 87, 3) := by decide +kernel
theorem dX10_init_219 : decode cX10_init 219 = .ok (.aload_n 0, 1) := by decide +kernel
theorem dX10_init_220 : decode cX10_init 220 = .ok (.sipush 150, 3) := by decide +kernel
theorem dX10_init_223 : decode cX10_init 223 = .ok (.newarray .int, 2) := by decide +kernel
theorem dX10_init_225 : decode cX10_init 225 = .ok (.putfield 90, 3) := by decide +kernel
theorem dX10_init_228 : decode cX10_init 228 = .ok (.aload_n 0, 1) := by decide +kernel
theorem dX10_init_229 : decode cX10_init 229 = .ok (.sipush 150, 3) := by decide +kernel
theorem dX10_init_232 : decode cX10_init 232 = .ok (.newarray .int, 2) := by decide +kernel
theorem dX10_init_234 : decode cX10_init 234 = .ok (.putfield 93, 3) := by decide +kernel
theorem dX10_init_237 : decode cX10_init 237 = .ok (.aload_n 0, 1) := by decide +kernel
theorem dX10_init_238 : decode cX10_init 238 = .ok (.sipush 150, 3) := by decide +kernel
theorem dX10_init_241 : decode cX10_init 241 = .ok (.newarray .int, 2) := by decide +kernel
theorem dX10_init_243 : decode cX10_init 243 = .ok (.putfield 96, 3) := by decide +kernel
theorem dX10_init_246 : decode cX10_init 246 = .ok (.aload_n 0, 1) := by decide +kernel
theorem dX10_init_247 : decode cX10_init 247 = .ok (.sipush 150, 3) := by decide +kernel
theorem dX10_init_250 : decode cX10_init 250 = .ok (.newarray .int, 2) := by decide +kernel
theorem dX10_init_252 : decode cX10_init 252 = .ok (.putfield 99, 3) := by decide +kernel
theorem dX10_init_255 : decode cX10_init 255 = .ok (.aload_n 0, 1) := by decide +kernel
theorem dX10_init_256 : decode cX10_init 256 = .ok (.sipush 150, 3) := by decide +kernel
theorem dX10_init_259 : decode cX10_init 259 = .ok (.newarray .int, 2) := by decide +kernel
theorem dX10_init_261 : decode cX10_init 261 = .ok (.putfield 102, 3) := by decide +kernel
theorem dX10_init_264 : decode cX10_init 264 = .ok (.aload_n 0, 1) := by decide +kernel
theorem dX10_init_265 : decode cX10_init 265 = .ok (.sipush 150, 3) := by decide +kernel
theorem dX10_init_268 : decode cX10_init 268 = .ok (.newarray .int, 2) := by decide +kernel
theorem dX10_init_270 : decode cX10_init 270 = .ok (.putfield 105, 3) := by decide +kernel
theorem dX10_init_273 : decode cX10_init 273 = .ok (.aload_n 0, 1) := by decide +kernel
theorem dX10_init_274 : decode cX10_init 274 = .ok (.sipush 150, 3) := by decide +kernel
theorem dX10_init_277 : decode cX10_init 277 = .ok (.newarray .boolean, 2) := by decide +kernel
theorem dX10_init_279 : decode cX10_init 279 = .ok (.putfield 108, 3) := by decide +kernel
theorem dX10_init_282 : decode cX10_init 282 = .ok (.aload_n 0, 1) := by decide +kernel
theorem dX10_init_283 : decode cX10_init 283 = .ok (.iconst 3, 1) := by decide +kernel
theorem dX10_init_284 : decode cX10_init 284 = .ok (.newarray .int, 2) := by decide +kernel
theorem dX10_init_286 : decode cX10_init 286 = .ok (.putfield 111, 3) := by decide +kernel
theorem dX10_init_289 : decode cX10_init 289 = .ok (.aload_n 0, 1) := by decide +kernel
theorem dX10_init_290 : decode cX10_init 290 = .ok (.iconst 3, 1) := by decide +kernel
theorem dX10_init_291 : decode cX10_init 291 = .ok (.newarray .boolean, 2) := by decide +kernel
theorem dX10_init_293 : decode cX10_init 293 = .ok (.putfield 114, 3) := by decide +kernel
theorem dX10_init_296 : decode cX10_init 296 = .ok (.aload_n 0, 1) := by decide +kernel
theorem dX10_init_297 : decode cX10_init 297 = .ok (.iconst 3, 1) := by decide +kernel
theorem dX10_init_298 : decode cX10_init 298 = .ok (.newarray .int, 2) := by decide +kernel
theorem dX10_init_300 : decode cX10_init 300 = .ok (.putfield 117, 3) := by decide +kernel
theorem dX10_init_303 : decode cX10_init 303 = .ok (.aload_n 0, 1) := by decide +kernel
theorem dX10_init_304 : decode cX10_init 304 = .ok (.iconst 3, 1) := by decide +kernel
theorem dX10_init_305 : decode cX10_init 305 = .ok (.newarray .int, 2) := by decide +kernel
theorem dX10_init_307 : decode cX10_init 307 = .ok (.putfield 120, 3) := by decide +kernel
theorem dX10_init_310 : decode cX10_init 310 = .ok (.aload_n 0, 1) := by decide +kernel
theorem dX10_init_311 : decode cX10_init 311 = .ok (.iconst 3, 1) := by decide +kernel
theorem dX10_init_312 : decode cX10_init 312 = .ok (.newarray .int, 2) := by decide +kernel
theorem dX10_init_314 : decode cX10_init 314 = .ok (.putfield 123, 3) := by decide +kernel
theorem dX10_init_317 : decode cX10_init 317 = .ok (.aload_n 0, 1) := by decide +kernel
theorem dX10_init_318 : decode cX10_init 318 = .ok (.iconst 3, 1) := by decide +kernel
theorem dX10_init_319 : decode cX10_init 319 = .ok (.newarray .int, 2) := by decide +kernel
theorem dX10_init_321 : decode cX10_init 321 = .ok (.putfield 126, 3) := by decide +kernel
theorem dX10_init_324 : decode cX10_init 324 = .ok (.aload_n 0, 1) := by decide +kernel
theorem dX10_init_325 : decode cX10_init 325 = .ok (.iconst 3, 1) := by decide +kernel
theorem dX10_init_326 : decode cX10_init 326 = .ok (.newarray .int, 2) := by decide +kernel
theorem dX10_init_328 : decode cX10_init 328 = .ok (.putfield 129, 3) := by decide +kernel
theorem dX10_init_331 : decode cX10_init 331 = .ok (.aload_n 0, 1) := by decide +kernel
theorem dX10_init_332 : decode cX10_init 332 = .ok (.bipush 24, 2) := by decide +kernel
theorem dX10_init_334 : decode cX10_init 334 = .ok (.newarray .int, 2) := by decide +kernel
theorem dX10_init_336 : decode cX10_init 336 = .ok (.putfield 132, 3) := by decide +kernel
theorem dX10_init_339 : decode cX10_init 339 = .ok (.aload_n 0, 1) := by decide +kernel
theorem dX10_init_340 : decode cX10_init 340 = .ok (.bipush 24, 2) := by decide +kernel
theorem dX10_init_342 : decode cX10_init 342 = .ok (.newarray .int, 2) := by decide +kernel
theorem dX10_init_344 : decode cX10_init 344 = .ok (.putfield 135, 3) := by decide +kernel
theorem dX10_init_347 : decode cX10_init 347 = .ok (.aload_n 0, 1) := by decide +kernel
theorem dX10_init_348 : decode cX10_init 348 = .ok (.bipush 24, 2) := by decide +kernel
theorem dX10_init_350 : decode cX10_init 350 = .ok (.newarray .int, 2) := by decide +kernel
theorem dX10_init_352 : decode cX10_init 352 = .ok (.putfield 138, 3) := by decide +kernel
theorem dX10_init_355 : decode cX10_init 355 = .ok (.aload_n 0, 1) := by decide +kernel
theorem dX10_init_356 : decode cX10_init 356 = .ok (.bipush 24, 2) := by decide +kernel
theorem dX10_init_358 : decode cX10_init 358 = .ok (.newarray .boolean, 2) := by decide +kernel
theorem dX10_init_360 : decode cX10_init 360 = .ok (.putfield 141, 3) := by decide +kernel
theorem dX10_init_363 : decode cX10_init 363 = .ok (.aload_n 0, 1) := by decide +kernel
theorem dX10_init_364 : decode cX10_init 364 = .ok (.bipush 20, 2) := by decide +kernel
theorem dX10_init_366 : decode cX10_init 366 = .ok (.newarray .int, 2) := by decide +kernel
theorem dX10_init_368 : decode cX10_init 368 = .ok (.putfield 144, 3) := by decide +kernel
theorem dX10_init_371 : decode cX10_init 371 = .ok (.aload_n 0, 1) := by decide +kernel
theorem dX10_init_372 : decode cX10_init 372 = .ok (.bipush 20, 2) := by decide +kernel
theorem dX10_init_374 : decode cX10_init 374 = .ok (.newarray .int, 2) := by decide +kernel
theorem dX10_init_376 : decode cX10_init 376 = .ok (.putfield 147, 3) := by decide +kernel
theorem dX10_init_379 : decode cX10_init 379 = .ok (.aload_n 0, 1) := by decide +kernel
theorem dX10_init_380 : decode cX10_init 380 = .ok (.bipush 20, 2) := by decide +kernel
theorem dX10_init_382 : decode cX10_init 382 = .ok (.newarray .int, 2) := by decide +kernel
theorem dX10_init_384 : decode cX10_init 384 = .ok (.putfield 150, 3) := by decide +kernel
theorem dX10_init_387 : decode cX10_init 387 = .ok (.aload_n 0, 1) := by decide +kernel
theorem dX10_init_388 : decode cX10_init 388 = .ok (.bipush 20, 2) := by decide +kernel
theorem dX10_init_390 : decode cX10_init 390 = .ok (.newarray .int, 2) := by decide +kernel
theorem dX10_init_392 : decode cX10_init 392 = .ok (.putfield 153, 3) := by decide +kernel
theorem dX10_init_395 : decode cX10_init 395 = .ok (.iconst 0, 1) := by decide +kernel
theorem dX10_init_396 : decode cX10_init 396 = .ok (.istore_n 1, 1) := by decide +kernel
theorem dX10_init_397 : decode cX10_init 397 = .ok (.iload_n 1, 1) := by decide +kernel
theorem dX10_init_398 : decode cX10_init 398 = .ok (.bipush 32, 2) := by decide +kernel
theorem dX10_init_400 : decode cX10_init 400 = .ok (.if_icmp .ge 18, 3) := by decide +kernel
theorem dX10_init_403 : decode cX10_init 403 = .ok (.aload_n 0, 1) := by decide +kernel
theorem dX10_init_404 : decode cX10_init 404 = .ok (.getfield 13, 3) := by decide +kernel
theorem dX10_init_407 : decode cX10_init 407 = .ok (.iload_n 1, 1) := by decide +kernel
theorem dX10_init_408 : decode cX10_init 408 = .ok (.sipush 10000, 3) := by decide +kernel
theorem dX10_init_411 : decode cX10_init 411 = .ok (.iastore, 1) := by decide +kernel
theorem dX10_init_412 : decode cX10_init 412 = .ok (.iinc 1 1, 3) := by decide +kernel
theorem dX10_init_415 : decode cX10_init 415 = .ok (.goto (-18), 3) := by decide +kernel
theorem dX10_init_418 : decode cX10_init 418 = .ok (.iconst 0, 1) := by decide +kernel
theorem dX10_init_419 : decode cX10_init 419 = .ok (.istore_n 1, 1) := by decide +kernel
theorem dX10_init_420 : decode cX10_init 420 = .ok (.iload_n 1, 1) := by decide +kernel
theorem dX10_init_421 : decode cX10_init 421 = .ok (.iconst 4, 1) := by decide +kernel
theorem dX10_init_422 : decode cX10_init 422 = .ok (.if_icmp .ge 35, 3) := by decide +kernel
theorem dX10_init_425 : decode cX10_init 425 = .ok (.aload_n 0, 1) := by decide +kernel
theorem dX10_init_426 : decode cX10_init 426 = .ok (.getfield 30, 3) := by decide +kernel
theorem dX10_init_429 : decode cX10_init 429 = .ok (.iload_n 1, 1) := by decide +kernel
theorem dX10_init_430 : decode cX10_init 430 = .ok (.sipush 1000, 3) := by decide +kernel
theorem dX10_init_433 : decode cX10_init 433 = .ok (.iastore, 1) := by decide +kernel
theorem dX10_init_434 : decode cX10_init 434 = .ok (.aload_n 0, 1) := by decide +kernel
theorem dX10_init_435 : decode cX10_init 435 = .ok (.getfield 33, 3) := by decide +kernel
theorem dX10_init_438 : decode cX10_init 438 = .ok (.iload_n 1, 1) := by decide +kernel
theorem dX10_init_439 : decode cX10_init 439 = .ok (.bipush 100, 2) := by decide +kernel
theorem dX10_init_441 : decode cX10_init 441 = .ok (.iastore, 1) := by decide +kernel
theorem dX10_init_442 : decode cX10_init 442 = .ok (.aload_n 0, 1) := by decide +kernel
theorem dX10_init_443 : decode cX10_init 443 = .ok (.getfield 36, 3) := by decide +kernel
theorem dX10_init_446 : decode cX10_init 446 = .ok (.iload_n 1, 1) := by decide +kernel
theorem dX10_init_447 : decode cX10_init 447 = .ok (.iload_n 1, 1) := by decide +kernel
theorem dX10_init_448 : decode cX10_init 448 = .ok (.iconst 3, 1) := by decide +kernel
theorem dX10_init_449 : decode cX10_init 449 = .ok (.irem, 1) := by decide +kernel
theorem dX10_init_450 : decode cX10_init 450 = .ok (.iastore, 1) := by decide +kernel
theorem dX10_init_451 : decode cX10_init 451 = .ok (.iinc 1 1, 3) := by decide +kernel
theorem dX10_init_454 : decode cX10_init 454 = .ok (.goto (-34), 3) := by decide +kernel
theorem dX10_init_457 : decode cX10_init 457 = .ok (.iconst 0, 1) := by decide +kernel
theorem dX10_init_458 : decode cX10_init 458 = .ok (.istore_n 1, 1) := by decide +kernel
theorem dX10_init_459 : decode cX10_init 459 = .ok (.iload_n 1, 1) := by decide +kernel
theorem dX10_init_460 : decode cX10_init 460 = .ok (.bipush 8, 2) := by decide +kernel
theorem dX10_init_462 : decode cX10_init 462 = .ok (.if_icmp .ge 23, 3) := by decide +kernel
theorem dX10_init_465 : decode cX10_init 465 = .ok (.aload_n 0, 1) := by decide +kernel
theorem dX10_init_466 : decode cX10_init 466 = .ok (.getfield 42, 3) := by decide +kernel
theorem dX10_init_469 : decode cX10_init 469 = .ok (.iload_n 1, 1) := by decide +kernel
theorem dX10_init_470 : decode cX10_init 470 = .ok (.iconst 1, 1) := by decide +kernel
theorem dX10_init_471 : decode cX10_init 471 = .ok (.iastore, 1) := by decide +kernel
theorem dX10_init_472 : decode cX10_init 472 = .ok (.aload_n 0, 1) := by decide +kernel
theorem dX10_init_473 : decode cX10_init 473 = .ok (.getfield 48, 3) := by decide +kernel
theorem dX10_init_476 : decode cX10_init 476 = .ok (.iload_n 1, 1) := by decide +kernel
theorem dX10_init_477 : decode cX10_init 477 = .ok (.iconst 1, 1) := by decide +kernel
theorem dX10_init_478 : decode cX10_init 478 = .ok (.bastore, 1) := by decide +kernel
theorem dX10_init_479 : decode cX10_init 479 = .ok (.iinc 1 1, 3) := by decide +kernel
theorem dX10_init_482 : decode cX10_init 482 = .ok (.goto (-23), 3) := by decide +kernel
theorem dX10_init_485 : decode cX10_init 485 = .ok (.iconst 0, 1) := by decide +kernel
theorem dX10_init_486 : decode cX10_init 486 = .ok (.istore_n 1, 1) := by decide +kernel
theorem dX10_init_487 : decode cX10_init 487 = .ok (.iload_n 1, 1) := by decide +kernel
theorem dX10_init_488 : decode cX10_init 488 = .ok (.iconst 3, 1) := by decide +kernel
theorem dX10_init_489 : decode cX10_init 489 = .ok (.if_icmp .ge 43, 3) := by decide +kernel
theorem dX10_init_492 : decode cX10_init 492 = .ok (.aload_n 0, 1) := by decide +kernel
theorem dX10_init_493 : decode cX10_init 493 = .ok (.getfield 111, 3) := by decide +kernel
theorem dX10_init_496 : decode cX10_init 496 = .ok (.iload_n 1, 1) := by decide +kernel
theorem dX10_init_497 : decode cX10_init 497 = .ok (.bipush 10, 2) := by decide +kernel
theorem dX10_init_499 : decode cX10_init 499 = .ok (.iastore, 1) := by decide +kernel
theorem dX10_init_500 : decode cX10_init 500 = .ok (.aload_n 0, 1) := by decide +kernel
theorem dX10_init_501 : decode cX10_init 501 = .ok (.getfield 114, 3) := by decide +kernel
theorem dX10_init_504 : decode cX10_init 504 = .ok (.iload_n 1, 1) := by decide +kernel
theorem dX10_init_505 : decode cX10_init 505 = .ok (.iconst 1, 1) := by decide +kernel
theorem dX10_init_506 : decode cX10_init 506 = .ok (.bastore, 1) := by decide +kernel
theorem dX10_init_507 : decode cX10_init 507 = .ok (.aload_n 0, 1) := by decide +kernel
theorem dX10_init_508 : decode cX10_init 508 = .ok (.getfield 120, 3) := by decide +kernel
theorem dX10_init_511 : decode cX10_init 511 = .ok (.iload_n 1, 1) := by decide +kernel
theorem dX10_init_512 : decode cX10_init 512 = .ok (.iconst (-1), 1) := by decide +kernel
theorem dX10_init_513 : decode cX10_init 513 = .ok (.iastore, 1) := by decide +kernel
theorem dX10_init_514 : decode cX10_init 514 = .ok (.aload_n 0, 1) := by decide +kernel
theorem dX10_init_515 : decode cX10_init 515 = .ok (.getfield 129, 3) := by decide +kernel
theorem dX10_init_518 : decode cX10_init 518 = .ok (.iload_n 1, 1) := by decide +kernel
theorem dX10_init_519 : decode cX10_init 519 = .ok (.iconst (-1), 1) := by decide +kernel
theorem dX10_init_520 : decode cX10_init 520 = .ok (.iastore, 1) := by decide +kernel
theorem dX10_init_521 : decode cX10_init 521 = .ok (.aload_n 0, 1) := by decide +kernel
theorem dX10_init_522 : decode cX10_init 522 = .ok (.iload_n 1, 1) := by decide +kernel
theorem dX10_init_523 : decode cX10_init 523 = .ok (.invokevirtual 156, 3) := by decide +kernel
theorem dX10_init_526 : decode cX10_init 526 = .ok (.iinc 1 1, 3) := by decide +kernel
theorem dX10_init_529 : decode cX10_init 529 = .ok (.goto (-42), 3) := by decide +kernel
theorem dX10_init_532 : decode cX10_init 532 = .ok (.return_, 1) := by decide +kernel
theorem dX10_thrown_0 : decode cX10_thrown 0 = .ok (.aload_n 0, 1) := by decide +kernel
theorem dX10_thrown_1 : decode cX10_thrown 1 = .ok (.getfield 160, 3) := by decide +kernel
theorem dX10_thrown_4 : decode cX10_thrown 4 = .ok (.ireturn, 1) := by decide +kernel
theorem dX10_fails_0 : decode cX10_fails 0 = .ok (.aload_n 0, 1) := by decide +kernel
theorem dX10_fails_1 : decode cX10_fails 1 = .ok (.iload_n 1, 1) := by decide +kernel
theorem dX10_fails_2 : decode cX10_fails 2 = .ok (.putfield 160, 3) := by decide +kernel
theorem dX10_fails_5 : decode cX10_fails 5 = .ok (.iload_n 1, 1) := by decide +kernel
theorem dX10_fails_6 : decode cX10_fails 6 = .ok (.ifCond .le 7, 3) := by decide +kernel
theorem dX10_fails_9 : decode cX10_fails 9 = .ok (.iconst 1, 1) := by decide +kernel
theorem dX10_fails_10 : decode cX10_fails 10 = .ok (.goto 4, 3) := by decide +kernel
theorem dX10_fails_13 : decode cX10_fails 13 = .ok (.iconst 0, 1) := by decide +kernel
theorem dX10_fails_14 : decode cX10_fails 14 = .ok (.ireturn, 1) := by decide +kernel
theorem dX10_isIn_0 : decode cX10_isIn 0 = .ok (.iload_n 0, 1) := by decide +kernel
theorem dX10_isIn_1 : decode cX10_isIn 1 = .ok (.iload_n 1, 1) := by decide +kernel
theorem dX10_isIn_2 : decode cX10_isIn 2 = .ok (.if_icmp .lt 12, 3) := by decide +kernel
theorem dX10_isIn_5 : decode cX10_isIn 5 = .ok (.iload_n 0, 1) := by decide +kernel
theorem dX10_isIn_6 : decode cX10_isIn 6 = .ok (.iload_n 2, 1) := by decide +kernel
theorem dX10_isIn_7 : decode cX10_isIn 7 = .ok (.if_icmp .gt 7, 3) := by decide +kernel
theorem dX10_isIn_10 : decode cX10_isIn 10 = .ok (.iconst 1, 1) := by decide +kernel
theorem dX10_isIn_11 : decode cX10_isIn 11 = .ok (.goto 4, 3) := by decide +kernel
theorem dX10_isIn_14 : decode cX10_isIn 14 = .ok (.iconst 0, 1) := by decide +kernel
theorem dX10_isIn_15 : decode cX10_isIn 15 = .ok (.ireturn, 1) := by decide +kernel
theorem dX10_isEight_0 : decode cX10_isEight 0 = .ok (.iload_n 0, 1) := by decide +kernel
theorem dX10_isEight_1 : decode cX10_isEight 1 = .ok (.iconst 0, 1) := by decide +kernel
theorem dX10_isEight_2 : decode cX10_isEight 2 = .ok (.bipush 7, 2) := by decide +kernel
theorem dX10_isEight_4 : decode cX10_isEight 4 = .ok (.invokestatic 163, 3) := by decide +kernel
theorem dX10_isEight_7 : decode cX10_isEight 7 = .ok (.ireturn, 1) := by decide +kernel
theorem dX10_isKind_0 : decode cX10_isKind 0 = .ok (.iload_n 0, 1) := by decide +kernel
theorem dX10_isKind_1 : decode cX10_isKind 1 = .ok (.iconst 0, 1) := by decide +kernel
theorem dX10_isKind_2 : decode cX10_isKind 2 = .ok (.iconst 3, 1) := by decide +kernel
theorem dX10_isKind_3 : decode cX10_isKind 3 = .ok (.invokestatic 163, 3) := by decide +kernel
theorem dX10_isKind_6 : decode cX10_isKind 6 = .ok (.ireturn, 1) := by decide +kernel
theorem dX10_isHall_0 : decode cX10_isHall 0 = .ok (.iload_n 0, 1) := by decide +kernel
theorem dX10_isHall_1 : decode cX10_isHall 1 = .ok (.iconst 0, 1) := by decide +kernel
theorem dX10_isHall_2 : decode cX10_isHall 2 = .ok (.iconst 2, 1) := by decide +kernel
theorem dX10_isHall_3 : decode cX10_isHall 3 = .ok (.invokestatic 163, 3) := by decide +kernel
theorem dX10_isHall_6 : decode cX10_isHall 6 = .ok (.ireturn, 1) := by decide +kernel
theorem dX10_isBox_0 : decode cX10_isBox 0 = .ok (.iload_n 1, 1) := by decide +kernel
theorem dX10_isBox_1 : decode cX10_isBox 1 = .ok (.iconst 0, 1) := by decide +kernel
theorem dX10_isBox_2 : decode cX10_isBox 2 = .ok (.aload_n 0, 1) := by decide +kernel
theorem dX10_isBox_3 : decode cX10_isBox 3 = .ok (.getfield 167, 3) := by decide +kernel
theorem dX10_isBox_6 : decode cX10_isBox 6 = .ok (.iconst 1, 1) := by decide +kernel
theorem dX10_isBox_7 : decode cX10_isBox 7 = .ok (.isub, 1) := by decide +kernel
theorem dX10_isBox_8 : decode cX10_isBox 8 = .ok (.invokestatic 163, 3) := by decide +kernel
theorem dX10_isBox_11 : decode cX10_isBox 11 = .ok (.ireturn, 1) := by decide +kernel
theorem dX10_quota_0 : decode cX10_quota 0 = .ok (.iload_n 1, 1) := by decide +kernel
theorem dX10_quota_1 : decode cX10_quota 1 = .ok (.invokestatic 170, 3) := by decide +kernel
theorem dX10_quota_4 : decode cX10_quota 4 = .ok (.ifCond .eq 14, 3) := by decide +kernel
theorem dX10_quota_7 : decode cX10_quota 7 = .ok (.iload_n 2, 1) := by decide +kernel
theorem dX10_quota_8 : decode cX10_quota 8 = .ok (.invokestatic 174, 3) := by decide +kernel
theorem dX10_quota_11 : decode cX10_quota 11 = .ok (.ifCond .eq 7, 3) := by decide +kernel
theorem dX10_quota_14 : decode cX10_quota 14 = .ok (.iconst 1, 1) := by decide +kernel
theorem dX10_quota_15 : decode cX10_quota 15 = .ok (.goto 4, 3) := by decide +kernel
theorem dX10_quota_18 : decode cX10_quota 18 = .ok (.iconst 0, 1) := by decide +kernel
theorem dX10_quota_19 : decode cX10_quota 19 = .ok (.istore 4, 2) := by decide +kernel
theorem dX10_quota_21 : decode cX10_quota 21 = .ok (.aload_n 0, 1) := by decide +kernel
theorem dX10_quota_22 : decode cX10_quota 22 = .ok (.iload 4, 2) := by decide +kernel
theorem dX10_quota_24 : decode cX10_quota 24 = .ok (.ifCond .ne 7, 3) := by decide +kernel
theorem dX10_quota_27 : decode cX10_quota 27 = .ok (.iconst 1, 1) := by decide +kernel
theorem dX10_quota_28 : decode cX10_quota 28 = .ok (.goto 18, 3) := by decide +kernel
theorem dX10_quota_31 : decode cX10_quota 31 = .ok (.iload_n 3, 1) := by decide +kernel
theorem dX10_quota_32 : decode cX10_quota 32 = .ok (.iconst 0, 1) := by decide +kernel
theorem dX10_quota_33 : decode cX10_quota 33 = .ok (.ldc 177, 2) := by decide +kernel
theorem dX10_quota_35 : decode cX10_quota 35 = .ok (.invokestatic 163, 3) := by decide +kernel
theorem dX10_quota_38 : decode cX10_quota 38 = .ok (.ifCond .eq 7, 3) := by decide +kernel
theorem dX10_quota_41 : decode cX10_quota 41 = .ok (.iconst 0, 1) := by decide +kernel
theorem dX10_quota_42 : decode cX10_quota 42 = .ok (.goto 4, 3) := by decide +kernel
theorem dX10_quota_45 : decode cX10_quota 45 = .ok (.iconst 2, 1) := by decide +kernel
theorem dX10_quota_46 : decode cX10_quota 46 = .ok (.invokevirtual 178, 3) := by decide +kernel
theorem dX10_quota_49 : decode cX10_quota 49 = .ok (.ifCond .eq 5, 3) := by decide +kernel
theorem dX10_quota_52 : decode cX10_quota 52 = .ok (.iconst 0, 1) := by decide +kernel
theorem dX10_quota_53 : decode cX10_quota 53 = .ok (.ireturn, 1) := by decide +kernel
theorem dX10_quota_54 : decode cX10_quota 54 = .ok (.aload_n 0, 1) := by decide +kernel
theorem dX10_quota_55 : decode cX10_quota 55 = .ok (.getfield 13, 3) := by decide +kernel
theorem dX10_quota_58 : decode cX10_quota 58 = .ok (.iconst 4, 1) := by decide +kernel
theorem dX10_quota_59 : decode cX10_quota 59 = .ok (.iload_n 1, 1) := by decide +kernel
theorem dX10_quota_60 : decode cX10_quota 60 = .ok (.imul, 1) := by decide +kernel
theorem dX10_quota_61 : decode cX10_quota 61 = .ok (.iload_n 2, 1) := by decide +kernel
theorem dX10_quota_62 : decode cX10_quota 62 = .ok (.iadd, 1) := by decide +kernel
theorem dX10_quota_63 : decode cX10_quota 63 = .ok (.iaload, 1) := by decide +kernel
theorem dX10_quota_64 : decode cX10_quota 64 = .ok (.istore 5, 2) := by decide +kernel
theorem dX10_quota_66 : decode cX10_quota 66 = .ok (.aload_n 0, 1) := by decide +kernel
theorem dX10_quota_67 : decode cX10_quota 67 = .ok (.getfield 13, 3) := by decide +kernel
theorem dX10_quota_70 : decode cX10_quota 70 = .ok (.iconst 4, 1) := by decide +kernel
theorem dX10_quota_71 : decode cX10_quota 71 = .ok (.iload_n 1, 1) := by decide +kernel
theorem dX10_quota_72 : decode cX10_quota 72 = .ok (.imul, 1) := by decide +kernel
theorem dX10_quota_73 : decode cX10_quota 73 = .ok (.iload_n 2, 1) := by decide +kernel
theorem dX10_quota_74 : decode cX10_quota 74 = .ok (.iadd, 1) := by decide +kernel
theorem dX10_quota_75 : decode cX10_quota 75 = .ok (.iload_n 3, 1) := by decide +kernel
theorem dX10_quota_76 : decode cX10_quota 76 = .ok (.iastore, 1) := by decide +kernel
theorem dX10_quota_77 : decode cX10_quota 77 = .ok (.iload 5, 2) := by decide +kernel
theorem dX10_quota_79 : decode cX10_quota 79 = .ok (.ireturn, 1) := by decide +kernel
theorem dX10_aid_0 : decode cX10_aid 0 = .ok (.aload_n 0, 1) := by decide +kernel
theorem dX10_aid_1 : decode cX10_aid 1 = .ok (.iload_n 1, 1) := by decide +kernel
theorem dX10_aid_2 : decode cX10_aid 2 = .ok (.invokestatic 170, 3) := by decide +kernel
theorem dX10_aid_5 : decode cX10_aid 5 = .ok (.ifCond .ne 7, 3) := by decide +kernel
theorem dX10_aid_8 : decode cX10_aid 8 = .ok (.iconst 1, 1) := by decide +kernel
theorem dX10_aid_9 : decode cX10_aid 9 = .ok (.goto 18, 3) := by decide +kernel
theorem dX10_aid_12 : decode cX10_aid 12 = .ok (.iload_n 2, 1) := by decide +kernel
theorem dX10_aid_13 : decode cX10_aid 13 = .ok (.iconst 0, 1) := by decide +kernel
theorem dX10_aid_14 : decode cX10_aid 14 = .ok (.ldc 177, 2) := by decide +kernel
theorem dX10_aid_16 : decode cX10_aid 16 = .ok (.invokestatic 163, 3) := by decide +kernel
theorem dX10_aid_19 : decode cX10_aid 19 = .ok (.ifCond .eq 7, 3) := by decide +kernel
theorem dX10_aid_22 : decode cX10_aid 22 = .ok (.iconst 0, 1) := by decide +kernel
theorem dX10_aid_23 : decode cX10_aid 23 = .ok (.goto 4, 3) := by decide +kernel
theorem dX10_aid_26 : decode cX10_aid 26 = .ok (.iconst 2, 1) := by decide +kernel
theorem dX10_aid_27 : decode cX10_aid 27 = .ok (.invokevirtual 178, 3) := by decide +kernel
theorem dX10_aid_30 : decode cX10_aid 30 = .ok (.ifCond .eq 5, 3) := by decide +kernel
theorem dX10_aid_33 : decode cX10_aid 33 = .ok (.iconst 0, 1) := by decide +kernel
theorem dX10_aid_34 : decode cX10_aid 34 = .ok (.ireturn, 1) := by decide +kernel
theorem dX10_aid_35 : decode cX10_aid 35 = .ok (.aload_n 0, 1) := by decide +kernel
theorem dX10_aid_36 : decode cX10_aid 36 = .ok (.getfield 20, 3) := by decide +kernel
theorem dX10_aid_39 : decode cX10_aid 39 = .ok (.iload_n 1, 1) := by decide +kernel
theorem dX10_aid_40 : decode cX10_aid 40 = .ok (.iaload, 1) := by decide +kernel
theorem dX10_aid_41 : decode cX10_aid 41 = .ok (.istore 4, 2) := by decide +kernel
theorem dX10_aid_43 : decode cX10_aid 43 = .ok (.aload_n 0, 1) := by decide +kernel
theorem dX10_aid_44 : decode cX10_aid 44 = .ok (.getfield 20, 3) := by decide +kernel
theorem dX10_aid_47 : decode cX10_aid 47 = .ok (.iload_n 1, 1) := by decide +kernel
theorem dX10_aid_48 : decode cX10_aid 48 = .ok (.iload_n 2, 1) := by decide +kernel
theorem dX10_aid_49 : decode cX10_aid 49 = .ok (.iastore, 1) := by decide +kernel
theorem dX10_aid_50 : decode cX10_aid 50 = .ok (.aload_n 0, 1) := by decide +kernel
theorem dX10_aid_51 : decode cX10_aid 51 = .ok (.getfield 23, 3) := by decide +kernel
theorem dX10_aid_54 : decode cX10_aid 54 = .ok (.iload_n 1, 1) := by decide +kernel
theorem dX10_aid_55 : decode cX10_aid 55 = .ok (.iload_n 3, 1) := by decide +kernel
theorem dX10_aid_56 : decode cX10_aid 56 = .ok (.bastore, 1) := by decide +kernel
theorem dX10_aid_57 : decode cX10_aid 57 = .ok (.iload 4, 2) := by decide +kernel
theorem dX10_aid_59 : decode cX10_aid 59 = .ok (.ireturn, 1) := by decide +kernel
theorem dX10_kind_0 : decode cX10_kind 0 = .ok (.iload_n 1, 1) := by decide +kernel
theorem dX10_kind_1 : decode cX10_kind 1 = .ok (.invokestatic 174, 3) := by decide +kernel
theorem dX10_kind_4 : decode cX10_kind 4 = .ok (.ifCond .eq 15, 3) := by decide +kernel
theorem dX10_kind_7 : decode cX10_kind 7 = .ok (.iload 4, 2) := by decide +kernel
theorem dX10_kind_9 : decode cX10_kind 9 = .ok (.invokestatic 181, 3) := by decide +kernel
theorem dX10_kind_12 : decode cX10_kind 12 = .ok (.ifCond .eq 7, 3) := by decide +kernel
theorem dX10_kind_15 : decode cX10_kind 15 = .ok (.iconst 1, 1) := by decide +kernel
theorem dX10_kind_16 : decode cX10_kind 16 = .ok (.goto 4, 3) := by decide +kernel
theorem dX10_kind_19 : decode cX10_kind 19 = .ok (.iconst 0, 1) := by decide +kernel
theorem dX10_kind_20 : decode cX10_kind 20 = .ok (.istore 5, 2) := by decide +kernel
theorem dX10_kind_22 : decode cX10_kind 22 = .ok (.iload_n 2, 1) := by decide +kernel
theorem dX10_kind_23 : decode cX10_kind 23 = .ok (.iconst 1, 1) := by decide +kernel
theorem dX10_kind_24 : decode cX10_kind 24 = .ok (.sipush 10000, 3) := by decide +kernel
theorem dX10_kind_27 : decode cX10_kind 27 = .ok (.invokestatic 163, 3) := by decide +kernel
theorem dX10_kind_30 : decode cX10_kind 30 = .ok (.ifCond .eq 18, 3) := by decide +kernel
theorem dX10_kind_33 : decode cX10_kind 33 = .ok (.iload_n 3, 1) := by decide +kernel
theorem dX10_kind_34 : decode cX10_kind 34 = .ok (.iconst 1, 1) := by decide +kernel
theorem dX10_kind_35 : decode cX10_kind 35 = .ok (.sipush 10000, 3) := by decide +kernel
theorem dX10_kind_38 : decode cX10_kind 38 = .ok (.invokestatic 163, 3) := by decide +kernel
theorem dX10_kind_41 : decode cX10_kind 41 = .ok (.ifCond .eq 7, 3) := by decide +kernel
theorem dX10_kind_44 : decode cX10_kind 44 = .ok (.iconst 1, 1) := by decide +kernel
theorem dX10_kind_45 : decode cX10_kind 45 = .ok (.goto 4, 3) := by decide +kernel
theorem dX10_kind_48 : decode cX10_kind 48 = .ok (.iconst 0, 1) := by decide +kernel
theorem dX10_kind_49 : decode cX10_kind 49 = .ok (.istore 6, 2) := by decide +kernel
theorem dX10_kind_51 : decode cX10_kind 51 = .ok (.aload_n 0, 1) := by decide +kernel
theorem dX10_kind_52 : decode cX10_kind 52 = .ok (.iload 5, 2) := by decide +kernel
theorem dX10_kind_54 : decode cX10_kind 54 = .ok (.ifCond .ne 7, 3) := by decide +kernel
theorem dX10_kind_57 : decode cX10_kind 57 = .ok (.iconst 1, 1) := by decide +kernel
theorem dX10_kind_58 : decode cX10_kind 58 = .ok (.goto 13, 3) := by decide +kernel
theorem dX10_kind_61 : decode cX10_kind 61 = .ok (.iload 6, 2) := by decide +kernel
theorem dX10_kind_63 : decode cX10_kind 63 = .ok (.ifCond .eq 7, 3) := by decide +kernel
theorem dX10_kind_66 : decode cX10_kind 66 = .ok (.iconst 0, 1) := by decide +kernel
theorem dX10_kind_67 : decode cX10_kind 67 = .ok (.goto 4, 3) := by decide +kernel
theorem dX10_kind_70 : decode cX10_kind 70 = .ok (.iconst 2, 1) := by decide +kernel
theorem dX10_kind_71 : decode cX10_kind 71 = .ok (.invokevirtual 178, 3) := by decide +kernel
theorem dX10_kind_74 : decode cX10_kind 74 = .ok (.ifCond .ne 25, 3) := by decide +kernel
theorem dX10_kind_77 : decode cX10_kind 77 = .ok (.aload_n 0, 1) := by decide +kernel
theorem dX10_kind_78 : decode cX10_kind 78 = .ok (.getfield 30, 3) := by decide +kernel
theorem dX10_kind_81 : decode cX10_kind 81 = .ok (.iload_n 1, 1) := by decide +kernel
theorem dX10_kind_82 : decode cX10_kind 82 = .ok (.iload_n 2, 1) := by decide +kernel
theorem dX10_kind_83 : decode cX10_kind 83 = .ok (.iastore, 1) := by decide +kernel
theorem dX10_kind_84 : decode cX10_kind 84 = .ok (.aload_n 0, 1) := by decide +kernel
theorem dX10_kind_85 : decode cX10_kind 85 = .ok (.getfield 33, 3) := by decide +kernel
theorem dX10_kind_88 : decode cX10_kind 88 = .ok (.iload_n 1, 1) := by decide +kernel
theorem dX10_kind_89 : decode cX10_kind 89 = .ok (.iload_n 3, 1) := by decide +kernel
theorem dX10_kind_90 : decode cX10_kind 90 = .ok (.iastore, 1) := by decide +kernel
theorem dX10_kind_91 : decode cX10_kind 91 = .ok (.aload_n 0, 1) := by decide +kernel
theorem dX10_kind_92 : decode cX10_kind 92 = .ok (.getfield 36, 3) := by decide +kernel
theorem dX10_kind_95 : decode cX10_kind 95 = .ok (.iload_n 1, 1) := by decide +kernel
theorem dX10_kind_96 : decode cX10_kind 96 = .ok (.iload 4, 2) := by decide +kernel
theorem dX10_kind_98 : decode cX10_kind 98 = .ok (.iastore, 1) := by decide +kernel
theorem dX10_kind_99 : decode cX10_kind 99 = .ok (.return_, 1) := by decide +kernel
theorem dX10_step_0 : decode cX10_step 0 = .ok (.aload_n 0, 1) := by decide +kernel
theorem dX10_step_1 : decode cX10_step 1 = .ok (.iload_n 1, 1) := by decide +kernel
theorem dX10_step_2 : decode cX10_step 2 = .ok (.invokestatic 181, 3) := by decide +kernel
theorem dX10_step_5 : decode cX10_step 5 = .ok (.ifCond .ne 7, 3) := by decide +kernel
theorem dX10_step_8 : decode cX10_step 8 = .ok (.iconst 1, 1) := by decide +kernel
theorem dX10_step_9 : decode cX10_step 9 = .ok (.goto 19, 3) := by decide +kernel
theorem dX10_step_12 : decode cX10_step 12 = .ok (.iload_n 2, 1) := by decide +kernel
theorem dX10_step_13 : decode cX10_step 13 = .ok (.iconst 1, 1) := by decide +kernel
theorem dX10_step_14 : decode cX10_step 14 = .ok (.sipush 500, 3) := by decide +kernel
theorem dX10_step_17 : decode cX10_step 17 = .ok (.invokestatic 163, 3) := by decide +kernel
theorem dX10_step_20 : decode cX10_step 20 = .ok (.ifCond .eq 7, 3) := by decide +kernel
theorem dX10_step_23 : decode cX10_step 23 = .ok (.iconst 0, 1) := by decide +kernel
theorem dX10_step_24 : decode cX10_step 24 = .ok (.goto 4, 3) := by decide +kernel
theorem dX10_step_27 : decode cX10_step 27 = .ok (.iconst 2, 1) := by decide +kernel
theorem dX10_step_28 : decode cX10_step 28 = .ok (.invokevirtual 178, 3) := by decide +kernel
theorem dX10_step_31 : decode cX10_step 31 = .ok (.ifCond .eq 5, 3) := by decide +kernel
theorem dX10_step_34 : decode cX10_step 34 = .ok (.iconst 0, 1) := by decide +kernel
theorem dX10_step_35 : decode cX10_step 35 = .ok (.ireturn, 1) := by decide +kernel
theorem dX10_step_36 : decode cX10_step 36 = .ok (.aload_n 0, 1) := by decide +kernel
theorem dX10_step_37 : decode cX10_step 37 = .ok (.getfield 111, 3) := by decide +kernel
theorem dX10_step_40 : decode cX10_step 40 = .ok (.iload_n 1, 1) := by decide +kernel
theorem dX10_step_41 : decode cX10_step 41 = .ok (.iaload, 1) := by decide +kernel
theorem dX10_step_42 : decode cX10_step 42 = .ok (.istore_n 3, 1) := by decide +kernel
theorem dX10_step_43 : decode cX10_step 43 = .ok (.aload_n 0, 1) := by decide +kernel
theorem dX10_step_44 : decode cX10_step 44 = .ok (.getfield 111, 3) := by decide +kernel
theorem dX10_step_47 : decode cX10_step 47 = .ok (.iload_n 1, 1) := by decide +kernel
theorem dX10_step_48 : decode cX10_step 48 = .ok (.iload_n 2, 1) := by decide +kernel
theorem dX10_step_49 : decode cX10_step 49 = .ok (.iastore, 1) := by decide +kernel
theorem dX10_step_50 : decode cX10_step 50 = .ok (.iload_n 3, 1) := by decide +kernel
theorem dX10_step_51 : decode cX10_step 51 = .ok (.ireturn, 1) := by decide +kernel
theorem dX10_buyer_0 : decode cX10_buyer 0 = .ok (.iload_n 2, 1) := by decide +kernel
theorem dX10_buyer_1 : decode cX10_buyer 1 = .ok (.iconst 0, 1) := by decide +kernel
theorem dX10_buyer_2 : decode cX10_buyer 2 = .ok (.ldc 184, 2) := by decide +kernel
theorem dX10_buyer_4 : decode cX10_buyer 4 = .ok (.invokestatic 163, 3) := by decide +kernel
theorem dX10_buyer_7 : decode cX10_buyer 7 = .ok (.ifCond .eq 17, 3) := by decide +kernel
theorem dX10_buyer_10 : decode cX10_buyer 10 = .ok (.iload_n 3, 1) := by decide +kernel
theorem dX10_buyer_11 : decode cX10_buyer 11 = .ok (.iconst 1, 1) := by decide +kernel
theorem dX10_buyer_12 : decode cX10_buyer 12 = .ok (.bipush 9, 2) := by decide +kernel
theorem dX10_buyer_14 : decode cX10_buyer 14 = .ok (.invokestatic 163, 3) := by decide +kernel
theorem dX10_buyer_17 : decode cX10_buyer 17 = .ok (.ifCond .eq 7, 3) := by decide +kernel
theorem dX10_buyer_20 : decode cX10_buyer 20 = .ok (.iconst 1, 1) := by decide +kernel
theorem dX10_buyer_21 : decode cX10_buyer 21 = .ok (.goto 4, 3) := by decide +kernel
theorem dX10_buyer_24 : decode cX10_buyer 24 = .ok (.iconst 0, 1) := by decide +kernel
theorem dX10_buyer_25 : decode cX10_buyer 25 = .ok (.istore 4, 2) := by decide +kernel
theorem dX10_buyer_27 : decode cX10_buyer 27 = .ok (.aload_n 0, 1) := by decide +kernel
theorem dX10_buyer_28 : decode cX10_buyer 28 = .ok (.iload_n 1, 1) := by decide +kernel
theorem dX10_buyer_29 : decode cX10_buyer 29 = .ok (.invokestatic 170, 3) := by decide +kernel
theorem dX10_buyer_32 : decode cX10_buyer 32 = .ok (.ifCond .ne 7, 3) := by decide +kernel
theorem dX10_buyer_35 : decode cX10_buyer 35 = .ok (.iconst 1, 1) := by decide +kernel
theorem dX10_buyer_36 : decode cX10_buyer 36 = .ok (.goto 13, 3) := by decide +kernel
theorem dX10_buyer_39 : decode cX10_buyer 39 = .ok (.iload 4, 2) := by decide +kernel
theorem dX10_buyer_41 : decode cX10_buyer 41 = .ok (.ifCond .eq 7, 3) := by decide +kernel
theorem dX10_buyer_44 : decode cX10_buyer 44 = .ok (.iconst 0, 1) := by decide +kernel
theorem dX10_buyer_45 : decode cX10_buyer 45 = .ok (.goto 4, 3) := by decide +kernel
theorem dX10_buyer_48 : decode cX10_buyer 48 = .ok (.iconst 2, 1) := by decide +kernel
theorem dX10_buyer_49 : decode cX10_buyer 49 = .ok (.invokevirtual 178, 3) := by decide +kernel
theorem dX10_buyer_52 : decode cX10_buyer 52 = .ok (.ifCond .eq 5, 3) := by decide +kernel
theorem dX10_buyer_55 : decode cX10_buyer 55 = .ok (.iconst 0, 1) := by decide +kernel
theorem dX10_buyer_56 : decode cX10_buyer 56 = .ok (.ireturn, 1) := by decide +kernel
theorem dX10_buyer_57 : decode cX10_buyer 57 = .ok (.aload_n 0, 1) := by decide +kernel
theorem dX10_buyer_58 : decode cX10_buyer 58 = .ok (.getfield 39, 3) := by decide +kernel
theorem dX10_buyer_61 : decode cX10_buyer 61 = .ok (.iload_n 1, 1) := by decide +kernel
theorem dX10_buyer_62 : decode cX10_buyer 62 = .ok (.iaload, 1) := by decide +kernel
theorem dX10_buyer_63 : decode cX10_buyer 63 = .ok (.istore 5, 2) := by decide +kernel
theorem dX10_buyer_65 : decode cX10_buyer 65 = .ok (.aload_n 0, 1) := by decide +kernel
theorem dX10_buyer_66 : decode cX10_buyer 66 = .ok (.getfield 39, 3) := by decide +kernel
theorem dX10_buyer_69 : decode cX10_buyer 69 = .ok (.iload_n 1, 1) := by decide +kernel
theorem dX10_buyer_70 : decode cX10_buyer 70 = .ok (.iload_n 2, 1) := by decide +kernel
theorem dX10_buyer_71 : decode cX10_buyer 71 = .ok (.iastore, 1) := by decide +kernel
theorem dX10_buyer_72 : decode cX10_buyer 72 = .ok (.aload_n 0, 1) := by decide +kernel
theorem dX10_buyer_73 : decode cX10_buyer 73 = .ok (.getfield 42, 3) := by decide +kernel
theorem dX10_buyer_76 : decode cX10_buyer 76 = .ok (.iload_n 1, 1) := by decide +kernel
theorem dX10_buyer_77 : decode cX10_buyer 77 = .ok (.iload_n 3, 1) := by decide +kernel
theorem dX10_buyer_78 : decode cX10_buyer 78 = .ok (.iastore, 1) := by decide +kernel
theorem dX10_buyer_79 : decode cX10_buyer 79 = .ok (.iload 5, 2) := by decide +kernel
theorem dX10_buyer_81 : decode cX10_buyer 81 = .ok (.ireturn, 1) := by decide +kernel
theorem dX10_draw_0 : decode cX10_draw 0 = .ok (.aload_n 0, 1) := by decide +kernel
theorem dX10_draw_1 : decode cX10_draw 1 = .ok (.iconst 0, 1) := by decide +kernel
theorem dX10_draw_2 : decode cX10_draw 2 = .ok (.putfield 160, 3) := by decide +kernel
theorem dX10_draw_5 : decode cX10_draw 5 = .ok (.aload_n 0, 1) := by decide +kernel
theorem dX10_draw_6 : decode cX10_draw 6 = .ok (.getfield 7, 3) := by decide +kernel
theorem dX10_draw_9 : decode cX10_draw 9 = .ok (.istore_n 2, 1) := by decide +kernel
theorem dX10_draw_10 : decode cX10_draw 10 = .ok (.aload_n 0, 1) := by decide +kernel
theorem dX10_draw_11 : decode cX10_draw 11 = .ok (.iload_n 1, 1) := by decide +kernel
theorem dX10_draw_12 : decode cX10_draw 12 = .ok (.putfield 7, 3) := by decide +kernel
theorem dX10_draw_15 : decode cX10_draw 15 = .ok (.iload_n 2, 1) := by decide +kernel
theorem dX10_draw_16 : decode cX10_draw 16 = .ok (.ireturn, 1) := by decide +kernel
theorem dX10_power_0 : decode cX10_power 0 = .ok (.aload_n 0, 1) := by decide +kernel
theorem dX10_power_1 : decode cX10_power 1 = .ok (.iload_n 1, 1) := by decide +kernel
theorem dX10_power_2 : decode cX10_power 2 = .ok (.invokestatic 181, 3) := by decide +kernel
theorem dX10_power_5 : decode cX10_power 5 = .ok (.ifCond .eq 7, 3) := by decide +kernel
theorem dX10_power_8 : decode cX10_power 8 = .ok (.iconst 0, 1) := by decide +kernel
theorem dX10_power_9 : decode cX10_power 9 = .ok (.goto 4, 3) := by decide +kernel
theorem dX10_power_12 : decode cX10_power 12 = .ok (.iconst 1, 1) := by decide +kernel
theorem dX10_power_13 : decode cX10_power 13 = .ok (.invokevirtual 178, 3) := by decide +kernel
theorem dX10_power_16 : decode cX10_power 16 = .ok (.ifCond .eq 5, 3) := by decide +kernel
theorem dX10_power_19 : decode cX10_power 19 = .ok (.iconst 0, 1) := by decide +kernel
theorem dX10_power_20 : decode cX10_power 20 = .ok (.ireturn, 1) := by decide +kernel
theorem dX10_power_21 : decode cX10_power 21 = .ok (.aload_n 0, 1) := by decide +kernel
theorem dX10_power_22 : decode cX10_power 22 = .ok (.getfield 114, 3) := by decide +kernel
theorem dX10_power_25 : decode cX10_power 25 = .ok (.iload_n 1, 1) := by decide +kernel
theorem dX10_power_26 : decode cX10_power 26 = .ok (.baload, 1) := by decide +kernel
theorem dX10_power_27 : decode cX10_power 27 = .ok (.istore_n 3, 1) := by decide +kernel
theorem dX10_power_28 : decode cX10_power 28 = .ok (.aload_n 0, 1) := by decide +kernel
theorem dX10_power_29 : decode cX10_power 29 = .ok (.getfield 114, 3) := by decide +kernel
theorem dX10_power_32 : decode cX10_power 32 = .ok (.iload_n 1, 1) := by decide +kernel
theorem dX10_power_33 : decode cX10_power 33 = .ok (.iload_n 2, 1) := by decide +kernel
theorem dX10_power_34 : decode cX10_power 34 = .ok (.bastore, 1) := by decide +kernel
theorem dX10_power_35 : decode cX10_power 35 = .ok (.iload_n 3, 1) := by decide +kernel
theorem dX10_power_36 : decode cX10_power 36 = .ok (.ireturn, 1) := by decide +kernel
theorem dX10_line_0 : decode cX10_line 0 = .ok (.aload_n 0, 1) := by decide +kernel
theorem dX10_line_1 : decode cX10_line 1 = .ok (.iload_n 1, 1) := by decide +kernel
theorem dX10_line_2 : decode cX10_line 2 = .ok (.invokestatic 170, 3) := by decide +kernel
theorem dX10_line_5 : decode cX10_line 5 = .ok (.ifCond .eq 7, 3) := by decide +kernel
theorem dX10_line_8 : decode cX10_line 8 = .ok (.iconst 0, 1) := by decide +kernel
theorem dX10_line_9 : decode cX10_line 9 = .ok (.goto 4, 3) := by decide +kernel
theorem dX10_line_12 : decode cX10_line 12 = .ok (.iconst 1, 1) := by decide +kernel
theorem dX10_line_13 : decode cX10_line 13 = .ok (.invokevirtual 178, 3) := by decide +kernel
theorem dX10_line_16 : decode cX10_line 16 = .ok (.ifCond .eq 5, 3) := by decide +kernel
theorem dX10_line_19 : decode cX10_line 19 = .ok (.iconst 0, 1) := by decide +kernel
theorem dX10_line_20 : decode cX10_line 20 = .ok (.ireturn, 1) := by decide +kernel
theorem dX10_line_21 : decode cX10_line 21 = .ok (.aload_n 0, 1) := by decide +kernel
theorem dX10_line_22 : decode cX10_line 22 = .ok (.getfield 48, 3) := by decide +kernel
theorem dX10_line_25 : decode cX10_line 25 = .ok (.iload_n 1, 1) := by decide +kernel
theorem dX10_line_26 : decode cX10_line 26 = .ok (.baload, 1) := by decide +kernel
theorem dX10_line_27 : decode cX10_line 27 = .ok (.istore_n 3, 1) := by decide +kernel
theorem dX10_line_28 : decode cX10_line 28 = .ok (.aload_n 0, 1) := by decide +kernel
theorem dX10_line_29 : decode cX10_line 29 = .ok (.getfield 48, 3) := by decide +kernel
theorem dX10_line_32 : decode cX10_line 32 = .ok (.iload_n 1, 1) := by decide +kernel
theorem dX10_line_33 : decode cX10_line 33 = .ok (.iload_n 2, 1) := by decide +kernel
theorem dX10_line_34 : decode cX10_line 34 = .ok (.bastore, 1) := by decide +kernel
theorem dX10_line_35 : decode cX10_line 35 = .ok (.iload_n 3, 1) := by decide +kernel
theorem dX10_line_36 : decode cX10_line 36 = .ok (.ireturn, 1) := by decide +kernel
theorem dX10_land_0 : decode cX10_land 0 = .ok (.iload_n 1, 1) := by decide +kernel
theorem dX10_land_1 : decode cX10_land 1 = .ok (.invokestatic 170, 3) := by decide +kernel
theorem dX10_land_4 : decode cX10_land 4 = .ok (.ifCond .eq 14, 3) := by decide +kernel
theorem dX10_land_7 : decode cX10_land 7 = .ok (.iload_n 2, 1) := by decide +kernel
theorem dX10_land_8 : decode cX10_land 8 = .ok (.invokestatic 174, 3) := by decide +kernel
theorem dX10_land_11 : decode cX10_land 11 = .ok (.ifCond .eq 7, 3) := by decide +kernel
theorem dX10_land_14 : decode cX10_land 14 = .ok (.iconst 1, 1) := by decide +kernel
theorem dX10_land_15 : decode cX10_land 15 = .ok (.goto 4, 3) := by decide +kernel
theorem dX10_land_18 : decode cX10_land 18 = .ok (.iconst 0, 1) := by decide +kernel
theorem dX10_land_19 : decode cX10_land 19 = .ok (.istore 7, 2) := by decide +kernel
theorem dX10_land_21 : decode cX10_land 21 = .ok (.iload_n 3, 1) := by decide +kernel
theorem dX10_land_22 : decode cX10_land 22 = .ok (.iconst 0, 1) := by decide +kernel
theorem dX10_land_23 : decode cX10_land 23 = .ok (.iconst 2, 1) := by decide +kernel
theorem dX10_land_24 : decode cX10_land 24 = .ok (.invokestatic 163, 3) := by decide +kernel
theorem dX10_land_27 : decode cX10_land 27 = .ok (.ifCond .eq 40, 3) := by decide +kernel
theorem dX10_land_30 : decode cX10_land 30 = .ok (.iload 4, 2) := by decide +kernel
theorem dX10_land_32 : decode cX10_land 32 = .ok (.iconst 1, 1) := by decide +kernel
theorem dX10_land_33 : decode cX10_land 33 = .ok (.bipush 9, 2) := by decide +kernel
theorem dX10_land_35 : decode cX10_land 35 = .ok (.invokestatic 163, 3) := by decide +kernel
theorem dX10_land_38 : decode cX10_land 38 = .ok (.ifCond .eq 29, 3) := by decide +kernel
theorem dX10_land_41 : decode cX10_land 41 = .ok (.iload 5, 2) := by decide +kernel
theorem dX10_land_43 : decode cX10_land 43 = .ok (.iconst 1, 1) := by decide +kernel
theorem dX10_land_44 : decode cX10_land 44 = .ok (.bipush 100, 2) := by decide +kernel
theorem dX10_land_46 : decode cX10_land 46 = .ok (.invokestatic 163, 3) := by decide +kernel
theorem dX10_land_49 : decode cX10_land 49 = .ok (.ifCond .eq 18, 3) := by decide +kernel
theorem dX10_land_52 : decode cX10_land 52 = .ok (.iload 6, 2) := by decide +kernel
theorem dX10_land_54 : decode cX10_land 54 = .ok (.iconst 1, 1) := by decide +kernel
theorem dX10_land_55 : decode cX10_land 55 = .ok (.bipush 100, 2) := by decide +kernel
theorem dX10_land_57 : decode cX10_land 57 = .ok (.invokestatic 163, 3) := by decide +kernel
theorem dX10_land_60 : decode cX10_land 60 = .ok (.ifCond .eq 7, 3) := by decide +kernel
theorem dX10_land_63 : decode cX10_land 63 = .ok (.iconst 1, 1) := by decide +kernel
theorem dX10_land_64 : decode cX10_land 64 = .ok (.goto 4, 3) := by decide +kernel
theorem dX10_land_67 : decode cX10_land 67 = .ok (.iconst 0, 1) := by decide +kernel
theorem dX10_land_68 : decode cX10_land 68 = .ok (.istore 8, 2) := by decide +kernel
theorem dX10_land_70 : decode cX10_land 70 = .ok (.aload_n 0, 1) := by decide +kernel
theorem dX10_land_71 : decode cX10_land 71 = .ok (.iload 7, 2) := by decide +kernel
theorem dX10_land_73 : decode cX10_land 73 = .ok (.ifCond .ne 7, 3) := by decide +kernel
theorem dX10_land_76 : decode cX10_land 76 = .ok (.iconst 1, 1) := by decide +kernel
theorem dX10_land_77 : decode cX10_land 77 = .ok (.goto 27, 3) := by decide +kernel
theorem dX10_land_80 : decode cX10_land 80 = .ok (.iload 8, 2) := by decide +kernel
theorem dX10_land_82 : decode cX10_land 82 = .ok (.ifCond .ne 7, 3) := by decide +kernel
theorem dX10_land_85 : decode cX10_land 85 = .ok (.iconst 2, 1) := by decide +kernel
theorem dX10_land_86 : decode cX10_land 86 = .ok (.goto 18, 3) := by decide +kernel
theorem dX10_land_89 : decode cX10_land 89 = .ok (.aload_n 0, 1) := by decide +kernel
theorem dX10_land_90 : decode cX10_land 90 = .ok (.getfield 167, 3) := by decide +kernel
theorem dX10_land_93 : decode cX10_land 93 = .ok (.sipush 150, 3) := by decide +kernel
theorem dX10_land_96 : decode cX10_land 96 = .ok (.if_icmp .ne 7, 3) := by decide +kernel
theorem dX10_land_99 : decode cX10_land 99 = .ok (.iconst 3, 1) := by decide +kernel
theorem dX10_land_100 : decode cX10_land 100 = .ok (.goto 4, 3) := by decide +kernel
theorem dX10_land_103 : decode cX10_land 103 = .ok (.iconst 0, 1) := by decide +kernel
theorem dX10_land_104 : decode cX10_land 104 = .ok (.invokevirtual 178, 3) := by decide +kernel
theorem dX10_land_107 : decode cX10_land 107 = .ok (.ifCond .eq 5, 3) := by decide +kernel
theorem dX10_land_110 : decode cX10_land 110 = .ok (.iconst 0, 1) := by decide +kernel
theorem dX10_land_111 : decode cX10_land 111 = .ok (.ireturn, 1) := by decide +kernel
theorem dX10_land_112 : decode cX10_land 112 = .ok (.iconst 4, 1) := by decide +kernel
theorem dX10_land_113 : decode cX10_land 113 = .ok (.iload_n 1, 1) := by decide +kernel
theorem dX10_land_114 : decode cX10_land 114 = .ok (.imul, 1) := by decide +kernel
theorem dX10_land_115 : decode cX10_land 115 = .ok (.iload_n 2, 1) := by decide +kernel
theorem dX10_land_116 : decode cX10_land 116 = .ok (.iadd, 1) := by decide +kernel
theorem dX10_land_117 : decode cX10_land 117 = .ok (.istore 9, 2) := by decide +kernel
theorem dX10_land_119 : decode cX10_land 119 = .ok (.aload_n 0, 1) := by decide +kernel
theorem dX10_land_120 : decode cX10_land 120 = .ok (.getfield 17, 3) := by decide +kernel
theorem dX10_land_123 : decode cX10_land 123 = .ok (.iload 9, 2) := by decide +kernel
theorem dX10_land_125 : decode cX10_land 125 = .ok (.dup2, 1) := by decide +kernel
theorem dX10_land_126 : decode cX10_land 126 = .ok (.iaload, 1) := by decide +kernel
theorem dX10_land_127 : decode cX10_land 127 = .ok (.iload 5, 2) := by decide +kernel
theorem dX10_land_129 : decode cX10_land 129 = .ok (.iadd, 1) := by decide +kernel
theorem dX10_land_130 : decode cX10_land 130 = .ok (.iastore, 1) := by decide +kernel
theorem dX10_land_131 : decode cX10_land 131 = .ok (.aload_n 0, 1) := by decide +kernel
theorem dX10_land_132 : decode cX10_land 132 = .ok (.getfield 51, 3) := by decide +kernel
theorem dX10_land_135 : decode cX10_land 135 = .ok (.aload_n 0, 1) := by decide +kernel
theorem dX10_land_136 : decode cX10_land 136 = .ok (.getfield 167, 3) := by decide +kernel
theorem dX10_land_139 : decode cX10_land 139 = .ok (.iload_n 1, 1) := by decide +kernel
theorem dX10_land_140 : decode cX10_land 140 = .ok (.iastore, 1) := by decide +kernel
theorem dX10_land_141 : decode cX10_land 141 = .ok (.aload_n 0, 1) := by decide +kernel
theorem dX10_land_142 : decode cX10_land 142 = .ok (.getfield 54, 3) := by decide +kernel
theorem dX10_land_145 : decode cX10_land 145 = .ok (.aload_n 0, 1) := by decide +kernel
theorem dX10_land_146 : decode cX10_land 146 = .ok (.getfield 167, 3) := by decide +kernel
theorem dX10_land_149 : decode cX10_land 149 = .ok (.iload_n 2, 1) := by decide +kernel
theorem dX10_land_150 : decode cX10_land 150 = .ok (.iastore, 1) := by decide +kernel
theorem dX10_land_151 : decode cX10_land 151 = .ok (.aload_n 0, 1) := by decide +kernel
theorem dX10_land_152 : decode cX10_land 152 = .ok (.getfield 57, 3) := by decide +kernel
theorem dX10_land_155 : decode cX10_land 155 = .ok (.aload_n 0, 1) := by decide +kernel
theorem dX10_land_156 : decode cX10_land 156 = .ok (.getfield 167, 3) := by decide +kernel
theorem dX10_land_159 : decode cX10_land 159 = .ok (.iload_n 3, 1) := by decide +kernel
theorem dX10_land_160 : decode cX10_land 160 = .ok (.iastore, 1) := by decide +kernel
theorem dX10_land_161 : decode cX10_land 161 = .ok (.aload_n 0, 1) := by decide +kernel
theorem dX10_land_162 : decode cX10_land 162 = .ok (.getfield 60, 3) := by decide +kernel
theorem dX10_land_165 : decode cX10_land 165 = .ok (.aload_n 0, 1) := by decide +kernel
theorem dX10_land_166 : decode cX10_land 166 = .ok (.getfield 167, 3) := by decide +kernel
theorem dX10_land_169 : decode cX10_land 169 = .ok (.iload 4, 2) := by decide +kernel
theorem dX10_land_171 : decode cX10_land 171 = .ok (.iastore, 1) := by decide +kernel
theorem dX10_land_172 : decode cX10_land 172 = .ok (.aload_n 0, 1) := by decide +kernel
theorem dX10_land_173 : decode cX10_land 173 = .ok (.getfield 63, 3) := by decide +kernel
theorem dX10_land_176 : decode cX10_land 176 = .ok (.aload_n 0, 1) := by decide +kernel
theorem dX10_land_177 : decode cX10_land 177 = .ok (.getfield 167, 3) := by decide +kernel
theorem dX10_land_180 : decode cX10_land 180 = .ok (.iload 5, 2) := by decide +kernel
theorem dX10_land_182 : decode cX10_land 182 = .ok (.iastore, 1) := by decide +kernel
theorem dX10_land_183 : decode cX10_land 183 = .ok (.aload_n 0, 1) := by decide +kernel
theorem dX10_land_184 : decode cX10_land 184 = .ok (.getfield 66, 3) := by decide +kernel
theorem dX10_land_187 : decode cX10_land 187 = .ok (.aload_n 0, 1) := by decide +kernel
theorem dX10_land_188 : decode cX10_land 188 = .ok (.getfield 167, 3) := by decide +kernel
theorem dX10_land_191 : decode cX10_land 191 = .ok (.iload 6, 2) := by decide +kernel
theorem dX10_land_193 : decode cX10_land 193 = .ok (.iastore, 1) := by decide +kernel
theorem dX10_land_194 : decode cX10_land 194 = .ok (.aload_n 0, 1) := by decide +kernel
theorem dX10_land_195 : decode cX10_land 195 = .ok (.getfield 69, 3) := by decide +kernel
theorem dX10_land_198 : decode cX10_land 198 = .ok (.aload_n 0, 1) := by decide +kernel
theorem dX10_land_199 : decode cX10_land 199 = .ok (.getfield 167, 3) := by decide +kernel
theorem dX10_land_202 : decode cX10_land 202 = .ok (.aload_n 0, 1) := by decide +kernel
theorem dX10_land_203 : decode cX10_land 203 = .ok (.getfield 17, 3) := by decide +kernel
theorem dX10_land_206 : decode cX10_land 206 = .ok (.iload 9, 2) := by decide +kernel
theorem dX10_land_208 : decode cX10_land 208 = .ok (.iaload, 1) := by decide +kernel
theorem dX10_land_209 : decode cX10_land 209 = .ok (.aload_n 0, 1) := by decide +kernel
theorem dX10_land_210 : decode cX10_land 210 = .ok (.getfield 13, 3) := by decide +kernel
theorem dX10_land_213 : decode cX10_land 213 = .ok (.iload 9, 2) := by decide +kernel
theorem dX10_land_215 : decode cX10_land 215 = .ok (.iaload, 1) := by decide +kernel
theorem dX10_land_216 : decode cX10_land 216 = .ok (.aload_n 0, 1) := by decide +kernel
theorem dX10_land_217 : decode cX10_land 217 = .ok (.getfield 13, 3) := by decide +kernel
theorem dX10_land_220 : decode cX10_land 220 = .ok (.iload 9, 2) := by decide +kernel
theorem dX10_land_222 : decode cX10_land 222 = .ok (.iaload, 1) := by decide +kernel
theorem dX10_land_223 : decode cX10_land 223 = .ok (.bipush 10, 2) := by decide +kernel
theorem dX10_land_225 : decode cX10_land 225 = .ok (.idiv, 1) := by decide +kernel
theorem dX10_land_226 : decode cX10_land 226 = .ok (.iadd, 1) := by decide +kernel
theorem dX10_land_227 : decode cX10_land 227 = .ok (.if_icmp .le 7, 3) := by decide +kernel
theorem dX10_land_230 : decode cX10_land 230 = .ok (.iconst 1, 1) := by decide +kernel
theorem dX10_land_231 : decode cX10_land 231 = .ok (.goto 4, 3) := by decide +kernel
theorem dX10_land_234 : decode cX10_land 234 = .ok (.iconst 0, 1) := by decide +kernel
theorem dX10_land_235 : decode cX10_land 235 = .ok (.iastore, 1) := by decide +kernel
theorem dX10_land_236 : decode cX10_land 236 = .ok (.aload_n 0, 1) := by decide +kernel
theorem dX10_land_237 : decode cX10_land 237 = .ok (.getfield 75, 3) := by decide +kernel
theorem dX10_land_240 : decode cX10_land 240 = .ok (.aload_n 0, 1) := by decide +kernel
theorem dX10_land_241 : decode cX10_land 241 = .ok (.getfield 167, 3) := by decide +kernel
theorem dX10_land_244 : decode cX10_land 244 = .ok (.iconst (-1), 1) := by decide +kernel
theorem dX10_land_245 : decode cX10_land 245 = .ok (.iastore, 1) := by decide +kernel
theorem dX10_land_246 : decode cX10_land 246 = .ok (.aload_n 0, 1) := by decide +kernel
theorem dX10_land_247 : decode cX10_land 247 = .ok (.getfield 78, 3) := by decide +kernel
theorem dX10_land_250 : decode cX10_land 250 = .ok (.aload_n 0, 1) := by decide +kernel
theorem dX10_land_251 : decode cX10_land 251 = .ok (.getfield 167, 3) := by decide +kernel
theorem dX10_land_254 : decode cX10_land 254 = .ok (.iconst (-1), 1) := by decide +kernel
theorem dX10_land_255 : decode cX10_land 255 = .ok (.iastore, 1) := by decide +kernel
theorem dX10_land_256 : decode cX10_land 256 = .ok (.aload_n 0, 1) := by decide +kernel
theorem dX10_land_257 : decode cX10_land 257 = .ok (.getfield 90, 3) := by decide +kernel
theorem dX10_land_260 : decode cX10_land 260 = .ok (.aload_n 0, 1) := by decide +kernel
theorem dX10_land_261 : decode cX10_land 261 = .ok (.getfield 167, 3) := by decide +kernel
theorem dX10_land_264 : decode cX10_land 264 = .ok (.iconst (-1), 1) := by decide +kernel
theorem dX10_land_265 : decode cX10_land 265 = .ok (.iastore, 1) := by decide +kernel
theorem dX10_land_266 : decode cX10_land 266 = .ok (.aload_n 0, 1) := by decide +kernel
theorem dX10_land_267 : decode cX10_land 267 = .ok (.dup, 1) := by decide +kernel
theorem dX10_land_268 : decode cX10_land 268 = .ok (.getfield 167, 3) := by decide +kernel
theorem dX10_land_271 : decode cX10_land 271 = .ok (.iconst 1, 1) := by decide +kernel
theorem dX10_land_272 : decode cX10_land 272 = .ok (.iadd, 1) := by decide +kernel
theorem dX10_land_273 : decode cX10_land 273 = .ok (.putfield 167, 3) := by decide +kernel
theorem dX10_land_276 : decode cX10_land 276 = .ok (.aload_n 0, 1) := by decide +kernel
theorem dX10_land_277 : decode cX10_land 277 = .ok (.getfield 167, 3) := by decide +kernel
theorem dX10_land_280 : decode cX10_land 280 = .ok (.iconst 1, 1) := by decide +kernel
theorem dX10_land_281 : decode cX10_land 281 = .ok (.isub, 1) := by decide +kernel
theorem dX10_land_282 : decode cX10_land 282 = .ok (.ireturn, 1) := by decide +kernel
theorem dX10_isToSell_0 : decode cX10_isToSell 0 = .ok (.aload_n 0, 1) := by decide +kernel
theorem dX10_isToSell_1 : decode cX10_isToSell 1 = .ok (.getfield 69, 3) := by decide +kernel
theorem dX10_isToSell_4 : decode cX10_isToSell 4 = .ok (.iload_n 1, 1) := by decide +kernel
theorem dX10_isToSell_5 : decode cX10_isToSell 5 = .ok (.iaload, 1) := by decide +kernel
theorem dX10_isToSell_6 : decode cX10_isToSell 6 = .ok (.ifCond .eq 14, 3) := by decide +kernel
theorem dX10_isToSell_9 : decode cX10_isToSell 9 = .ok (.aload_n 0, 1) := by decide +kernel
theorem dX10_isToSell_10 : decode cX10_isToSell 10 = .ok (.getfield 69, 3) := by decide +kernel
theorem dX10_isToSell_13 : decode cX10_isToSell 13 = .ok (.iload_n 1, 1) := by decide +kernel
theorem dX10_isToSell_14 : decode cX10_isToSell 14 = .ok (.iaload, 1) := by decide +kernel
theorem dX10_isToSell_15 : decode cX10_isToSell 15 = .ok (.bipush 6, 2) := by decide +kernel
theorem dX10_isToSell_17 : decode cX10_isToSell 17 = .ok (.if_icmp .ne 7, 3) := by decide +kernel
theorem dX10_isToSell_20 : decode cX10_isToSell 20 = .ok (.iconst 1, 1) := by decide +kernel
theorem dX10_isToSell_21 : decode cX10_isToSell 21 = .ok (.goto 4, 3) := by decide +kernel
theorem dX10_isToSell_24 : decode cX10_isToSell 24 = .ok (.iconst 0, 1) := by decide +kernel
theorem dX10_isToSell_25 : decode cX10_isToSell 25 = .ok (.ireturn, 1) := by decide +kernel
theorem dX10_ready_0 : decode cX10_ready 0 = .ok (.iconst 0, 1) := by decide +kernel
theorem dX10_ready_1 : decode cX10_ready 1 = .ok (.istore_n 2, 1) := by decide +kernel
theorem dX10_ready_2 : decode cX10_ready 2 = .ok (.iconst 0, 1) := by decide +kernel
theorem dX10_ready_3 : decode cX10_ready 3 = .ok (.istore_n 3, 1) := by decide +kernel
theorem dX10_ready_4 : decode cX10_ready 4 = .ok (.iload_n 3, 1) := by decide +kernel
theorem dX10_ready_5 : decode cX10_ready 5 = .ok (.aload_n 0, 1) := by decide +kernel
theorem dX10_ready_6 : decode cX10_ready 6 = .ok (.getfield 167, 3) := by decide +kernel
theorem dX10_ready_9 : decode cX10_ready 9 = .ok (.if_icmp .ge 47, 3) := by decide +kernel
theorem dX10_ready_12 : decode cX10_ready 12 = .ok (.iload_n 2, 1) := by decide +kernel
theorem dX10_ready_13 : decode cX10_ready 13 = .ok (.aload_n 0, 1) := by decide +kernel
theorem dX10_ready_14 : decode cX10_ready 14 = .ok (.iload_n 3, 1) := by decide +kernel
theorem dX10_ready_15 : decode cX10_ready 15 = .ok (.invokevirtual 185, 3) := by decide +kernel
theorem dX10_ready_18 : decode cX10_ready 18 = .ok (.ifCond .eq 29, 3) := by decide +kernel
theorem dX10_ready_21 : decode cX10_ready 21 = .ok (.aload_n 0, 1) := by decide +kernel
theorem dX10_ready_22 : decode cX10_ready 22 = .ok (.getfield 23, 3) := by decide +kernel
theorem dX10_ready_25 : decode cX10_ready 25 = .ok (.aload_n 0, 1) := by decide +kernel
theorem dX10_ready_26 : decode cX10_ready 26 = .ok (.getfield 51, 3) := by decide +kernel
theorem dX10_ready_29 : decode cX10_ready 29 = .ok (.iload_n 3, 1) := by decide +kernel
theorem dX10_ready_30 : decode cX10_ready 30 = .ok (.iaload, 1) := by decide +kernel
theorem dX10_ready_31 : decode cX10_ready 31 = .ok (.baload, 1) := by decide +kernel
theorem dX10_ready_32 : decode cX10_ready 32 = .ok (.iload_n 1, 1) := by decide +kernel
theorem dX10_ready_33 : decode cX10_ready 33 = .ok (.if_icmp .ne 14, 3) := by decide +kernel
theorem dX10_ready_36 : decode cX10_ready 36 = .ok (.iconst 1, 1) := by decide +kernel
theorem dX10_ready_37 : decode cX10_ready 37 = .ok (.aload_n 0, 1) := by decide +kernel
theorem dX10_ready_38 : decode cX10_ready 38 = .ok (.getfield 51, 3) := by decide +kernel
theorem dX10_ready_41 : decode cX10_ready 41 = .ok (.iload_n 3, 1) := by decide +kernel
theorem dX10_ready_42 : decode cX10_ready 42 = .ok (.iaload, 1) := by decide +kernel
theorem dX10_ready_43 : decode cX10_ready 43 = .ok (.ishl, 1) := by decide +kernel
theorem dX10_ready_44 : decode cX10_ready 44 = .ok (.goto 4, 3) := by decide +kernel
theorem dX10_ready_47 : decode cX10_ready 47 = .ok (.iconst 0, 1) := by decide +kernel
theorem dX10_ready_48 : decode cX10_ready 48 = .ok (.ior, 1) := by decide +kernel
theorem dX10_ready_49 : decode cX10_ready 49 = .ok (.istore_n 2, 1) := by decide +kernel
theorem dX10_ready_50 : decode cX10_ready 50 = .ok (.iinc 3 1, 3) := by decide +kernel
theorem dX10_ready_53 : decode cX10_ready 53 = .ok (.goto (-49), 3) := by decide +kernel
theorem dX10_ready_56 : decode cX10_ready 56 = .ok (.iload_n 2, 1) := by decide +kernel
theorem dX10_ready_57 : decode cX10_ready 57 = .ok (.ireturn, 1) := by decide +kernel
theorem dX10_size_0 : decode cX10_size 0 = .ok (.iconst 0, 1) := by decide +kernel
theorem dX10_size_1 : decode cX10_size 1 = .ok (.istore_n 1, 1) := by decide +kernel
theorem dX10_size_2 : decode cX10_size 2 = .ok (.iconst 0, 1) := by decide +kernel
theorem dX10_size_3 : decode cX10_size 3 = .ok (.istore_n 2, 1) := by decide +kernel
theorem dX10_size_4 : decode cX10_size 4 = .ok (.iload_n 2, 1) := by decide +kernel
theorem dX10_size_5 : decode cX10_size 5 = .ok (.bipush 8, 2) := by decide +kernel
theorem dX10_size_7 : decode cX10_size 7 = .ok (.if_icmp .ge 17, 3) := by decide +kernel
theorem dX10_size_10 : decode cX10_size 10 = .ok (.iload_n 1, 1) := by decide +kernel
theorem dX10_size_11 : decode cX10_size 11 = .ok (.iload_n 0, 1) := by decide +kernel
theorem dX10_size_12 : decode cX10_size 12 = .ok (.iload_n 2, 1) := by decide +kernel
theorem dX10_size_13 : decode cX10_size 13 = .ok (.ishr, 1) := by decide +kernel
theorem dX10_size_14 : decode cX10_size 14 = .ok (.iconst 1, 1) := by decide +kernel
theorem dX10_size_15 : decode cX10_size 15 = .ok (.iand, 1) := by decide +kernel
theorem dX10_size_16 : decode cX10_size 16 = .ok (.iadd, 1) := by decide +kernel
theorem dX10_size_17 : decode cX10_size 17 = .ok (.istore_n 1, 1) := by decide +kernel
theorem dX10_size_18 : decode cX10_size 18 = .ok (.iinc 2 1, 3) := by decide +kernel
theorem dX10_size_21 : decode cX10_size 21 = .ok (.goto (-17), 3) := by decide +kernel
theorem dX10_size_24 : decode cX10_size 24 = .ok (.iload_n 1, 1) := by decide +kernel
theorem dX10_size_25 : decode cX10_size 25 = .ok (.ireturn, 1) := by decide +kernel
theorem dX10_drawn_0 : decode cX10_drawn 0 = .ok (.aload_n 0, 1) := by decide +kernel
theorem dX10_drawn_1 : decode cX10_drawn 1 = .ok (.aload_n 0, 1) := by decide +kernel
theorem dX10_drawn_2 : decode cX10_drawn 2 = .ok (.getfield 7, 3) := by decide +kernel
theorem dX10_drawn_5 : decode cX10_drawn 5 = .ok (.ldc 188, 2) := by decide +kernel
theorem dX10_drawn_7 : decode cX10_drawn 7 = .ok (.imul, 1) := by decide +kernel
theorem dX10_drawn_8 : decode cX10_drawn 8 = .ok (.sipush 12345, 3) := by decide +kernel
theorem dX10_drawn_11 : decode cX10_drawn 11 = .ok (.iadd, 1) := by decide +kernel
theorem dX10_drawn_12 : decode cX10_drawn 12 = .ok (.putfield 7, 3) := by decide +kernel
theorem dX10_drawn_15 : decode cX10_drawn 15 = .ok (.aload_n 0, 1) := by decide +kernel
theorem dX10_drawn_16 : decode cX10_drawn 16 = .ok (.getfield 7, 3) := by decide +kernel
theorem dX10_drawn_19 : decode cX10_drawn 19 = .ok (.bipush 16, 2) := by decide +kernel
theorem dX10_drawn_21 : decode cX10_drawn 21 = .ok (.iushr, 1) := by decide +kernel
theorem dX10_drawn_22 : decode cX10_drawn 22 = .ok (.iload_n 1, 1) := by decide +kernel
theorem dX10_drawn_23 : decode cX10_drawn 23 = .ok (.invokestatic 189, 3) := by decide +kernel
theorem dX10_drawn_26 : decode cX10_drawn 26 = .ok (.irem, 1) := by decide +kernel
theorem dX10_drawn_27 : decode cX10_drawn 27 = .ok (.istore_n 2, 1) := by decide +kernel
theorem dX10_drawn_28 : decode cX10_drawn 28 = .ok (.iconst (-1), 1) := by decide +kernel
theorem dX10_drawn_29 : decode cX10_drawn 29 = .ok (.istore_n 3, 1) := by decide +kernel
theorem dX10_drawn_30 : decode cX10_drawn 30 = .ok (.iconst 0, 1) := by decide +kernel
theorem dX10_drawn_31 : decode cX10_drawn 31 = .ok (.istore 4, 2) := by decide +kernel
theorem dX10_drawn_33 : decode cX10_drawn 33 = .ok (.iload 4, 2) := by decide +kernel
theorem dX10_drawn_35 : decode cX10_drawn 35 = .ok (.bipush 8, 2) := by decide +kernel
theorem dX10_drawn_37 : decode cX10_drawn 37 = .ok (.if_icmp .ge 33, 3) := by decide +kernel
theorem dX10_drawn_40 : decode cX10_drawn 40 = .ok (.iload_n 1, 1) := by decide +kernel
theorem dX10_drawn_41 : decode cX10_drawn 41 = .ok (.iload 4, 2) := by decide +kernel
theorem dX10_drawn_43 : decode cX10_drawn 43 = .ok (.ishr, 1) := by decide +kernel
theorem dX10_drawn_44 : decode cX10_drawn 44 = .ok (.iconst 1, 1) := by decide +kernel
theorem dX10_drawn_45 : decode cX10_drawn 45 = .ok (.iand, 1) := by decide +kernel
theorem dX10_drawn_46 : decode cX10_drawn 46 = .ok (.iconst 1, 1) := by decide +kernel
theorem dX10_drawn_47 : decode cX10_drawn 47 = .ok (.if_icmp .ne 17, 3) := by decide +kernel
theorem dX10_drawn_50 : decode cX10_drawn 50 = .ok (.iload_n 2, 1) := by decide +kernel
theorem dX10_drawn_51 : decode cX10_drawn 51 = .ok (.ifCond .ne 8, 3) := by decide +kernel
theorem dX10_drawn_54 : decode cX10_drawn 54 = .ok (.iload 4, 2) := by decide +kernel
theorem dX10_drawn_56 : decode cX10_drawn 56 = .ok (.goto 4, 3) := by decide +kernel
theorem dX10_drawn_59 : decode cX10_drawn 59 = .ok (.iload_n 3, 1) := by decide +kernel
theorem dX10_drawn_60 : decode cX10_drawn 60 = .ok (.istore_n 3, 1) := by decide +kernel
theorem dX10_drawn_61 : decode cX10_drawn 61 = .ok (.iinc 2 (-1), 3) := by decide +kernel
theorem dX10_drawn_64 : decode cX10_drawn 64 = .ok (.iinc 4 1, 3) := by decide +kernel
theorem dX10_drawn_67 : decode cX10_drawn 67 = .ok (.goto (-34), 3) := by decide +kernel
theorem dX10_drawn_70 : decode cX10_drawn 70 = .ok (.iload_n 3, 1) := by decide +kernel
theorem dX10_drawn_71 : decode cX10_drawn 71 = .ok (.ireturn, 1) := by decide +kernel
theorem dX10_parts_0 : decode cX10_parts 0 = .ok (.iconst 0, 1) := by decide +kernel
theorem dX10_parts_1 : decode cX10_parts 1 = .ok (.istore_n 2, 1) := by decide +kernel
theorem dX10_parts_2 : decode cX10_parts 2 = .ok (.iload_n 2, 1) := by decide +kernel
theorem dX10_parts_3 : decode cX10_parts 3 = .ok (.bipush 108, 2) := by decide +kernel
theorem dX10_parts_5 : decode cX10_parts 5 = .ok (.if_icmp .ge 211, 3) := by decide +kernel
theorem dX10_parts_8 : decode cX10_parts 8 = .ok (.iload_n 2, 1) := by decide +kernel
theorem dX10_parts_9 : decode cX10_parts 9 = .ok (.bipush 27, 2) := by decide +kernel
theorem dX10_parts_11 : decode cX10_parts 11 = .ok (.idiv, 1) := by decide +kernel
theorem dX10_parts_12 : decode cX10_parts 12 = .ok (.istore_n 3, 1) := by decide +kernel
theorem dX10_parts_13 : decode cX10_parts 13 = .ok (.iload_n 2, 1) := by decide +kernel
theorem dX10_parts_14 : decode cX10_parts 14 = .ok (.bipush 9, 2) := by decide +kernel
theorem dX10_parts_16 : decode cX10_parts 16 = .ok (.idiv, 1) := by decide +kernel
theorem dX10_parts_17 : decode cX10_parts 17 = .ok (.iconst 3, 1) := by decide +kernel
theorem dX10_parts_18 : decode cX10_parts 18 = .ok (.irem, 1) := by decide +kernel
theorem dX10_parts_19 : decode cX10_parts 19 = .ok (.istore 4, 2) := by decide +kernel
theorem dX10_parts_21 : decode cX10_parts 21 = .ok (.bipush 9, 2) := by decide +kernel
theorem dX10_parts_23 : decode cX10_parts 23 = .ok (.iload_n 2, 1) := by decide +kernel
theorem dX10_parts_24 : decode cX10_parts 24 = .ok (.bipush 9, 2) := by decide +kernel
theorem dX10_parts_26 : decode cX10_parts 26 = .ok (.irem, 1) := by decide +kernel
theorem dX10_parts_27 : decode cX10_parts 27 = .ok (.isub, 1) := by decide +kernel
theorem dX10_parts_28 : decode cX10_parts 28 = .ok (.istore 5, 2) := by decide +kernel
theorem dX10_parts_30 : decode cX10_parts 30 = .ok (.iconst 0, 1) := by decide +kernel
theorem dX10_parts_31 : decode cX10_parts 31 = .ok (.istore 6, 2) := by decide +kernel
theorem dX10_parts_33 : decode cX10_parts 33 = .ok (.iconst 0, 1) := by decide +kernel
theorem dX10_parts_34 : decode cX10_parts 34 = .ok (.istore 7, 2) := by decide +kernel
theorem dX10_parts_36 : decode cX10_parts 36 = .ok (.iload 7, 2) := by decide +kernel
theorem dX10_parts_38 : decode cX10_parts 38 = .ok (.aload_n 0, 1) := by decide +kernel
theorem dX10_parts_39 : decode cX10_parts 39 = .ok (.getfield 167, 3) := by decide +kernel
theorem dX10_parts_42 : decode cX10_parts 42 = .ok (.if_icmp .ge 86, 3) := by decide +kernel
theorem dX10_parts_45 : decode cX10_parts 45 = .ok (.aload_n 0, 1) := by decide +kernel
theorem dX10_parts_46 : decode cX10_parts 46 = .ok (.iload 7, 2) := by decide +kernel
theorem dX10_parts_48 : decode cX10_parts 48 = .ok (.invokevirtual 185, 3) := by decide +kernel
theorem dX10_parts_51 : decode cX10_parts 51 = .ok (.ifCond .eq 71, 3) := by decide +kernel
theorem dX10_parts_54 : decode cX10_parts 54 = .ok (.aload_n 0, 1) := by decide +kernel
theorem dX10_parts_55 : decode cX10_parts 55 = .ok (.getfield 51, 3) := by decide +kernel
theorem dX10_parts_58 : decode cX10_parts 58 = .ok (.iload 7, 2) := by decide +kernel
theorem dX10_parts_60 : decode cX10_parts 60 = .ok (.iaload, 1) := by decide +kernel
theorem dX10_parts_61 : decode cX10_parts 61 = .ok (.iload_n 1, 1) := by decide +kernel
theorem dX10_parts_62 : decode cX10_parts 62 = .ok (.if_icmp .ne 60, 3) := by decide +kernel
theorem dX10_parts_65 : decode cX10_parts 65 = .ok (.aload_n 0, 1) := by decide +kernel
theorem dX10_parts_66 : decode cX10_parts 66 = .ok (.getfield 54, 3) := by decide +kernel
theorem dX10_parts_69 : decode cX10_parts 69 = .ok (.iload 7, 2) := by decide +kernel
theorem dX10_parts_71 : decode cX10_parts 71 = .ok (.iaload, 1) := by decide +kernel
theorem dX10_parts_72 : decode cX10_parts 72 = .ok (.iload_n 3, 1) := by decide +kernel
theorem dX10_parts_73 : decode cX10_parts 73 = .ok (.if_icmp .ne 49, 3) := by decide +kernel
theorem dX10_parts_76 : decode cX10_parts 76 = .ok (.aload_n 0, 1) := by decide +kernel
theorem dX10_parts_77 : decode cX10_parts 77 = .ok (.getfield 57, 3) := by decide +kernel
theorem dX10_parts_80 : decode cX10_parts 80 = .ok (.iload 7, 2) := by decide +kernel
theorem dX10_parts_82 : decode cX10_parts 82 = .ok (.iaload, 1) := by decide +kernel
theorem dX10_parts_83 : decode cX10_parts 83 = .ok (.iload 4, 2) := by decide +kernel
theorem dX10_parts_85 : decode cX10_parts 85 = .ok (.if_icmp .ne 37, 3) := by decide +kernel
theorem dX10_parts_88 : decode cX10_parts 88 = .ok (.aload_n 0, 1) := by decide +kernel
theorem dX10_parts_89 : decode cX10_parts 89 = .ok (.getfield 60, 3) := by decide +kernel
theorem dX10_parts_92 : decode cX10_parts 92 = .ok (.iload 7, 2) := by decide +kernel
theorem dX10_parts_94 : decode cX10_parts 94 = .ok (.iaload, 1) := by decide +kernel
theorem dX10_parts_95 : decode cX10_parts 95 = .ok (.iload 5, 2) := by decide +kernel
theorem dX10_parts_97 : decode cX10_parts 97 = .ok (.if_icmp .ne 25, 3) := by decide +kernel
theorem dX10_parts_100 : decode cX10_parts 100 = .ok (.aload_n 0, 1) := by decide +kernel
theorem dX10_parts_101 : decode cX10_parts 101 = .ok (.getfield 69, 3) := by decide +kernel
theorem dX10_parts_104 : decode cX10_parts 104 = .ok (.iload 7, 2) := by decide +kernel
theorem dX10_parts_106 : decode cX10_parts 106 = .ok (.iconst 2, 1) := by decide +kernel
theorem dX10_parts_107 : decode cX10_parts 107 = .ok (.iastore, 1) := by decide +kernel
theorem dX10_parts_108 : decode cX10_parts 108 = .ok (.aload_n 0, 1) := by decide +kernel
theorem dX10_parts_109 : decode cX10_parts 109 = .ok (.getfield 90, 3) := by decide +kernel
theorem dX10_parts_112 : decode cX10_parts 112 = .ok (.iload 7, 2) := by decide +kernel
theorem dX10_parts_114 : decode cX10_parts 114 = .ok (.aload_n 0, 1) := by decide +kernel
theorem dX10_parts_115 : decode cX10_parts 115 = .ok (.getfield 192, 3) := by decide +kernel
theorem dX10_parts_118 : decode cX10_parts 118 = .ok (.iastore, 1) := by decide +kernel
theorem dX10_parts_119 : decode cX10_parts 119 = .ok (.iconst 1, 1) := by decide +kernel
theorem dX10_parts_120 : decode cX10_parts 120 = .ok (.istore 6, 2) := by decide +kernel
theorem dX10_parts_122 : decode cX10_parts 122 = .ok (.iinc 7 1, 3) := by decide +kernel
theorem dX10_parts_125 : decode cX10_parts 125 = .ok (.goto (-89), 3) := by decide +kernel
theorem dX10_parts_128 : decode cX10_parts 128 = .ok (.iload 6, 2) := by decide +kernel
theorem dX10_parts_130 : decode cX10_parts 130 = .ok (.ifCond .eq 80, 3) := by decide +kernel
theorem dX10_parts_133 : decode cX10_parts 133 = .ok (.aload_n 0, 1) := by decide +kernel
theorem dX10_parts_134 : decode cX10_parts 134 = .ok (.getfield 93, 3) := by decide +kernel
theorem dX10_parts_137 : decode cX10_parts 137 = .ok (.aload_n 0, 1) := by decide +kernel
theorem dX10_parts_138 : decode cX10_parts 138 = .ok (.getfield 192, 3) := by decide +kernel
theorem dX10_parts_141 : decode cX10_parts 141 = .ok (.iload_n 1, 1) := by decide +kernel
theorem dX10_parts_142 : decode cX10_parts 142 = .ok (.iastore, 1) := by decide +kernel
theorem dX10_parts_143 : decode cX10_parts 143 = .ok (.aload_n 0, 1) := by decide +kernel
theorem dX10_parts_144 : decode cX10_parts 144 = .ok (.getfield 96, 3) := by decide +kernel
theorem dX10_parts_147 : decode cX10_parts 147 = .ok (.aload_n 0, 1) := by decide +kernel
theorem dX10_parts_148 : decode cX10_parts 148 = .ok (.getfield 192, 3) := by decide +kernel
theorem dX10_parts_151 : decode cX10_parts 151 = .ok (.iload_n 3, 1) := by decide +kernel
theorem dX10_parts_152 : decode cX10_parts 152 = .ok (.iastore, 1) := by decide +kernel
theorem dX10_parts_153 : decode cX10_parts 153 = .ok (.aload_n 0, 1) := by decide +kernel
theorem dX10_parts_154 : decode cX10_parts 154 = .ok (.getfield 99, 3) := by decide +kernel
theorem dX10_parts_157 : decode cX10_parts 157 = .ok (.aload_n 0, 1) := by decide +kernel
theorem dX10_parts_158 : decode cX10_parts 158 = .ok (.getfield 192, 3) := by decide +kernel
theorem dX10_parts_161 : decode cX10_parts 161 = .ok (.iload 4, 2) := by decide +kernel
theorem dX10_parts_163 : decode cX10_parts 163 = .ok (.iastore, 1) := by decide +kernel
theorem dX10_parts_164 : decode cX10_parts 164 = .ok (.aload_n 0, 1) := by decide +kernel
theorem dX10_parts_165 : decode cX10_parts 165 = .ok (.getfield 102, 3) := by decide +kernel
theorem dX10_parts_168 : decode cX10_parts 168 = .ok (.aload_n 0, 1) := by decide +kernel
theorem dX10_parts_169 : decode cX10_parts 169 = .ok (.getfield 192, 3) := by decide +kernel
theorem dX10_parts_172 : decode cX10_parts 172 = .ok (.iload 5, 2) := by decide +kernel
theorem dX10_parts_174 : decode cX10_parts 174 = .ok (.iastore, 1) := by decide +kernel
theorem dX10_parts_175 : decode cX10_parts 175 = .ok (.aload_n 0, 1) := by decide +kernel
theorem dX10_parts_176 : decode cX10_parts 176 = .ok (.getfield 105, 3) := by decide +kernel
theorem dX10_parts_179 : decode cX10_parts 179 = .ok (.aload_n 0, 1) := by decide +kernel
theorem dX10_parts_180 : decode cX10_parts 180 = .ok (.getfield 192, 3) := by decide +kernel
theorem dX10_parts_183 : decode cX10_parts 183 = .ok (.aload_n 0, 1) := by decide +kernel
theorem dX10_parts_184 : decode cX10_parts 184 = .ok (.getfield 36, 3) := by decide +kernel
theorem dX10_parts_187 : decode cX10_parts 187 = .ok (.iload_n 3, 1) := by decide +kernel
theorem dX10_parts_188 : decode cX10_parts 188 = .ok (.iaload, 1) := by decide +kernel
theorem dX10_parts_189 : decode cX10_parts 189 = .ok (.iastore, 1) := by decide +kernel
theorem dX10_parts_190 : decode cX10_parts 190 = .ok (.aload_n 0, 1) := by decide +kernel
theorem dX10_parts_191 : decode cX10_parts 191 = .ok (.getfield 108, 3) := by decide +kernel
theorem dX10_parts_194 : decode cX10_parts 194 = .ok (.aload_n 0, 1) := by decide +kernel
theorem dX10_parts_195 : decode cX10_parts 195 = .ok (.getfield 192, 3) := by decide +kernel
theorem dX10_parts_198 : decode cX10_parts 198 = .ok (.iconst 0, 1) := by decide +kernel
theorem dX10_parts_199 : decode cX10_parts 199 = .ok (.bastore, 1) := by decide +kernel
theorem dX10_parts_200 : decode cX10_parts 200 = .ok (.aload_n 0, 1) := by decide +kernel
theorem dX10_parts_201 : decode cX10_parts 201 = .ok (.dup, 1) := by decide +kernel
theorem dX10_parts_202 : decode cX10_parts 202 = .ok (.getfield 192, 3) := by decide +kernel
theorem dX10_parts_205 : decode cX10_parts 205 = .ok (.iconst 1, 1) := by decide +kernel
theorem dX10_parts_206 : decode cX10_parts 206 = .ok (.iadd, 1) := by decide +kernel
theorem dX10_parts_207 : decode cX10_parts 207 = .ok (.putfield 192, 3) := by decide +kernel
theorem dX10_parts_210 : decode cX10_parts 210 = .ok (.iinc 2 1, 3) := by decide +kernel
theorem dX10_parts_213 : decode cX10_parts 213 = .ok (.goto (-211), 3) := by decide +kernel
theorem dX10_parts_216 : decode cX10_parts 216 = .ok (.return_, 1) := by decide +kernel
theorem dX10_drawsAll_0 : decode cX10_drawsAll 0 = .ok (.aload_n 0, 1) := by decide +kernel
theorem dX10_drawsAll_1 : decode cX10_drawsAll 1 = .ok (.iload_n 1, 1) := by decide +kernel
theorem dX10_drawsAll_2 : decode cX10_drawsAll 2 = .ok (.invokevirtual 195, 3) := by decide +kernel
theorem dX10_drawsAll_5 : decode cX10_drawsAll 5 = .ok (.istore_n 2, 1) := by decide +kernel
theorem dX10_drawsAll_6 : decode cX10_drawsAll 6 = .ok (.iload_n 2, 1) := by decide +kernel
theorem dX10_drawsAll_7 : decode cX10_drawsAll 7 = .ok (.ifCond .eq 25, 3) := by decide +kernel
theorem dX10_drawsAll_10 : decode cX10_drawsAll 10 = .ok (.aload_n 0, 1) := by decide +kernel
theorem dX10_drawsAll_11 : decode cX10_drawsAll 11 = .ok (.iload_n 2, 1) := by decide +kernel
theorem dX10_drawsAll_12 : decode cX10_drawsAll 12 = .ok (.invokevirtual 199, 3) := by decide +kernel
theorem dX10_drawsAll_15 : decode cX10_drawsAll 15 = .ok (.istore_n 3, 1) := by decide +kernel
theorem dX10_drawsAll_16 : decode cX10_drawsAll 16 = .ok (.iload_n 2, 1) := by decide +kernel
theorem dX10_drawsAll_17 : decode cX10_drawsAll 17 = .ok (.iconst 1, 1) := by decide +kernel
theorem dX10_drawsAll_18 : decode cX10_drawsAll 18 = .ok (.iload_n 3, 1) := by decide +kernel
theorem dX10_drawsAll_19 : decode cX10_drawsAll 19 = .ok (.ishl, 1) := by decide +kernel
theorem dX10_drawsAll_20 : decode cX10_drawsAll 20 = .ok (.iconst (-1), 1) := by decide +kernel
theorem dX10_drawsAll_21 : decode cX10_drawsAll 21 = .ok (.ixor, 1) := by decide +kernel
theorem dX10_drawsAll_22 : decode cX10_drawsAll 22 = .ok (.iand, 1) := by decide +kernel
theorem dX10_drawsAll_23 : decode cX10_drawsAll 23 = .ok (.istore_n 2, 1) := by decide +kernel
theorem dX10_drawsAll_24 : decode cX10_drawsAll 24 = .ok (.aload_n 0, 1) := by decide +kernel
theorem dX10_drawsAll_25 : decode cX10_drawsAll 25 = .ok (.iload_n 3, 1) := by decide +kernel
theorem dX10_drawsAll_26 : decode cX10_drawsAll 26 = .ok (.invokevirtual 202, 3) := by decide +kernel
theorem dX10_drawsAll_29 : decode cX10_drawsAll 29 = .ok (.goto (-23), 3) := by decide +kernel
theorem dX10_drawsAll_32 : decode cX10_drawsAll 32 = .ok (.return_, 1) := by decide +kernel
theorem dX10_open_0 : decode cX10_open 0 = .ok (.aload_n 0, 1) := by decide +kernel
theorem dX10_open_1 : decode cX10_open 1 = .ok (.aload_n 0, 1) := by decide +kernel
theorem dX10_open_2 : decode cX10_open 2 = .ok (.getfield 205, 3) := by decide +kernel
theorem dX10_open_5 : decode cX10_open 5 = .ok (.ifCond .ne 17, 3) := by decide +kernel
theorem dX10_open_8 : decode cX10_open 8 = .ok (.aload_n 0, 1) := by decide +kernel
theorem dX10_open_9 : decode cX10_open 9 = .ok (.iconst 1, 1) := by decide +kernel
theorem dX10_open_10 : decode cX10_open 10 = .ok (.invokevirtual 195, 3) := by decide +kernel
theorem dX10_open_13 : decode cX10_open 13 = .ok (.aload_n 0, 1) := by decide +kernel
theorem dX10_open_14 : decode cX10_open 14 = .ok (.iconst 0, 1) := by decide +kernel
theorem dX10_open_15 : decode cX10_open 15 = .ok (.invokevirtual 195, 3) := by decide +kernel
theorem dX10_open_18 : decode cX10_open 18 = .ok (.ior, 1) := by decide +kernel
theorem dX10_open_19 : decode cX10_open 19 = .ok (.ifCond .ne 7, 3) := by decide +kernel
theorem dX10_open_22 : decode cX10_open 22 = .ok (.iconst 1, 1) := by decide +kernel
theorem dX10_open_23 : decode cX10_open 23 = .ok (.goto 4, 3) := by decide +kernel
theorem dX10_open_26 : decode cX10_open 26 = .ok (.iconst 0, 1) := by decide +kernel
theorem dX10_open_27 : decode cX10_open 27 = .ok (.invokevirtual 178, 3) := by decide +kernel
theorem dX10_open_30 : decode cX10_open 30 = .ok (.ifCond .eq 5, 3) := by decide +kernel
theorem dX10_open_33 : decode cX10_open 33 = .ok (.iconst 0, 1) := by decide +kernel
theorem dX10_open_34 : decode cX10_open 34 = .ok (.ireturn, 1) := by decide +kernel
theorem dX10_open_35 : decode cX10_open 35 = .ok (.aload_n 0, 1) := by decide +kernel
theorem dX10_open_36 : decode cX10_open 36 = .ok (.iconst 1, 1) := by decide +kernel
theorem dX10_open_37 : decode cX10_open 37 = .ok (.putfield 205, 3) := by decide +kernel
theorem dX10_open_40 : decode cX10_open 40 = .ok (.aload_n 0, 1) := by decide +kernel
theorem dX10_open_41 : decode cX10_open 41 = .ok (.iconst 0, 1) := by decide +kernel
theorem dX10_open_42 : decode cX10_open 42 = .ok (.putfield 192, 3) := by decide +kernel
theorem dX10_open_45 : decode cX10_open 45 = .ok (.iconst 0, 1) := by decide +kernel
theorem dX10_open_46 : decode cX10_open 46 = .ok (.istore_n 1, 1) := by decide +kernel
theorem dX10_open_47 : decode cX10_open 47 = .ok (.iload_n 1, 1) := by decide +kernel
theorem dX10_open_48 : decode cX10_open 48 = .ok (.aload_n 0, 1) := by decide +kernel
theorem dX10_open_49 : decode cX10_open 49 = .ok (.getfield 167, 3) := by decide +kernel
theorem dX10_open_52 : decode cX10_open 52 = .ok (.if_icmp .ge 16, 3) := by decide +kernel
theorem dX10_open_55 : decode cX10_open 55 = .ok (.aload_n 0, 1) := by decide +kernel
theorem dX10_open_56 : decode cX10_open 56 = .ok (.getfield 90, 3) := by decide +kernel
theorem dX10_open_59 : decode cX10_open 59 = .ok (.iload_n 1, 1) := by decide +kernel
theorem dX10_open_60 : decode cX10_open 60 = .ok (.iconst (-1), 1) := by decide +kernel
theorem dX10_open_61 : decode cX10_open 61 = .ok (.iastore, 1) := by decide +kernel
theorem dX10_open_62 : decode cX10_open 62 = .ok (.iinc 1 1, 3) := by decide +kernel
theorem dX10_open_65 : decode cX10_open 65 = .ok (.goto (-18), 3) := by decide +kernel
theorem dX10_open_68 : decode cX10_open 68 = .ok (.aload_n 0, 1) := by decide +kernel
theorem dX10_open_69 : decode cX10_open 69 = .ok (.iconst 1, 1) := by decide +kernel
theorem dX10_open_70 : decode cX10_open 70 = .ok (.invokevirtual 209, 3) := by decide +kernel
theorem dX10_open_73 : decode cX10_open 73 = .ok (.aload_n 0, 1) := by decide +kernel
theorem dX10_open_74 : decode cX10_open 74 = .ok (.iconst 0, 1) := by decide +kernel
theorem dX10_open_75 : decode cX10_open 75 = .ok (.invokevirtual 209, 3) := by decide +kernel
theorem dX10_open_78 : decode cX10_open 78 = .ok (.iconst 0, 1) := by decide +kernel
theorem dX10_open_79 : decode cX10_open 79 = .ok (.istore_n 1, 1) := by decide +kernel
theorem dX10_open_80 : decode cX10_open 80 = .ok (.iload_n 1, 1) := by decide +kernel
theorem dX10_open_81 : decode cX10_open 81 = .ok (.iconst 3, 1) := by decide +kernel
theorem dX10_open_82 : decode cX10_open 82 = .ok (.if_icmp .ge 14, 3) := by decide +kernel
theorem dX10_open_85 : decode cX10_open 85 = .ok (.aload_n 0, 1) := by decide +kernel
theorem dX10_open_86 : decode cX10_open 86 = .ok (.iload_n 1, 1) := by decide +kernel
theorem dX10_open_87 : decode cX10_open 87 = .ok (.invokevirtual 213, 3) := by decide +kernel
theorem dX10_open_90 : decode cX10_open 90 = .ok (.iinc 1 1, 3) := by decide +kernel
theorem dX10_open_93 : decode cX10_open 93 = .ok (.goto (-13), 3) := by decide +kernel
theorem dX10_open_96 : decode cX10_open 96 = .ok (.aload_n 0, 1) := by decide +kernel
theorem dX10_open_97 : decode cX10_open 97 = .ok (.getfield 192, 3) := by decide +kernel
theorem dX10_open_100 : decode cX10_open 100 = .ok (.ireturn, 1) := by decide +kernel
theorem dX10_comes_0 : decode cX10_comes 0 = .ok (.aload_n 0, 1) := by decide +kernel
theorem dX10_comes_1 : decode cX10_comes 1 = .ok (.getfield 120, 3) := by decide +kernel
theorem dX10_comes_4 : decode cX10_comes 4 = .ok (.iload_n 1, 1) := by decide +kernel
theorem dX10_comes_5 : decode cX10_comes 5 = .ok (.iconst (-1), 1) := by decide +kernel
theorem dX10_comes_6 : decode cX10_comes 6 = .ok (.iastore, 1) := by decide +kernel
theorem dX10_comes_7 : decode cX10_comes 7 = .ok (.aload_n 0, 1) := by decide +kernel
theorem dX10_comes_8 : decode cX10_comes 8 = .ok (.getfield 192, 3) := by decide +kernel
theorem dX10_comes_11 : decode cX10_comes 11 = .ok (.iconst 1, 1) := by decide +kernel
theorem dX10_comes_12 : decode cX10_comes 12 = .ok (.isub, 1) := by decide +kernel
theorem dX10_comes_13 : decode cX10_comes 13 = .ok (.istore_n 2, 1) := by decide +kernel
theorem dX10_comes_14 : decode cX10_comes 14 = .ok (.iload_n 2, 1) := by decide +kernel
theorem dX10_comes_15 : decode cX10_comes 15 = .ok (.ifCond .lt 44, 3) := by decide +kernel
theorem dX10_comes_18 : decode cX10_comes 18 = .ok (.aload_n 0, 1) := by decide +kernel
theorem dX10_comes_19 : decode cX10_comes 19 = .ok (.getfield 120, 3) := by decide +kernel
theorem dX10_comes_22 : decode cX10_comes 22 = .ok (.iload_n 1, 1) := by decide +kernel
theorem dX10_comes_23 : decode cX10_comes 23 = .ok (.aload_n 0, 1) := by decide +kernel
theorem dX10_comes_24 : decode cX10_comes 24 = .ok (.getfield 105, 3) := by decide +kernel
theorem dX10_comes_27 : decode cX10_comes 27 = .ok (.iload_n 2, 1) := by decide +kernel
theorem dX10_comes_28 : decode cX10_comes 28 = .ok (.iaload, 1) := by decide +kernel
theorem dX10_comes_29 : decode cX10_comes 29 = .ok (.iload_n 1, 1) := by decide +kernel
theorem dX10_comes_30 : decode cX10_comes 30 = .ok (.if_icmp .ne 16, 3) := by decide +kernel
theorem dX10_comes_33 : decode cX10_comes 33 = .ok (.aload_n 0, 1) := by decide +kernel
theorem dX10_comes_34 : decode cX10_comes 34 = .ok (.getfield 108, 3) := by decide +kernel
theorem dX10_comes_37 : decode cX10_comes 37 = .ok (.iload_n 2, 1) := by decide +kernel
theorem dX10_comes_38 : decode cX10_comes 38 = .ok (.baload, 1) := by decide +kernel
theorem dX10_comes_39 : decode cX10_comes 39 = .ok (.ifCond .ne 7, 3) := by decide +kernel
theorem dX10_comes_42 : decode cX10_comes 42 = .ok (.iload_n 2, 1) := by decide +kernel
theorem dX10_comes_43 : decode cX10_comes 43 = .ok (.goto 9, 3) := by decide +kernel
theorem dX10_comes_46 : decode cX10_comes 46 = .ok (.aload_n 0, 1) := by decide +kernel
theorem dX10_comes_47 : decode cX10_comes 47 = .ok (.getfield 120, 3) := by decide +kernel
theorem dX10_comes_50 : decode cX10_comes 50 = .ok (.iload_n 1, 1) := by decide +kernel
theorem dX10_comes_51 : decode cX10_comes 51 = .ok (.iaload, 1) := by decide +kernel
theorem dX10_comes_52 : decode cX10_comes 52 = .ok (.iastore, 1) := by decide +kernel
theorem dX10_comes_53 : decode cX10_comes 53 = .ok (.iinc 2 (-1), 3) := by decide +kernel
theorem dX10_comes_56 : decode cX10_comes 56 = .ok (.goto (-42), 3) := by decide +kernel
theorem dX10_comes_59 : decode cX10_comes 59 = .ok (.aload_n 0, 1) := by decide +kernel
theorem dX10_comes_60 : decode cX10_comes 60 = .ok (.getfield 117, 3) := by decide +kernel
theorem dX10_comes_63 : decode cX10_comes 63 = .ok (.iload_n 1, 1) := by decide +kernel
theorem dX10_comes_64 : decode cX10_comes 64 = .ok (.aload_n 0, 1) := by decide +kernel
theorem dX10_comes_65 : decode cX10_comes 65 = .ok (.getfield 120, 3) := by decide +kernel
theorem dX10_comes_68 : decode cX10_comes 68 = .ok (.iload_n 1, 1) := by decide +kernel
theorem dX10_comes_69 : decode cX10_comes 69 = .ok (.iaload, 1) := by decide +kernel
theorem dX10_comes_70 : decode cX10_comes 70 = .ok (.iconst (-1), 1) := by decide +kernel
theorem dX10_comes_71 : decode cX10_comes 71 = .ok (.if_icmp .ne 7, 3) := by decide +kernel
theorem dX10_comes_74 : decode cX10_comes 74 = .ok (.iconst 0, 1) := by decide +kernel
theorem dX10_comes_75 : decode cX10_comes 75 = .ok (.goto 4, 3) := by decide +kernel
theorem dX10_comes_78 : decode cX10_comes 78 = .ok (.iconst 1, 1) := by decide +kernel
theorem dX10_comes_79 : decode cX10_comes 79 = .ok (.iastore, 1) := by decide +kernel
theorem dX10_comes_80 : decode cX10_comes 80 = .ok (.aload_n 0, 1) := by decide +kernel
theorem dX10_comes_81 : decode cX10_comes 81 = .ok (.getfield 123, 3) := by decide +kernel
theorem dX10_comes_84 : decode cX10_comes 84 = .ok (.iload_n 1, 1) := by decide +kernel
theorem dX10_comes_85 : decode cX10_comes 85 = .ok (.aload_n 0, 1) := by decide +kernel
theorem dX10_comes_86 : decode cX10_comes 86 = .ok (.getfield 120, 3) := by decide +kernel
theorem dX10_comes_89 : decode cX10_comes 89 = .ok (.iload_n 1, 1) := by decide +kernel
theorem dX10_comes_90 : decode cX10_comes 90 = .ok (.iaload, 1) := by decide +kernel
theorem dX10_comes_91 : decode cX10_comes 91 = .ok (.iconst (-1), 1) := by decide +kernel
theorem dX10_comes_92 : decode cX10_comes 92 = .ok (.if_icmp .ne 7, 3) := by decide +kernel
theorem dX10_comes_95 : decode cX10_comes 95 = .ok (.iconst 0, 1) := by decide +kernel
theorem dX10_comes_96 : decode cX10_comes 96 = .ok (.goto 19, 3) := by decide +kernel
theorem dX10_comes_99 : decode cX10_comes 99 = .ok (.aload_n 0, 1) := by decide +kernel
theorem dX10_comes_100 : decode cX10_comes 100 = .ok (.getfield 30, 3) := by decide +kernel
theorem dX10_comes_103 : decode cX10_comes 103 = .ok (.aload_n 0, 1) := by decide +kernel
theorem dX10_comes_104 : decode cX10_comes 104 = .ok (.getfield 96, 3) := by decide +kernel
theorem dX10_comes_107 : decode cX10_comes 107 = .ok (.aload_n 0, 1) := by decide +kernel
theorem dX10_comes_108 : decode cX10_comes 108 = .ok (.getfield 120, 3) := by decide +kernel
theorem dX10_comes_111 : decode cX10_comes 111 = .ok (.iload_n 1, 1) := by decide +kernel
theorem dX10_comes_112 : decode cX10_comes 112 = .ok (.iaload, 1) := by decide +kernel
theorem dX10_comes_113 : decode cX10_comes 113 = .ok (.iaload, 1) := by decide +kernel
theorem dX10_comes_114 : decode cX10_comes 114 = .ok (.iaload, 1) := by decide +kernel
theorem dX10_comes_115 : decode cX10_comes 115 = .ok (.iastore, 1) := by decide +kernel
theorem dX10_comes_116 : decode cX10_comes 116 = .ok (.aload_n 0, 1) := by decide +kernel
theorem dX10_comes_117 : decode cX10_comes 117 = .ok (.getfield 129, 3) := by decide +kernel
theorem dX10_comes_120 : decode cX10_comes 120 = .ok (.iload_n 1, 1) := by decide +kernel
theorem dX10_comes_121 : decode cX10_comes 121 = .ok (.iconst (-1), 1) := by decide +kernel
theorem dX10_comes_122 : decode cX10_comes 122 = .ok (.iastore, 1) := by decide +kernel
theorem dX10_comes_123 : decode cX10_comes 123 = .ok (.aload_n 0, 1) := by decide +kernel
theorem dX10_comes_124 : decode cX10_comes 124 = .ok (.iload_n 1, 1) := by decide +kernel
theorem dX10_comes_125 : decode cX10_comes 125 = .ok (.invokevirtual 156, 3) := by decide +kernel
theorem dX10_comes_128 : decode cX10_comes 128 = .ok (.return_, 1) := by decide +kernel
theorem dX10_begins_0 : decode cX10_begins 0 = .ok (.bipush 8, 2) := by decide +kernel
theorem dX10_begins_2 : decode cX10_begins 2 = .ok (.iload_n 1, 1) := by decide +kernel
theorem dX10_begins_3 : decode cX10_begins 3 = .ok (.imul, 1) := by decide +kernel
theorem dX10_begins_4 : decode cX10_begins 4 = .ok (.istore_n 2, 1) := by decide +kernel
theorem dX10_begins_5 : decode cX10_begins 5 = .ok (.iload_n 2, 1) := by decide +kernel
theorem dX10_begins_6 : decode cX10_begins 6 = .ok (.bipush 8, 2) := by decide +kernel
theorem dX10_begins_8 : decode cX10_begins 8 = .ok (.iload_n 1, 1) := by decide +kernel
theorem dX10_begins_9 : decode cX10_begins 9 = .ok (.imul, 1) := by decide +kernel
theorem dX10_begins_10 : decode cX10_begins 10 = .ok (.bipush 8, 2) := by decide +kernel
theorem dX10_begins_12 : decode cX10_begins 12 = .ok (.iadd, 1) := by decide +kernel
theorem dX10_begins_13 : decode cX10_begins 13 = .ok (.if_icmp .ge 23, 3) := by decide +kernel
theorem dX10_begins_16 : decode cX10_begins 16 = .ok (.aload_n 0, 1) := by decide +kernel
theorem dX10_begins_17 : decode cX10_begins 17 = .ok (.getfield 132, 3) := by decide +kernel
theorem dX10_begins_20 : decode cX10_begins 20 = .ok (.iload_n 2, 1) := by decide +kernel
theorem dX10_begins_21 : decode cX10_begins 21 = .ok (.iconst (-1), 1) := by decide +kernel
theorem dX10_begins_22 : decode cX10_begins 22 = .ok (.iastore, 1) := by decide +kernel
theorem dX10_begins_23 : decode cX10_begins 23 = .ok (.aload_n 0, 1) := by decide +kernel
theorem dX10_begins_24 : decode cX10_begins 24 = .ok (.getfield 141, 3) := by decide +kernel
theorem dX10_begins_27 : decode cX10_begins 27 = .ok (.iload_n 2, 1) := by decide +kernel
theorem dX10_begins_28 : decode cX10_begins 28 = .ok (.iconst 0, 1) := by decide +kernel
theorem dX10_begins_29 : decode cX10_begins 29 = .ok (.bastore, 1) := by decide +kernel
theorem dX10_begins_30 : decode cX10_begins 30 = .ok (.iinc 2 1, 3) := by decide +kernel
theorem dX10_begins_33 : decode cX10_begins 33 = .ok (.goto (-28), 3) := by decide +kernel
theorem dX10_begins_36 : decode cX10_begins 36 = .ok (.return_, 1) := by decide +kernel
theorem dX10_withdraws_0 : decode cX10_withdraws 0 = .ok (.aload_n 0, 1) := by decide +kernel
theorem dX10_withdraws_1 : decode cX10_withdraws 1 = .ok (.getfield 20, 3) := by decide +kernel
theorem dX10_withdraws_4 : decode cX10_withdraws 4 = .ok (.aload_n 0, 1) := by decide +kernel
theorem dX10_withdraws_5 : decode cX10_withdraws 5 = .ok (.getfield 51, 3) := by decide +kernel
theorem dX10_withdraws_8 : decode cX10_withdraws 8 = .ok (.iload_n 1, 1) := by decide +kernel
theorem dX10_withdraws_9 : decode cX10_withdraws 9 = .ok (.iaload, 1) := by decide +kernel
theorem dX10_withdraws_10 : decode cX10_withdraws 10 = .ok (.iaload, 1) := by decide +kernel
theorem dX10_withdraws_11 : decode cX10_withdraws 11 = .ok (.aload_n 0, 1) := by decide +kernel
theorem dX10_withdraws_12 : decode cX10_withdraws 12 = .ok (.getfield 63, 3) := by decide +kernel
theorem dX10_withdraws_15 : decode cX10_withdraws 15 = .ok (.iload_n 1, 1) := by decide +kernel
theorem dX10_withdraws_16 : decode cX10_withdraws 16 = .ok (.iaload, 1) := by decide +kernel
theorem dX10_withdraws_17 : decode cX10_withdraws 17 = .ok (.if_icmp .lt 56, 3) := by decide +kernel
theorem dX10_withdraws_20 : decode cX10_withdraws 20 = .ok (.aload_n 0, 1) := by decide +kernel
theorem dX10_withdraws_21 : decode cX10_withdraws 21 = .ok (.getfield 69, 3) := by decide +kernel
theorem dX10_withdraws_24 : decode cX10_withdraws 24 = .ok (.iload_n 1, 1) := by decide +kernel
theorem dX10_withdraws_25 : decode cX10_withdraws 25 = .ok (.iconst 5, 1) := by decide +kernel
theorem dX10_withdraws_26 : decode cX10_withdraws 26 = .ok (.iastore, 1) := by decide +kernel
theorem dX10_withdraws_27 : decode cX10_withdraws 27 = .ok (.aload_n 0, 1) := by decide +kernel
theorem dX10_withdraws_28 : decode cX10_withdraws 28 = .ok (.getfield 20, 3) := by decide +kernel
theorem dX10_withdraws_31 : decode cX10_withdraws 31 = .ok (.aload_n 0, 1) := by decide +kernel
theorem dX10_withdraws_32 : decode cX10_withdraws 32 = .ok (.getfield 51, 3) := by decide +kernel
theorem dX10_withdraws_35 : decode cX10_withdraws 35 = .ok (.iload_n 1, 1) := by decide +kernel
theorem dX10_withdraws_36 : decode cX10_withdraws 36 = .ok (.iaload, 1) := by decide +kernel
theorem dX10_withdraws_37 : decode cX10_withdraws 37 = .ok (.dup2, 1) := by decide +kernel
theorem dX10_withdraws_38 : decode cX10_withdraws 38 = .ok (.iaload, 1) := by decide +kernel
theorem dX10_withdraws_39 : decode cX10_withdraws 39 = .ok (.aload_n 0, 1) := by decide +kernel
theorem dX10_withdraws_40 : decode cX10_withdraws 40 = .ok (.getfield 63, 3) := by decide +kernel
theorem dX10_withdraws_43 : decode cX10_withdraws 43 = .ok (.iload_n 1, 1) := by decide +kernel
theorem dX10_withdraws_44 : decode cX10_withdraws 44 = .ok (.iaload, 1) := by decide +kernel
theorem dX10_withdraws_45 : decode cX10_withdraws 45 = .ok (.isub, 1) := by decide +kernel
theorem dX10_withdraws_46 : decode cX10_withdraws 46 = .ok (.iastore, 1) := by decide +kernel
theorem dX10_withdraws_47 : decode cX10_withdraws 47 = .ok (.aload_n 0, 1) := by decide +kernel
theorem dX10_withdraws_48 : decode cX10_withdraws 48 = .ok (.getfield 27, 3) := by decide +kernel
theorem dX10_withdraws_51 : decode cX10_withdraws 51 = .ok (.aload_n 0, 1) := by decide +kernel
theorem dX10_withdraws_52 : decode cX10_withdraws 52 = .ok (.getfield 51, 3) := by decide +kernel
theorem dX10_withdraws_55 : decode cX10_withdraws 55 = .ok (.iload_n 1, 1) := by decide +kernel
theorem dX10_withdraws_56 : decode cX10_withdraws 56 = .ok (.iaload, 1) := by decide +kernel
theorem dX10_withdraws_57 : decode cX10_withdraws 57 = .ok (.dup2, 1) := by decide +kernel
theorem dX10_withdraws_58 : decode cX10_withdraws 58 = .ok (.iaload, 1) := by decide +kernel
theorem dX10_withdraws_59 : decode cX10_withdraws 59 = .ok (.bipush 20, 2) := by decide +kernel
theorem dX10_withdraws_61 : decode cX10_withdraws 61 = .ok (.aload_n 0, 1) := by decide +kernel
theorem dX10_withdraws_62 : decode cX10_withdraws 62 = .ok (.getfield 63, 3) := by decide +kernel
theorem dX10_withdraws_65 : decode cX10_withdraws 65 = .ok (.iload_n 1, 1) := by decide +kernel
theorem dX10_withdraws_66 : decode cX10_withdraws 66 = .ok (.iaload, 1) := by decide +kernel
theorem dX10_withdraws_67 : decode cX10_withdraws 67 = .ok (.imul, 1) := by decide +kernel
theorem dX10_withdraws_68 : decode cX10_withdraws 68 = .ok (.iadd, 1) := by decide +kernel
theorem dX10_withdraws_69 : decode cX10_withdraws 69 = .ok (.iastore, 1) := by decide +kernel
theorem dX10_withdraws_70 : decode cX10_withdraws 70 = .ok (.goto 58, 3) := by decide +kernel
theorem dX10_withdraws_73 : decode cX10_withdraws 73 = .ok (.aload_n 0, 1) := by decide +kernel
theorem dX10_withdraws_74 : decode cX10_withdraws 74 = .ok (.getfield 72, 3) := by decide +kernel
theorem dX10_withdraws_77 : decode cX10_withdraws 77 = .ok (.iload_n 1, 1) := by decide +kernel
theorem dX10_withdraws_78 : decode cX10_withdraws 78 = .ok (.baload, 1) := by decide +kernel
theorem dX10_withdraws_79 : decode cX10_withdraws 79 = .ok (.ifCond .ne 41, 3) := by decide +kernel
theorem dX10_withdraws_82 : decode cX10_withdraws 82 = .ok (.aload_n 0, 1) := by decide +kernel
theorem dX10_withdraws_83 : decode cX10_withdraws 83 = .ok (.getfield 60, 3) := by decide +kernel
theorem dX10_withdraws_86 : decode cX10_withdraws 86 = .ok (.iload_n 1, 1) := by decide +kernel
theorem dX10_withdraws_87 : decode cX10_withdraws 87 = .ok (.iaload, 1) := by decide +kernel
theorem dX10_withdraws_88 : decode cX10_withdraws 88 = .ok (.iconst 1, 1) := by decide +kernel
theorem dX10_withdraws_89 : decode cX10_withdraws 89 = .ok (.if_icmp .le 31, 3) := by decide +kernel
theorem dX10_withdraws_92 : decode cX10_withdraws 92 = .ok (.aload_n 0, 1) := by decide +kernel
theorem dX10_withdraws_93 : decode cX10_withdraws 93 = .ok (.getfield 69, 3) := by decide +kernel
theorem dX10_withdraws_96 : decode cX10_withdraws 96 = .ok (.iload_n 1, 1) := by decide +kernel
theorem dX10_withdraws_97 : decode cX10_withdraws 97 = .ok (.bipush 6, 2) := by decide +kernel
theorem dX10_withdraws_99 : decode cX10_withdraws 99 = .ok (.iastore, 1) := by decide +kernel
theorem dX10_withdraws_100 : decode cX10_withdraws 100 = .ok (.aload_n 0, 1) := by decide +kernel
theorem dX10_withdraws_101 : decode cX10_withdraws 101 = .ok (.getfield 72, 3) := by decide +kernel
theorem dX10_withdraws_104 : decode cX10_withdraws 104 = .ok (.iload_n 1, 1) := by decide +kernel
theorem dX10_withdraws_105 : decode cX10_withdraws 105 = .ok (.iconst 1, 1) := by decide +kernel
theorem dX10_withdraws_106 : decode cX10_withdraws 106 = .ok (.bastore, 1) := by decide +kernel
theorem dX10_withdraws_107 : decode cX10_withdraws 107 = .ok (.aload_n 0, 1) := by decide +kernel
theorem dX10_withdraws_108 : decode cX10_withdraws 108 = .ok (.getfield 60, 3) := by decide +kernel
theorem dX10_withdraws_111 : decode cX10_withdraws 111 = .ok (.iload_n 1, 1) := by decide +kernel
theorem dX10_withdraws_112 : decode cX10_withdraws 112 = .ok (.dup2, 1) := by decide +kernel
theorem dX10_withdraws_113 : decode cX10_withdraws 113 = .ok (.iaload, 1) := by decide +kernel
theorem dX10_withdraws_114 : decode cX10_withdraws 114 = .ok (.iconst 1, 1) := by decide +kernel
theorem dX10_withdraws_115 : decode cX10_withdraws 115 = .ok (.isub, 1) := by decide +kernel
theorem dX10_withdraws_116 : decode cX10_withdraws 116 = .ok (.iastore, 1) := by decide +kernel
theorem dX10_withdraws_117 : decode cX10_withdraws 117 = .ok (.goto 11, 3) := by decide +kernel
theorem dX10_withdraws_120 : decode cX10_withdraws 120 = .ok (.aload_n 0, 1) := by decide +kernel
theorem dX10_withdraws_121 : decode cX10_withdraws 121 = .ok (.getfield 69, 3) := by decide +kernel
theorem dX10_withdraws_124 : decode cX10_withdraws 124 = .ok (.iload_n 1, 1) := by decide +kernel
theorem dX10_withdraws_125 : decode cX10_withdraws 125 = .ok (.bipush 7, 2) := by decide +kernel
theorem dX10_withdraws_127 : decode cX10_withdraws 127 = .ok (.iastore, 1) := by decide +kernel
theorem dX10_withdraws_128 : decode cX10_withdraws 128 = .ok (.return_, 1) := by decide +kernel
theorem dX10_withdrawsAll_0 : decode cX10_withdrawsAll 0 = .ok (.iconst 0, 1) := by decide +kernel
theorem dX10_withdrawsAll_1 : decode cX10_withdrawsAll 1 = .ok (.istore_n 2, 1) := by decide +kernel
theorem dX10_withdrawsAll_2 : decode cX10_withdrawsAll 2 = .ok (.iconst 0, 1) := by decide +kernel
theorem dX10_withdrawsAll_3 : decode cX10_withdrawsAll 3 = .ok (.istore_n 3, 1) := by decide +kernel
theorem dX10_withdrawsAll_4 : decode cX10_withdrawsAll 4 = .ok (.iload_n 3, 1) := by decide +kernel
theorem dX10_withdrawsAll_5 : decode cX10_withdrawsAll 5 = .ok (.aload_n 0, 1) := by decide +kernel
theorem dX10_withdrawsAll_6 : decode cX10_withdrawsAll 6 = .ok (.getfield 167, 3) := by decide +kernel
theorem dX10_withdrawsAll_9 : decode cX10_withdrawsAll 9 = .ok (.if_icmp .ge 37, 3) := by decide +kernel
theorem dX10_withdrawsAll_12 : decode cX10_withdrawsAll 12 = .ok (.aload_n 0, 1) := by decide +kernel
theorem dX10_withdrawsAll_13 : decode cX10_withdrawsAll 13 = .ok (.getfield 90, 3) := by decide +kernel
theorem dX10_withdrawsAll_16 : decode cX10_withdrawsAll 16 = .ok (.iload_n 3, 1) := by decide +kernel
theorem dX10_withdrawsAll_17 : decode cX10_withdrawsAll 17 = .ok (.iaload, 1) := by decide +kernel
theorem dX10_withdrawsAll_18 : decode cX10_withdrawsAll 18 = .ok (.iload_n 1, 1) := by decide +kernel
theorem dX10_withdrawsAll_19 : decode cX10_withdrawsAll 19 = .ok (.if_icmp .ne 21, 3) := by decide +kernel
theorem dX10_withdrawsAll_22 : decode cX10_withdrawsAll 22 = .ok (.aload_n 0, 1) := by decide +kernel
theorem dX10_withdrawsAll_23 : decode cX10_withdrawsAll 23 = .ok (.getfield 69, 3) := by decide +kernel
theorem dX10_withdrawsAll_26 : decode cX10_withdrawsAll 26 = .ok (.iload_n 3, 1) := by decide +kernel
theorem dX10_withdrawsAll_27 : decode cX10_withdrawsAll 27 = .ok (.iaload, 1) := by decide +kernel
theorem dX10_withdrawsAll_28 : decode cX10_withdrawsAll 28 = .ok (.iconst 2, 1) := by decide +kernel
theorem dX10_withdrawsAll_29 : decode cX10_withdrawsAll 29 = .ok (.if_icmp .ne 11, 3) := by decide +kernel
theorem dX10_withdrawsAll_32 : decode cX10_withdrawsAll 32 = .ok (.aload_n 0, 1) := by decide +kernel
theorem dX10_withdrawsAll_33 : decode cX10_withdrawsAll 33 = .ok (.iload_n 3, 1) := by decide +kernel
theorem dX10_withdrawsAll_34 : decode cX10_withdrawsAll 34 = .ok (.invokevirtual 215, 3) := by decide +kernel
theorem dX10_withdrawsAll_37 : decode cX10_withdrawsAll 37 = .ok (.iinc 2 1, 3) := by decide +kernel
theorem dX10_withdrawsAll_40 : decode cX10_withdrawsAll 40 = .ok (.iinc 3 1, 3) := by decide +kernel
theorem dX10_withdrawsAll_43 : decode cX10_withdrawsAll 43 = .ok (.goto (-39), 3) := by decide +kernel
theorem dX10_withdrawsAll_46 : decode cX10_withdrawsAll 46 = .ok (.iload_n 2, 1) := by decide +kernel
theorem dX10_withdrawsAll_47 : decode cX10_withdrawsAll 47 = .ok (.ireturn, 1) := by decide +kernel
theorem dX10_ends_0 : decode cX10_ends 0 = .ok (.aload_n 0, 1) := by decide +kernel
theorem dX10_ends_1 : decode cX10_ends 1 = .ok (.getfield 108, 3) := by decide +kernel
theorem dX10_ends_4 : decode cX10_ends 4 = .ok (.aload_n 0, 1) := by decide +kernel
theorem dX10_ends_5 : decode cX10_ends 5 = .ok (.getfield 120, 3) := by decide +kernel
theorem dX10_ends_8 : decode cX10_ends 8 = .ok (.iload_n 1, 1) := by decide +kernel
theorem dX10_ends_9 : decode cX10_ends 9 = .ok (.iaload, 1) := by decide +kernel
theorem dX10_ends_10 : decode cX10_ends 10 = .ok (.iconst 1, 1) := by decide +kernel
theorem dX10_ends_11 : decode cX10_ends 11 = .ok (.bastore, 1) := by decide +kernel
theorem dX10_ends_12 : decode cX10_ends 12 = .ok (.aload_n 0, 1) := by decide +kernel
theorem dX10_ends_13 : decode cX10_ends 13 = .ok (.iload_n 1, 1) := by decide +kernel
theorem dX10_ends_14 : decode cX10_ends 14 = .ok (.invokevirtual 213, 3) := by decide +kernel
theorem dX10_ends_17 : decode cX10_ends 17 = .ok (.return_, 1) := by decide +kernel
theorem dX10_end_0 : decode cX10_end 0 = .ok (.aload_n 0, 1) := by decide +kernel
theorem dX10_end_1 : decode cX10_end 1 = .ok (.aload_n 0, 1) := by decide +kernel
theorem dX10_end_2 : decode cX10_end 2 = .ok (.getfield 205, 3) := by decide +kernel
theorem dX10_end_5 : decode cX10_end 5 = .ok (.ifCond .eq 7, 3) := by decide +kernel
theorem dX10_end_8 : decode cX10_end 8 = .ok (.iconst 0, 1) := by decide +kernel
theorem dX10_end_9 : decode cX10_end 9 = .ok (.goto 4, 3) := by decide +kernel
theorem dX10_end_12 : decode cX10_end 12 = .ok (.iconst 1, 1) := by decide +kernel
theorem dX10_end_13 : decode cX10_end 13 = .ok (.invokevirtual 178, 3) := by decide +kernel
theorem dX10_end_16 : decode cX10_end 16 = .ok (.ifCond .eq 5, 3) := by decide +kernel
theorem dX10_end_19 : decode cX10_end 19 = .ok (.iconst 0, 1) := by decide +kernel
theorem dX10_end_20 : decode cX10_end 20 = .ok (.ireturn, 1) := by decide +kernel
theorem dX10_end_21 : decode cX10_end 21 = .ok (.iconst 0, 1) := by decide +kernel
theorem dX10_end_22 : decode cX10_end 22 = .ok (.istore_n 1, 1) := by decide +kernel
theorem dX10_end_23 : decode cX10_end 23 = .ok (.iconst 0, 1) := by decide +kernel
theorem dX10_end_24 : decode cX10_end 24 = .ok (.istore_n 2, 1) := by decide +kernel
theorem dX10_end_25 : decode cX10_end 25 = .ok (.iload_n 2, 1) := by decide +kernel
theorem dX10_end_26 : decode cX10_end 26 = .ok (.aload_n 0, 1) := by decide +kernel
theorem dX10_end_27 : decode cX10_end 27 = .ok (.getfield 192, 3) := by decide +kernel
theorem dX10_end_30 : decode cX10_end 30 = .ok (.if_icmp .ge 17, 3) := by decide +kernel
theorem dX10_end_33 : decode cX10_end 33 = .ok (.iload_n 1, 1) := by decide +kernel
theorem dX10_end_34 : decode cX10_end 34 = .ok (.aload_n 0, 1) := by decide +kernel
theorem dX10_end_35 : decode cX10_end 35 = .ok (.iload_n 2, 1) := by decide +kernel
theorem dX10_end_36 : decode cX10_end 36 = .ok (.invokevirtual 218, 3) := by decide +kernel
theorem dX10_end_39 : decode cX10_end 39 = .ok (.iadd, 1) := by decide +kernel
theorem dX10_end_40 : decode cX10_end 40 = .ok (.istore_n 1, 1) := by decide +kernel
theorem dX10_end_41 : decode cX10_end 41 = .ok (.iinc 2 1, 3) := by decide +kernel
theorem dX10_end_44 : decode cX10_end 44 = .ok (.goto (-19), 3) := by decide +kernel
theorem dX10_end_47 : decode cX10_end 47 = .ok (.aload_n 0, 1) := by decide +kernel
theorem dX10_end_48 : decode cX10_end 48 = .ok (.iconst 0, 1) := by decide +kernel
theorem dX10_end_49 : decode cX10_end 49 = .ok (.putfield 205, 3) := by decide +kernel
theorem dX10_end_52 : decode cX10_end 52 = .ok (.aload_n 0, 1) := by decide +kernel
theorem dX10_end_53 : decode cX10_end 53 = .ok (.iconst 0, 1) := by decide +kernel
theorem dX10_end_54 : decode cX10_end 54 = .ok (.putfield 192, 3) := by decide +kernel
theorem dX10_end_57 : decode cX10_end 57 = .ok (.aload_n 0, 1) := by decide +kernel
theorem dX10_end_58 : decode cX10_end 58 = .ok (.dup, 1) := by decide +kernel
theorem dX10_end_59 : decode cX10_end 59 = .ok (.getfield 221, 3) := by decide +kernel
theorem dX10_end_62 : decode cX10_end 62 = .ok (.iconst 1, 1) := by decide +kernel
theorem dX10_end_63 : decode cX10_end 63 = .ok (.iadd, 1) := by decide +kernel
theorem dX10_end_64 : decode cX10_end 64 = .ok (.putfield 221, 3) := by decide +kernel
theorem dX10_end_67 : decode cX10_end 67 = .ok (.iconst 0, 1) := by decide +kernel
theorem dX10_end_68 : decode cX10_end 68 = .ok (.istore_n 2, 1) := by decide +kernel
theorem dX10_end_69 : decode cX10_end 69 = .ok (.iload_n 2, 1) := by decide +kernel
theorem dX10_end_70 : decode cX10_end 70 = .ok (.iconst 3, 1) := by decide +kernel
theorem dX10_end_71 : decode cX10_end 71 = .ok (.if_icmp .ge 14, 3) := by decide +kernel
theorem dX10_end_74 : decode cX10_end 74 = .ok (.aload_n 0, 1) := by decide +kernel
theorem dX10_end_75 : decode cX10_end 75 = .ok (.iload_n 2, 1) := by decide +kernel
theorem dX10_end_76 : decode cX10_end 76 = .ok (.invokevirtual 213, 3) := by decide +kernel
theorem dX10_end_79 : decode cX10_end 79 = .ok (.iinc 2 1, 3) := by decide +kernel
theorem dX10_end_82 : decode cX10_end 82 = .ok (.goto (-13), 3) := by decide +kernel
theorem dX10_end_85 : decode cX10_end 85 = .ok (.iconst 0, 1) := by decide +kernel
theorem dX10_end_86 : decode cX10_end 86 = .ok (.istore_n 2, 1) := by decide +kernel
theorem dX10_end_87 : decode cX10_end 87 = .ok (.iload_n 2, 1) := by decide +kernel
theorem dX10_end_88 : decode cX10_end 88 = .ok (.aload_n 0, 1) := by decide +kernel
theorem dX10_end_89 : decode cX10_end 89 = .ok (.getfield 167, 3) := by decide +kernel
theorem dX10_end_92 : decode cX10_end 92 = .ok (.if_icmp .ge 16, 3) := by decide +kernel
theorem dX10_end_95 : decode cX10_end 95 = .ok (.aload_n 0, 1) := by decide +kernel
theorem dX10_end_96 : decode cX10_end 96 = .ok (.getfield 90, 3) := by decide +kernel
theorem dX10_end_99 : decode cX10_end 99 = .ok (.iload_n 2, 1) := by decide +kernel
theorem dX10_end_100 : decode cX10_end 100 = .ok (.iconst (-1), 1) := by decide +kernel
theorem dX10_end_101 : decode cX10_end 101 = .ok (.iastore, 1) := by decide +kernel
theorem dX10_end_102 : decode cX10_end 102 = .ok (.iinc 2 1, 3) := by decide +kernel
theorem dX10_end_105 : decode cX10_end 105 = .ok (.goto (-18), 3) := by decide +kernel
theorem dX10_end_108 : decode cX10_end 108 = .ok (.iload_n 1, 1) := by decide +kernel
theorem dX10_end_109 : decode cX10_end 109 = .ok (.ireturn, 1) := by decide +kernel
theorem dX10_press_0 : decode cX10_press 0 = .ok (.iload_n 1, 1) := by decide +kernel
theorem dX10_press_1 : decode cX10_press 1 = .ok (.invokestatic 170, 3) := by decide +kernel
theorem dX10_press_4 : decode cX10_press 4 = .ok (.ifCond .eq 14, 3) := by decide +kernel
theorem dX10_press_7 : decode cX10_press 7 = .ok (.iload_n 2, 1) := by decide +kernel
theorem dX10_press_8 : decode cX10_press 8 = .ok (.invokestatic 181, 3) := by decide +kernel
theorem dX10_press_11 : decode cX10_press 11 = .ok (.ifCond .eq 7, 3) := by decide +kernel
theorem dX10_press_14 : decode cX10_press 14 = .ok (.iconst 1, 1) := by decide +kernel
theorem dX10_press_15 : decode cX10_press 15 = .ok (.goto 4, 3) := by decide +kernel
theorem dX10_press_18 : decode cX10_press 18 = .ok (.iconst 0, 1) := by decide +kernel
theorem dX10_press_19 : decode cX10_press 19 = .ok (.istore_n 3, 1) := by decide +kernel
theorem dX10_press_20 : decode cX10_press 20 = .ok (.iload_n 3, 1) := by decide +kernel
theorem dX10_press_21 : decode cX10_press 21 = .ok (.ifCond .eq 50, 3) := by decide +kernel
theorem dX10_press_24 : decode cX10_press 24 = .ok (.aload_n 0, 1) := by decide +kernel
theorem dX10_press_25 : decode cX10_press 25 = .ok (.getfield 117, 3) := by decide +kernel
theorem dX10_press_28 : decode cX10_press 28 = .ok (.iload_n 2, 1) := by decide +kernel
theorem dX10_press_29 : decode cX10_press 29 = .ok (.iaload, 1) := by decide +kernel
theorem dX10_press_30 : decode cX10_press 30 = .ok (.iconst 1, 1) := by decide +kernel
theorem dX10_press_31 : decode cX10_press 31 = .ok (.if_icmp .ne 40, 3) := by decide +kernel
theorem dX10_press_34 : decode cX10_press 34 = .ok (.aload_n 0, 1) := by decide +kernel
theorem dX10_press_35 : decode cX10_press 35 = .ok (.getfield 114, 3) := by decide +kernel
theorem dX10_press_38 : decode cX10_press 38 = .ok (.iload_n 2, 1) := by decide +kernel
theorem dX10_press_39 : decode cX10_press 39 = .ok (.baload, 1) := by decide +kernel
theorem dX10_press_40 : decode cX10_press 40 = .ok (.ifCond .eq 31, 3) := by decide +kernel
theorem dX10_press_43 : decode cX10_press 43 = .ok (.aload_n 0, 1) := by decide +kernel
theorem dX10_press_44 : decode cX10_press 44 = .ok (.getfield 48, 3) := by decide +kernel
theorem dX10_press_47 : decode cX10_press 47 = .ok (.iload_n 1, 1) := by decide +kernel
theorem dX10_press_48 : decode cX10_press 48 = .ok (.baload, 1) := by decide +kernel
theorem dX10_press_49 : decode cX10_press 49 = .ok (.ifCond .eq 22, 3) := by decide +kernel
theorem dX10_press_52 : decode cX10_press 52 = .ok (.aload_n 0, 1) := by decide +kernel
theorem dX10_press_53 : decode cX10_press 53 = .ok (.getfield 132, 3) := by decide +kernel
theorem dX10_press_56 : decode cX10_press 56 = .ok (.bipush 8, 2) := by decide +kernel
theorem dX10_press_58 : decode cX10_press 58 = .ok (.iload_n 2, 1) := by decide +kernel
theorem dX10_press_59 : decode cX10_press 59 = .ok (.imul, 1) := by decide +kernel
theorem dX10_press_60 : decode cX10_press 60 = .ok (.iload_n 1, 1) := by decide +kernel
theorem dX10_press_61 : decode cX10_press 61 = .ok (.iadd, 1) := by decide +kernel
theorem dX10_press_62 : decode cX10_press 62 = .ok (.iaload, 1) := by decide +kernel
theorem dX10_press_63 : decode cX10_press 63 = .ok (.iconst (-1), 1) := by decide +kernel
theorem dX10_press_64 : decode cX10_press 64 = .ok (.if_icmp .ne 7, 3) := by decide +kernel
theorem dX10_press_67 : decode cX10_press 67 = .ok (.iconst 1, 1) := by decide +kernel
theorem dX10_press_68 : decode cX10_press 68 = .ok (.goto 4, 3) := by decide +kernel
theorem dX10_press_71 : decode cX10_press 71 = .ok (.iconst 0, 1) := by decide +kernel
theorem dX10_press_72 : decode cX10_press 72 = .ok (.istore 4, 2) := by decide +kernel
theorem dX10_press_74 : decode cX10_press 74 = .ok (.aload_n 0, 1) := by decide +kernel
theorem dX10_press_75 : decode cX10_press 75 = .ok (.iload_n 3, 1) := by decide +kernel
theorem dX10_press_76 : decode cX10_press 76 = .ok (.ifCond .ne 7, 3) := by decide +kernel
theorem dX10_press_79 : decode cX10_press 79 = .ok (.iconst 1, 1) := by decide +kernel
theorem dX10_press_80 : decode cX10_press 80 = .ok (.goto 13, 3) := by decide +kernel
theorem dX10_press_83 : decode cX10_press 83 = .ok (.iload 4, 2) := by decide +kernel
theorem dX10_press_85 : decode cX10_press 85 = .ok (.ifCond .eq 7, 3) := by decide +kernel
theorem dX10_press_88 : decode cX10_press 88 = .ok (.iconst 0, 1) := by decide +kernel
theorem dX10_press_89 : decode cX10_press 89 = .ok (.goto 4, 3) := by decide +kernel
theorem dX10_press_92 : decode cX10_press 92 = .ok (.iconst 2, 1) := by decide +kernel
theorem dX10_press_93 : decode cX10_press 93 = .ok (.invokevirtual 178, 3) := by decide +kernel
theorem dX10_press_96 : decode cX10_press 96 = .ok (.ifCond .eq 5, 3) := by decide +kernel
theorem dX10_press_99 : decode cX10_press 99 = .ok (.iconst 0, 1) := by decide +kernel
theorem dX10_press_100 : decode cX10_press 100 = .ok (.ireturn, 1) := by decide +kernel
theorem dX10_press_101 : decode cX10_press 101 = .ok (.bipush 8, 2) := by decide +kernel
theorem dX10_press_103 : decode cX10_press 103 = .ok (.iload_n 2, 1) := by decide +kernel
theorem dX10_press_104 : decode cX10_press 104 = .ok (.imul, 1) := by decide +kernel
theorem dX10_press_105 : decode cX10_press 105 = .ok (.iload_n 1, 1) := by decide +kernel
theorem dX10_press_106 : decode cX10_press 106 = .ok (.iadd, 1) := by decide +kernel
theorem dX10_press_107 : decode cX10_press 107 = .ok (.istore 5, 2) := by decide +kernel
theorem dX10_press_109 : decode cX10_press 109 = .ok (.aload_n 0, 1) := by decide +kernel
theorem dX10_press_110 : decode cX10_press 110 = .ok (.getfield 132, 3) := by decide +kernel
theorem dX10_press_113 : decode cX10_press 113 = .ok (.iload 5, 2) := by decide +kernel
theorem dX10_press_115 : decode cX10_press 115 = .ok (.aload_n 0, 1) := by decide +kernel
theorem dX10_press_116 : decode cX10_press 116 = .ok (.getfield 224, 3) := by decide +kernel
theorem dX10_press_119 : decode cX10_press 119 = .ok (.iastore, 1) := by decide +kernel
theorem dX10_press_120 : decode cX10_press 120 = .ok (.aload_n 0, 1) := by decide +kernel
theorem dX10_press_121 : decode cX10_press 121 = .ok (.getfield 135, 3) := by decide +kernel
theorem dX10_press_124 : decode cX10_press 124 = .ok (.iload 5, 2) := by decide +kernel
theorem dX10_press_126 : decode cX10_press 126 = .ok (.aload_n 0, 1) := by decide +kernel
theorem dX10_press_127 : decode cX10_press 127 = .ok (.getfield 224, 3) := by decide +kernel
theorem dX10_press_130 : decode cX10_press 130 = .ok (.aload_n 0, 1) := by decide +kernel
theorem dX10_press_131 : decode cX10_press 131 = .ok (.getfield 42, 3) := by decide +kernel
theorem dX10_press_134 : decode cX10_press 134 = .ok (.iload_n 1, 1) := by decide +kernel
theorem dX10_press_135 : decode cX10_press 135 = .ok (.iaload, 1) := by decide +kernel
theorem dX10_press_136 : decode cX10_press 136 = .ok (.iadd, 1) := by decide +kernel
theorem dX10_press_137 : decode cX10_press 137 = .ok (.iastore, 1) := by decide +kernel
theorem dX10_press_138 : decode cX10_press 138 = .ok (.aload_n 0, 1) := by decide +kernel
theorem dX10_press_139 : decode cX10_press 139 = .ok (.getfield 138, 3) := by decide +kernel
theorem dX10_press_142 : decode cX10_press 142 = .ok (.iload 5, 2) := by decide +kernel
theorem dX10_press_144 : decode cX10_press 144 = .ok (.aload_n 0, 1) := by decide +kernel
theorem dX10_press_145 : decode cX10_press 145 = .ok (.getfield 123, 3) := by decide +kernel
theorem dX10_press_148 : decode cX10_press 148 = .ok (.iload_n 2, 1) := by decide +kernel
theorem dX10_press_149 : decode cX10_press 149 = .ok (.iaload, 1) := by decide +kernel
theorem dX10_press_150 : decode cX10_press 150 = .ok (.iastore, 1) := by decide +kernel
theorem dX10_press_151 : decode cX10_press 151 = .ok (.aload_n 0, 1) := by decide +kernel
theorem dX10_press_152 : decode cX10_press 152 = .ok (.getfield 123, 3) := by decide +kernel
theorem dX10_press_155 : decode cX10_press 155 = .ok (.iload_n 2, 1) := by decide +kernel
theorem dX10_press_156 : decode cX10_press 156 = .ok (.iaload, 1) := by decide +kernel
theorem dX10_press_157 : decode cX10_press 157 = .ok (.ireturn, 1) := by decide +kernel
theorem dX10_firstOf_0 : decode cX10_firstOf 0 = .ok (.iconst (-1), 1) := by decide +kernel
theorem dX10_firstOf_1 : decode cX10_firstOf 1 = .ok (.istore_n 2, 1) := by decide +kernel
theorem dX10_firstOf_2 : decode cX10_firstOf 2 = .ok (.aload_n 0, 1) := by decide +kernel
theorem dX10_firstOf_3 : decode cX10_firstOf 3 = .ok (.getfield 167, 3) := by decide +kernel
theorem dX10_firstOf_6 : decode cX10_firstOf 6 = .ok (.iconst 1, 1) := by decide +kernel
theorem dX10_firstOf_7 : decode cX10_firstOf 7 = .ok (.isub, 1) := by decide +kernel
theorem dX10_firstOf_8 : decode cX10_firstOf 8 = .ok (.istore_n 3, 1) := by decide +kernel
theorem dX10_firstOf_9 : decode cX10_firstOf 9 = .ok (.iload_n 3, 1) := by decide +kernel
theorem dX10_firstOf_10 : decode cX10_firstOf 10 = .ok (.ifCond .lt 35, 3) := by decide +kernel
theorem dX10_firstOf_13 : decode cX10_firstOf 13 = .ok (.aload_n 0, 1) := by decide +kernel
theorem dX10_firstOf_14 : decode cX10_firstOf 14 = .ok (.getfield 90, 3) := by decide +kernel
theorem dX10_firstOf_17 : decode cX10_firstOf 17 = .ok (.iload_n 3, 1) := by decide +kernel
theorem dX10_firstOf_18 : decode cX10_firstOf 18 = .ok (.iaload, 1) := by decide +kernel
theorem dX10_firstOf_19 : decode cX10_firstOf 19 = .ok (.iload_n 1, 1) := by decide +kernel
theorem dX10_firstOf_20 : decode cX10_firstOf 20 = .ok (.if_icmp .ne 17, 3) := by decide +kernel
theorem dX10_firstOf_23 : decode cX10_firstOf 23 = .ok (.aload_n 0, 1) := by decide +kernel
theorem dX10_firstOf_24 : decode cX10_firstOf 24 = .ok (.getfield 69, 3) := by decide +kernel
theorem dX10_firstOf_27 : decode cX10_firstOf 27 = .ok (.iload_n 3, 1) := by decide +kernel
theorem dX10_firstOf_28 : decode cX10_firstOf 28 = .ok (.iaload, 1) := by decide +kernel
theorem dX10_firstOf_29 : decode cX10_firstOf 29 = .ok (.iconst 2, 1) := by decide +kernel
theorem dX10_firstOf_30 : decode cX10_firstOf 30 = .ok (.if_icmp .ne 7, 3) := by decide +kernel
theorem dX10_firstOf_33 : decode cX10_firstOf 33 = .ok (.iload_n 3, 1) := by decide +kernel
theorem dX10_firstOf_34 : decode cX10_firstOf 34 = .ok (.goto 4, 3) := by decide +kernel
theorem dX10_firstOf_37 : decode cX10_firstOf 37 = .ok (.iload_n 2, 1) := by decide +kernel
theorem dX10_firstOf_38 : decode cX10_firstOf 38 = .ok (.istore_n 2, 1) := by decide +kernel
theorem dX10_firstOf_39 : decode cX10_firstOf 39 = .ok (.iinc 3 (-1), 3) := by decide +kernel
theorem dX10_firstOf_42 : decode cX10_firstOf 42 = .ok (.goto (-33), 3) := by decide +kernel
theorem dX10_firstOf_45 : decode cX10_firstOf 45 = .ok (.iload_n 2, 1) := by decide +kernel
theorem dX10_firstOf_46 : decode cX10_firstOf 46 = .ok (.ireturn, 1) := by decide +kernel
theorem dX10_leftOf_0 : decode cX10_leftOf 0 = .ok (.iconst 0, 1) := by decide +kernel
theorem dX10_leftOf_1 : decode cX10_leftOf 1 = .ok (.istore_n 2, 1) := by decide +kernel
theorem dX10_leftOf_2 : decode cX10_leftOf 2 = .ok (.iconst 0, 1) := by decide +kernel
theorem dX10_leftOf_3 : decode cX10_leftOf 3 = .ok (.istore_n 3, 1) := by decide +kernel
theorem dX10_leftOf_4 : decode cX10_leftOf 4 = .ok (.iload_n 3, 1) := by decide +kernel
theorem dX10_leftOf_5 : decode cX10_leftOf 5 = .ok (.aload_n 0, 1) := by decide +kernel
theorem dX10_leftOf_6 : decode cX10_leftOf 6 = .ok (.getfield 167, 3) := by decide +kernel
theorem dX10_leftOf_9 : decode cX10_leftOf 9 = .ok (.if_icmp .ge 37, 3) := by decide +kernel
theorem dX10_leftOf_12 : decode cX10_leftOf 12 = .ok (.iload_n 2, 1) := by decide +kernel
theorem dX10_leftOf_13 : decode cX10_leftOf 13 = .ok (.aload_n 0, 1) := by decide +kernel
theorem dX10_leftOf_14 : decode cX10_leftOf 14 = .ok (.getfield 90, 3) := by decide +kernel
theorem dX10_leftOf_17 : decode cX10_leftOf 17 = .ok (.iload_n 3, 1) := by decide +kernel
theorem dX10_leftOf_18 : decode cX10_leftOf 18 = .ok (.iaload, 1) := by decide +kernel
theorem dX10_leftOf_19 : decode cX10_leftOf 19 = .ok (.iload_n 1, 1) := by decide +kernel
theorem dX10_leftOf_20 : decode cX10_leftOf 20 = .ok (.if_icmp .ne 17, 3) := by decide +kernel
theorem dX10_leftOf_23 : decode cX10_leftOf 23 = .ok (.aload_n 0, 1) := by decide +kernel
theorem dX10_leftOf_24 : decode cX10_leftOf 24 = .ok (.getfield 69, 3) := by decide +kernel
theorem dX10_leftOf_27 : decode cX10_leftOf 27 = .ok (.iload_n 3, 1) := by decide +kernel
theorem dX10_leftOf_28 : decode cX10_leftOf 28 = .ok (.iaload, 1) := by decide +kernel
theorem dX10_leftOf_29 : decode cX10_leftOf 29 = .ok (.iconst 2, 1) := by decide +kernel
theorem dX10_leftOf_30 : decode cX10_leftOf 30 = .ok (.if_icmp .ne 7, 3) := by decide +kernel
theorem dX10_leftOf_33 : decode cX10_leftOf 33 = .ok (.iconst 1, 1) := by decide +kernel
theorem dX10_leftOf_34 : decode cX10_leftOf 34 = .ok (.goto 4, 3) := by decide +kernel
theorem dX10_leftOf_37 : decode cX10_leftOf 37 = .ok (.iconst 0, 1) := by decide +kernel
theorem dX10_leftOf_38 : decode cX10_leftOf 38 = .ok (.iadd, 1) := by decide +kernel
theorem dX10_leftOf_39 : decode cX10_leftOf 39 = .ok (.istore_n 2, 1) := by decide +kernel
theorem dX10_leftOf_40 : decode cX10_leftOf 40 = .ok (.iinc 3 1, 3) := by decide +kernel
theorem dX10_leftOf_43 : decode cX10_leftOf 43 = .ok (.goto (-39), 3) := by decide +kernel
theorem dX10_leftOf_46 : decode cX10_leftOf 46 = .ok (.iload_n 2, 1) := by decide +kernel
theorem dX10_leftOf_47 : decode cX10_leftOf 47 = .ok (.ireturn, 1) := by decide +kernel
theorem dX10_canPay_0 : decode cX10_canPay 0 = .ok (.aload_n 0, 1) := by decide +kernel
theorem dX10_canPay_1 : decode cX10_canPay 1 = .ok (.getfield 39, 3) := by decide +kernel
theorem dX10_canPay_4 : decode cX10_canPay 4 = .ok (.iload_n 1, 1) := by decide +kernel
theorem dX10_canPay_5 : decode cX10_canPay 5 = .ok (.iaload, 1) := by decide +kernel
theorem dX10_canPay_6 : decode cX10_canPay 6 = .ok (.aload_n 0, 1) := by decide +kernel
theorem dX10_canPay_7 : decode cX10_canPay 7 = .ok (.getfield 45, 3) := by decide +kernel
theorem dX10_canPay_10 : decode cX10_canPay 10 = .ok (.iload_n 1, 1) := by decide +kernel
theorem dX10_canPay_11 : decode cX10_canPay 11 = .ok (.iaload, 1) := by decide +kernel
theorem dX10_canPay_12 : decode cX10_canPay 12 = .ok (.isub, 1) := by decide +kernel
theorem dX10_canPay_13 : decode cX10_canPay 13 = .ok (.iload_n 2, 1) := by decide +kernel
theorem dX10_canPay_14 : decode cX10_canPay 14 = .ok (.if_icmp .lt 7, 3) := by decide +kernel
theorem dX10_canPay_17 : decode cX10_canPay 17 = .ok (.iconst 1, 1) := by decide +kernel
theorem dX10_canPay_18 : decode cX10_canPay 18 = .ok (.goto 4, 3) := by decide +kernel
theorem dX10_canPay_21 : decode cX10_canPay 21 = .ok (.iconst 0, 1) := by decide +kernel
theorem dX10_canPay_22 : decode cX10_canPay 22 = .ok (.ireturn, 1) := by decide +kernel
theorem dX10_costOf_0 : decode cX10_costOf 0 = .ok (.iconst 0, 1) := by decide +kernel
theorem dX10_costOf_1 : decode cX10_costOf 1 = .ok (.istore 4, 2) := by decide +kernel
theorem dX10_costOf_3 : decode cX10_costOf 3 = .ok (.iconst 0, 1) := by decide +kernel
theorem dX10_costOf_4 : decode cX10_costOf 4 = .ok (.istore 5, 2) := by decide +kernel
theorem dX10_costOf_6 : decode cX10_costOf 6 = .ok (.iconst 0, 1) := by decide +kernel
theorem dX10_costOf_7 : decode cX10_costOf 7 = .ok (.istore 6, 2) := by decide +kernel
theorem dX10_costOf_9 : decode cX10_costOf 9 = .ok (.iload 6, 2) := by decide +kernel
theorem dX10_costOf_11 : decode cX10_costOf 11 = .ok (.aload_n 0, 1) := by decide +kernel
theorem dX10_costOf_12 : decode cX10_costOf 12 = .ok (.getfield 167, 3) := by decide +kernel
theorem dX10_costOf_15 : decode cX10_costOf 15 = .ok (.if_icmp .ge 82, 3) := by decide +kernel
theorem dX10_costOf_18 : decode cX10_costOf 18 = .ok (.aload_n 0, 1) := by decide +kernel
theorem dX10_costOf_19 : decode cX10_costOf 19 = .ok (.getfield 90, 3) := by decide +kernel
theorem dX10_costOf_22 : decode cX10_costOf 22 = .ok (.iload 6, 2) := by decide +kernel
theorem dX10_costOf_24 : decode cX10_costOf 24 = .ok (.iaload, 1) := by decide +kernel
theorem dX10_costOf_25 : decode cX10_costOf 25 = .ok (.iload_n 1, 1) := by decide +kernel
theorem dX10_costOf_26 : decode cX10_costOf 26 = .ok (.if_icmp .ne 24, 3) := by decide +kernel
theorem dX10_costOf_29 : decode cX10_costOf 29 = .ok (.aload_n 0, 1) := by decide +kernel
theorem dX10_costOf_30 : decode cX10_costOf 30 = .ok (.getfield 69, 3) := by decide +kernel
theorem dX10_costOf_33 : decode cX10_costOf 33 = .ok (.iload 6, 2) := by decide +kernel
theorem dX10_costOf_35 : decode cX10_costOf 35 = .ok (.iaload, 1) := by decide +kernel
theorem dX10_costOf_36 : decode cX10_costOf 36 = .ok (.iconst 2, 1) := by decide +kernel
theorem dX10_costOf_37 : decode cX10_costOf 37 = .ok (.if_icmp .ne 13, 3) := by decide +kernel
theorem dX10_costOf_40 : decode cX10_costOf 40 = .ok (.iload 5, 2) := by decide +kernel
theorem dX10_costOf_42 : decode cX10_costOf 42 = .ok (.iload_n 2, 1) := by decide +kernel
theorem dX10_costOf_43 : decode cX10_costOf 43 = .ok (.if_icmp .ge 7, 3) := by decide +kernel
theorem dX10_costOf_46 : decode cX10_costOf 46 = .ok (.iconst 1, 1) := by decide +kernel
theorem dX10_costOf_47 : decode cX10_costOf 47 = .ok (.goto 4, 3) := by decide +kernel
theorem dX10_costOf_50 : decode cX10_costOf 50 = .ok (.iconst 0, 1) := by decide +kernel
theorem dX10_costOf_51 : decode cX10_costOf 51 = .ok (.istore 7, 2) := by decide +kernel
theorem dX10_costOf_53 : decode cX10_costOf 53 = .ok (.iload 4, 2) := by decide +kernel
theorem dX10_costOf_55 : decode cX10_costOf 55 = .ok (.iload 7, 2) := by decide +kernel
theorem dX10_costOf_57 : decode cX10_costOf 57 = .ok (.ifCond .eq 15, 3) := by decide +kernel
theorem dX10_costOf_60 : decode cX10_costOf 60 = .ok (.aload_n 0, 1) := by decide +kernel
theorem dX10_costOf_61 : decode cX10_costOf 61 = .ok (.getfield 63, 3) := by decide +kernel
theorem dX10_costOf_64 : decode cX10_costOf 64 = .ok (.iload 6, 2) := by decide +kernel
theorem dX10_costOf_66 : decode cX10_costOf 66 = .ok (.iaload, 1) := by decide +kernel
theorem dX10_costOf_67 : decode cX10_costOf 67 = .ok (.iload_n 3, 1) := by decide +kernel
theorem dX10_costOf_68 : decode cX10_costOf 68 = .ok (.imul, 1) := by decide +kernel
theorem dX10_costOf_69 : decode cX10_costOf 69 = .ok (.goto 4, 3) := by decide +kernel
theorem dX10_costOf_72 : decode cX10_costOf 72 = .ok (.iconst 0, 1) := by decide +kernel
theorem dX10_costOf_73 : decode cX10_costOf 73 = .ok (.iadd, 1) := by decide +kernel
theorem dX10_costOf_74 : decode cX10_costOf 74 = .ok (.istore 4, 2) := by decide +kernel
theorem dX10_costOf_76 : decode cX10_costOf 76 = .ok (.iload 5, 2) := by decide +kernel
theorem dX10_costOf_78 : decode cX10_costOf 78 = .ok (.iload 7, 2) := by decide +kernel
theorem dX10_costOf_80 : decode cX10_costOf 80 = .ok (.ifCond .eq 7, 3) := by decide +kernel
theorem dX10_costOf_83 : decode cX10_costOf 83 = .ok (.iconst 1, 1) := by decide +kernel
theorem dX10_costOf_84 : decode cX10_costOf 84 = .ok (.goto 4, 3) := by decide +kernel
theorem dX10_costOf_87 : decode cX10_costOf 87 = .ok (.iconst 0, 1) := by decide +kernel
theorem dX10_costOf_88 : decode cX10_costOf 88 = .ok (.iadd, 1) := by decide +kernel
theorem dX10_costOf_89 : decode cX10_costOf 89 = .ok (.istore 5, 2) := by decide +kernel
theorem dX10_costOf_91 : decode cX10_costOf 91 = .ok (.iinc 6 1, 3) := by decide +kernel
theorem dX10_costOf_94 : decode cX10_costOf 94 = .ok (.goto (-85), 3) := by decide +kernel
theorem dX10_costOf_97 : decode cX10_costOf 97 = .ok (.iload 4, 2) := by decide +kernel
theorem dX10_costOf_99 : decode cX10_costOf 99 = .ok (.ireturn, 1) := by decide +kernel
theorem dX10_gets_0 : decode cX10_gets 0 = .ok (.iconst 0, 1) := by decide +kernel
theorem dX10_gets_1 : decode cX10_gets 1 = .ok (.istore_n 3, 1) := by decide +kernel
theorem dX10_gets_2 : decode cX10_gets 2 = .ok (.iload_n 3, 1) := by decide +kernel
theorem dX10_gets_3 : decode cX10_gets 3 = .ok (.iload_n 2, 1) := by decide +kernel
theorem dX10_gets_4 : decode cX10_gets 4 = .ok (.if_icmp .ge 134, 3) := by decide +kernel
theorem dX10_gets_7 : decode cX10_gets 7 = .ok (.aload_n 0, 1) := by decide +kernel
theorem dX10_gets_8 : decode cX10_gets 8 = .ok (.aload_n 0, 1) := by decide +kernel
theorem dX10_gets_9 : decode cX10_gets 9 = .ok (.getfield 120, 3) := by decide +kernel
theorem dX10_gets_12 : decode cX10_gets 12 = .ok (.iload_n 1, 1) := by decide +kernel
theorem dX10_gets_13 : decode cX10_gets 13 = .ok (.iaload, 1) := by decide +kernel
theorem dX10_gets_14 : decode cX10_gets 14 = .ok (.invokevirtual 227, 3) := by decide +kernel
theorem dX10_gets_17 : decode cX10_gets 17 = .ok (.istore 4, 2) := by decide +kernel
theorem dX10_gets_19 : decode cX10_gets 19 = .ok (.aload_n 0, 1) := by decide +kernel
theorem dX10_gets_20 : decode cX10_gets 20 = .ok (.getfield 69, 3) := by decide +kernel
theorem dX10_gets_23 : decode cX10_gets 23 = .ok (.iload 4, 2) := by decide +kernel
theorem dX10_gets_25 : decode cX10_gets 25 = .ok (.iconst 3, 1) := by decide +kernel
theorem dX10_gets_26 : decode cX10_gets 26 = .ok (.iastore, 1) := by decide +kernel
theorem dX10_gets_27 : decode cX10_gets 27 = .ok (.aload_n 0, 1) := by decide +kernel
theorem dX10_gets_28 : decode cX10_gets 28 = .ok (.getfield 75, 3) := by decide +kernel
theorem dX10_gets_31 : decode cX10_gets 31 = .ok (.iload 4, 2) := by decide +kernel
theorem dX10_gets_33 : decode cX10_gets 33 = .ok (.aload_n 0, 1) := by decide +kernel
theorem dX10_gets_34 : decode cX10_gets 34 = .ok (.getfield 129, 3) := by decide +kernel
theorem dX10_gets_37 : decode cX10_gets 37 = .ok (.iload_n 1, 1) := by decide +kernel
theorem dX10_gets_38 : decode cX10_gets 38 = .ok (.iaload, 1) := by decide +kernel
theorem dX10_gets_39 : decode cX10_gets 39 = .ok (.iastore, 1) := by decide +kernel
theorem dX10_gets_40 : decode cX10_gets 40 = .ok (.aload_n 0, 1) := by decide +kernel
theorem dX10_gets_41 : decode cX10_gets 41 = .ok (.getfield 78, 3) := by decide +kernel
theorem dX10_gets_44 : decode cX10_gets 44 = .ok (.iload 4, 2) := by decide +kernel
theorem dX10_gets_46 : decode cX10_gets 46 = .ok (.aload_n 0, 1) := by decide +kernel
theorem dX10_gets_47 : decode cX10_gets 47 = .ok (.getfield 123, 3) := by decide +kernel
theorem dX10_gets_50 : decode cX10_gets 50 = .ok (.iload_n 1, 1) := by decide +kernel
theorem dX10_gets_51 : decode cX10_gets 51 = .ok (.iaload, 1) := by decide +kernel
theorem dX10_gets_52 : decode cX10_gets 52 = .ok (.iastore, 1) := by decide +kernel
theorem dX10_gets_53 : decode cX10_gets 53 = .ok (.aload_n 0, 1) := by decide +kernel
theorem dX10_gets_54 : decode cX10_gets 54 = .ok (.getfield 81, 3) := by decide +kernel
theorem dX10_gets_57 : decode cX10_gets 57 = .ok (.iload 4, 2) := by decide +kernel
theorem dX10_gets_59 : decode cX10_gets 59 = .ok (.aload_n 0, 1) := by decide +kernel
theorem dX10_gets_60 : decode cX10_gets 60 = .ok (.getfield 224, 3) := by decide +kernel
theorem dX10_gets_63 : decode cX10_gets 63 = .ok (.iastore, 1) := by decide +kernel
theorem dX10_gets_64 : decode cX10_gets 64 = .ok (.aload_n 0, 1) := by decide +kernel
theorem dX10_gets_65 : decode cX10_gets 65 = .ok (.getfield 84, 3) := by decide +kernel
theorem dX10_gets_68 : decode cX10_gets 68 = .ok (.iload 4, 2) := by decide +kernel
theorem dX10_gets_70 : decode cX10_gets 70 = .ok (.aload_n 0, 1) := by decide +kernel
theorem dX10_gets_71 : decode cX10_gets 71 = .ok (.getfield 221, 3) := by decide +kernel
theorem dX10_gets_74 : decode cX10_gets 74 = .ok (.iastore, 1) := by decide +kernel
theorem dX10_gets_75 : decode cX10_gets 75 = .ok (.aload_n 0, 1) := by decide +kernel
theorem dX10_gets_76 : decode cX10_gets 76 = .ok (.getfield 45, 3) := by decide +kernel
theorem dX10_gets_79 : decode cX10_gets 79 = .ok (.aload_n 0, 1) := by decide +kernel
theorem dX10_gets_80 : decode cX10_gets 80 = .ok (.getfield 129, 3) := by decide +kernel
theorem dX10_gets_83 : decode cX10_gets 83 = .ok (.iload_n 1, 1) := by decide +kernel
theorem dX10_gets_84 : decode cX10_gets 84 = .ok (.iaload, 1) := by decide +kernel
theorem dX10_gets_85 : decode cX10_gets 85 = .ok (.dup2, 1) := by decide +kernel
theorem dX10_gets_86 : decode cX10_gets 86 = .ok (.iaload, 1) := by decide +kernel
theorem dX10_gets_87 : decode cX10_gets 87 = .ok (.aload_n 0, 1) := by decide +kernel
theorem dX10_gets_88 : decode cX10_gets 88 = .ok (.getfield 63, 3) := by decide +kernel
theorem dX10_gets_91 : decode cX10_gets 91 = .ok (.iload 4, 2) := by decide +kernel
theorem dX10_gets_93 : decode cX10_gets 93 = .ok (.iaload, 1) := by decide +kernel
theorem dX10_gets_94 : decode cX10_gets 94 = .ok (.aload_n 0, 1) := by decide +kernel
theorem dX10_gets_95 : decode cX10_gets 95 = .ok (.getfield 123, 3) := by decide +kernel
theorem dX10_gets_98 : decode cX10_gets 98 = .ok (.iload_n 1, 1) := by decide +kernel
theorem dX10_gets_99 : decode cX10_gets 99 = .ok (.iaload, 1) := by decide +kernel
theorem dX10_gets_100 : decode cX10_gets 100 = .ok (.imul, 1) := by decide +kernel
theorem dX10_gets_101 : decode cX10_gets 101 = .ok (.iadd, 1) := by decide +kernel
theorem dX10_gets_102 : decode cX10_gets 102 = .ok (.iastore, 1) := by decide +kernel
theorem dX10_gets_103 : decode cX10_gets 103 = .ok (.aload_n 0, 1) := by decide +kernel
theorem dX10_gets_104 : decode cX10_gets 104 = .ok (.getfield 27, 3) := by decide +kernel
theorem dX10_gets_107 : decode cX10_gets 107 = .ok (.aload_n 0, 1) := by decide +kernel
theorem dX10_gets_108 : decode cX10_gets 108 = .ok (.getfield 51, 3) := by decide +kernel
theorem dX10_gets_111 : decode cX10_gets 111 = .ok (.iload 4, 2) := by decide +kernel
theorem dX10_gets_113 : decode cX10_gets 113 = .ok (.iaload, 1) := by decide +kernel
theorem dX10_gets_114 : decode cX10_gets 114 = .ok (.dup2, 1) := by decide +kernel
theorem dX10_gets_115 : decode cX10_gets 115 = .ok (.iaload, 1) := by decide +kernel
theorem dX10_gets_116 : decode cX10_gets 116 = .ok (.aload_n 0, 1) := by decide +kernel
theorem dX10_gets_117 : decode cX10_gets 117 = .ok (.getfield 63, 3) := by decide +kernel
theorem dX10_gets_120 : decode cX10_gets 120 = .ok (.iload 4, 2) := by decide +kernel
theorem dX10_gets_122 : decode cX10_gets 122 = .ok (.iaload, 1) := by decide +kernel
theorem dX10_gets_123 : decode cX10_gets 123 = .ok (.aload_n 0, 1) := by decide +kernel
theorem dX10_gets_124 : decode cX10_gets 124 = .ok (.getfield 123, 3) := by decide +kernel
theorem dX10_gets_127 : decode cX10_gets 127 = .ok (.iload_n 1, 1) := by decide +kernel
theorem dX10_gets_128 : decode cX10_gets 128 = .ok (.iaload, 1) := by decide +kernel
theorem dX10_gets_129 : decode cX10_gets 129 = .ok (.imul, 1) := by decide +kernel
theorem dX10_gets_130 : decode cX10_gets 130 = .ok (.iadd, 1) := by decide +kernel
theorem dX10_gets_131 : decode cX10_gets 131 = .ok (.iastore, 1) := by decide +kernel
theorem dX10_gets_132 : decode cX10_gets 132 = .ok (.iinc 3 1, 3) := by decide +kernel
theorem dX10_gets_135 : decode cX10_gets 135 = .ok (.goto (-133), 3) := by decide +kernel
theorem dX10_gets_138 : decode cX10_gets 138 = .ok (.aload_n 0, 1) := by decide +kernel
theorem dX10_gets_139 : decode cX10_gets 139 = .ok (.aload_n 0, 1) := by decide +kernel
theorem dX10_gets_140 : decode cX10_gets 140 = .ok (.getfield 120, 3) := by decide +kernel
theorem dX10_gets_143 : decode cX10_gets 143 = .ok (.iload_n 1, 1) := by decide +kernel
theorem dX10_gets_144 : decode cX10_gets 144 = .ok (.iaload, 1) := by decide +kernel
theorem dX10_gets_145 : decode cX10_gets 145 = .ok (.invokevirtual 230, 3) := by decide +kernel
theorem dX10_gets_148 : decode cX10_gets 148 = .ok (.ifCond .ne 11, 3) := by decide +kernel
theorem dX10_gets_151 : decode cX10_gets 151 = .ok (.aload_n 0, 1) := by decide +kernel
theorem dX10_gets_152 : decode cX10_gets 152 = .ok (.iload_n 1, 1) := by decide +kernel
theorem dX10_gets_153 : decode cX10_gets 153 = .ok (.invokevirtual 233, 3) := by decide +kernel
theorem dX10_gets_156 : decode cX10_gets 156 = .ok (.goto 22, 3) := by decide +kernel
theorem dX10_gets_159 : decode cX10_gets 159 = .ok (.aload_n 0, 1) := by decide +kernel
theorem dX10_gets_160 : decode cX10_gets 160 = .ok (.getfield 117, 3) := by decide +kernel
theorem dX10_gets_163 : decode cX10_gets 163 = .ok (.iload_n 1, 1) := by decide +kernel
theorem dX10_gets_164 : decode cX10_gets 164 = .ok (.iconst 1, 1) := by decide +kernel
theorem dX10_gets_165 : decode cX10_gets 165 = .ok (.iastore, 1) := by decide +kernel
theorem dX10_gets_166 : decode cX10_gets 166 = .ok (.aload_n 0, 1) := by decide +kernel
theorem dX10_gets_167 : decode cX10_gets 167 = .ok (.getfield 129, 3) := by decide +kernel
theorem dX10_gets_170 : decode cX10_gets 170 = .ok (.iload_n 1, 1) := by decide +kernel
theorem dX10_gets_171 : decode cX10_gets 171 = .ok (.iconst (-1), 1) := by decide +kernel
theorem dX10_gets_172 : decode cX10_gets 172 = .ok (.iastore, 1) := by decide +kernel
theorem dX10_gets_173 : decode cX10_gets 173 = .ok (.aload_n 0, 1) := by decide +kernel
theorem dX10_gets_174 : decode cX10_gets 174 = .ok (.iload_n 1, 1) := by decide +kernel
theorem dX10_gets_175 : decode cX10_gets 175 = .ok (.invokevirtual 156, 3) := by decide +kernel
theorem dX10_gets_178 : decode cX10_gets 178 = .ok (.return_, 1) := by decide +kernel
theorem dX10_take_0 : decode cX10_take 0 = .ok (.iload_n 1, 1) := by decide +kernel
theorem dX10_take_1 : decode cX10_take 1 = .ok (.invokestatic 170, 3) := by decide +kernel
theorem dX10_take_4 : decode cX10_take 4 = .ok (.ifCond .eq 14, 3) := by decide +kernel
theorem dX10_take_7 : decode cX10_take 7 = .ok (.iload_n 2, 1) := by decide +kernel
theorem dX10_take_8 : decode cX10_take 8 = .ok (.invokestatic 181, 3) := by decide +kernel
theorem dX10_take_11 : decode cX10_take 11 = .ok (.ifCond .eq 7, 3) := by decide +kernel
theorem dX10_take_14 : decode cX10_take 14 = .ok (.iconst 1, 1) := by decide +kernel
theorem dX10_take_15 : decode cX10_take 15 = .ok (.goto 4, 3) := by decide +kernel
theorem dX10_take_18 : decode cX10_take 18 = .ok (.iconst 0, 1) := by decide +kernel
theorem dX10_take_19 : decode cX10_take 19 = .ok (.istore 4, 2) := by decide +kernel
theorem dX10_take_21 : decode cX10_take 21 = .ok (.iload 4, 2) := by decide +kernel
theorem dX10_take_23 : decode cX10_take 23 = .ok (.ifCond .eq 36, 3) := by decide +kernel
theorem dX10_take_26 : decode cX10_take 26 = .ok (.aload_n 0, 1) := by decide +kernel
theorem dX10_take_27 : decode cX10_take 27 = .ok (.getfield 117, 3) := by decide +kernel
theorem dX10_take_30 : decode cX10_take 30 = .ok (.iload_n 2, 1) := by decide +kernel
theorem dX10_take_31 : decode cX10_take 31 = .ok (.iaload, 1) := by decide +kernel
theorem dX10_take_32 : decode cX10_take 32 = .ok (.iconst 3, 1) := by decide +kernel
theorem dX10_take_33 : decode cX10_take 33 = .ok (.if_icmp .ne 26, 3) := by decide +kernel
theorem dX10_take_36 : decode cX10_take 36 = .ok (.aload_n 0, 1) := by decide +kernel
theorem dX10_take_37 : decode cX10_take 37 = .ok (.getfield 114, 3) := by decide +kernel
theorem dX10_take_40 : decode cX10_take 40 = .ok (.iload_n 2, 1) := by decide +kernel
theorem dX10_take_41 : decode cX10_take 41 = .ok (.baload, 1) := by decide +kernel
theorem dX10_take_42 : decode cX10_take 42 = .ok (.ifCond .eq 17, 3) := by decide +kernel
theorem dX10_take_45 : decode cX10_take 45 = .ok (.aload_n 0, 1) := by decide +kernel
theorem dX10_take_46 : decode cX10_take 46 = .ok (.getfield 129, 3) := by decide +kernel
theorem dX10_take_49 : decode cX10_take 49 = .ok (.iload_n 2, 1) := by decide +kernel
theorem dX10_take_50 : decode cX10_take 50 = .ok (.iaload, 1) := by decide +kernel
theorem dX10_take_51 : decode cX10_take 51 = .ok (.iload_n 1, 1) := by decide +kernel
theorem dX10_take_52 : decode cX10_take 52 = .ok (.if_icmp .ne 7, 3) := by decide +kernel
theorem dX10_take_55 : decode cX10_take 55 = .ok (.iconst 1, 1) := by decide +kernel
theorem dX10_take_56 : decode cX10_take 56 = .ok (.goto 4, 3) := by decide +kernel
theorem dX10_take_59 : decode cX10_take 59 = .ok (.iconst 0, 1) := by decide +kernel
theorem dX10_take_60 : decode cX10_take 60 = .ok (.istore 5, 2) := by decide +kernel
theorem dX10_take_62 : decode cX10_take 62 = .ok (.iload 5, 2) := by decide +kernel
theorem dX10_take_64 : decode cX10_take 64 = .ok (.ifCond .eq 50, 3) := by decide +kernel
theorem dX10_take_67 : decode cX10_take 67 = .ok (.iload_n 3, 1) := by decide +kernel
theorem dX10_take_68 : decode cX10_take 68 = .ok (.iconst 1, 1) := by decide +kernel
theorem dX10_take_69 : decode cX10_take 69 = .ok (.aload_n 0, 1) := by decide +kernel
theorem dX10_take_70 : decode cX10_take 70 = .ok (.aload_n 0, 1) := by decide +kernel
theorem dX10_take_71 : decode cX10_take 71 = .ok (.getfield 120, 3) := by decide +kernel
theorem dX10_take_74 : decode cX10_take 74 = .ok (.iload_n 2, 1) := by decide +kernel
theorem dX10_take_75 : decode cX10_take 75 = .ok (.iaload, 1) := by decide +kernel
theorem dX10_take_76 : decode cX10_take 76 = .ok (.invokevirtual 230, 3) := by decide +kernel
theorem dX10_take_79 : decode cX10_take 79 = .ok (.invokestatic 163, 3) := by decide +kernel
theorem dX10_take_82 : decode cX10_take 82 = .ok (.ifCond .eq 32, 3) := by decide +kernel
theorem dX10_take_85 : decode cX10_take 85 = .ok (.aload_n 0, 1) := by decide +kernel
theorem dX10_take_86 : decode cX10_take 86 = .ok (.iload_n 1, 1) := by decide +kernel
theorem dX10_take_87 : decode cX10_take 87 = .ok (.aload_n 0, 1) := by decide +kernel
theorem dX10_take_88 : decode cX10_take 88 = .ok (.aload_n 0, 1) := by decide +kernel
theorem dX10_take_89 : decode cX10_take 89 = .ok (.getfield 120, 3) := by decide +kernel
theorem dX10_take_92 : decode cX10_take 92 = .ok (.iload_n 2, 1) := by decide +kernel
theorem dX10_take_93 : decode cX10_take 93 = .ok (.iaload, 1) := by decide +kernel
theorem dX10_take_94 : decode cX10_take 94 = .ok (.iload_n 3, 1) := by decide +kernel
theorem dX10_take_95 : decode cX10_take 95 = .ok (.aload_n 0, 1) := by decide +kernel
theorem dX10_take_96 : decode cX10_take 96 = .ok (.getfield 123, 3) := by decide +kernel
theorem dX10_take_99 : decode cX10_take 99 = .ok (.iload_n 2, 1) := by decide +kernel
theorem dX10_take_100 : decode cX10_take 100 = .ok (.iaload, 1) := by decide +kernel
theorem dX10_take_101 : decode cX10_take 101 = .ok (.invokevirtual 236, 3) := by decide +kernel
theorem dX10_take_104 : decode cX10_take 104 = .ok (.invokevirtual 240, 3) := by decide +kernel
theorem dX10_take_107 : decode cX10_take 107 = .ok (.ifCond .eq 7, 3) := by decide +kernel
theorem dX10_take_110 : decode cX10_take 110 = .ok (.iconst 1, 1) := by decide +kernel
theorem dX10_take_111 : decode cX10_take 111 = .ok (.goto 4, 3) := by decide +kernel
theorem dX10_take_114 : decode cX10_take 114 = .ok (.iconst 0, 1) := by decide +kernel
theorem dX10_take_115 : decode cX10_take 115 = .ok (.istore 6, 2) := by decide +kernel
theorem dX10_take_117 : decode cX10_take 117 = .ok (.aload_n 0, 1) := by decide +kernel
theorem dX10_take_118 : decode cX10_take 118 = .ok (.iload 4, 2) := by decide +kernel
theorem dX10_take_120 : decode cX10_take 120 = .ok (.ifCond .ne 7, 3) := by decide +kernel
theorem dX10_take_123 : decode cX10_take 123 = .ok (.iconst 1, 1) := by decide +kernel
theorem dX10_take_124 : decode cX10_take 124 = .ok (.goto 13, 3) := by decide +kernel
theorem dX10_take_127 : decode cX10_take 127 = .ok (.iload 6, 2) := by decide +kernel
theorem dX10_take_129 : decode cX10_take 129 = .ok (.ifCond .eq 7, 3) := by decide +kernel
theorem dX10_take_132 : decode cX10_take 132 = .ok (.iconst 0, 1) := by decide +kernel
theorem dX10_take_133 : decode cX10_take 133 = .ok (.goto 4, 3) := by decide +kernel
theorem dX10_take_136 : decode cX10_take 136 = .ok (.iconst 2, 1) := by decide +kernel
theorem dX10_take_137 : decode cX10_take 137 = .ok (.invokevirtual 178, 3) := by decide +kernel
theorem dX10_take_140 : decode cX10_take 140 = .ok (.ifCond .eq 5, 3) := by decide +kernel
theorem dX10_take_143 : decode cX10_take 143 = .ok (.iconst 0, 1) := by decide +kernel
theorem dX10_take_144 : decode cX10_take 144 = .ok (.ireturn, 1) := by decide +kernel
theorem dX10_take_145 : decode cX10_take 145 = .ok (.aload_n 0, 1) := by decide +kernel
theorem dX10_take_146 : decode cX10_take 146 = .ok (.aload_n 0, 1) := by decide +kernel
theorem dX10_take_147 : decode cX10_take 147 = .ok (.getfield 120, 3) := by decide +kernel
theorem dX10_take_150 : decode cX10_take 150 = .ok (.iload_n 2, 1) := by decide +kernel
theorem dX10_take_151 : decode cX10_take 151 = .ok (.iaload, 1) := by decide +kernel
theorem dX10_take_152 : decode cX10_take 152 = .ok (.iload_n 3, 1) := by decide +kernel
theorem dX10_take_153 : decode cX10_take 153 = .ok (.aload_n 0, 1) := by decide +kernel
theorem dX10_take_154 : decode cX10_take 154 = .ok (.getfield 123, 3) := by decide +kernel
theorem dX10_take_157 : decode cX10_take 157 = .ok (.iload_n 2, 1) := by decide +kernel
theorem dX10_take_158 : decode cX10_take 158 = .ok (.iaload, 1) := by decide +kernel
theorem dX10_take_159 : decode cX10_take 159 = .ok (.invokevirtual 236, 3) := by decide +kernel
theorem dX10_take_162 : decode cX10_take 162 = .ok (.istore 7, 2) := by decide +kernel
theorem dX10_take_164 : decode cX10_take 164 = .ok (.aload_n 0, 1) := by decide +kernel
theorem dX10_take_165 : decode cX10_take 165 = .ok (.iload_n 2, 1) := by decide +kernel
theorem dX10_take_166 : decode cX10_take 166 = .ok (.iload_n 3, 1) := by decide +kernel
theorem dX10_take_167 : decode cX10_take 167 = .ok (.invokevirtual 244, 3) := by decide +kernel
theorem dX10_take_170 : decode cX10_take 170 = .ok (.iload 7, 2) := by decide +kernel
theorem dX10_take_172 : decode cX10_take 172 = .ok (.ireturn, 1) := by decide +kernel
theorem dX10_hears_0 : decode cX10_hears 0 = .ok (.iconst 0, 1) := by decide +kernel
theorem dX10_hears_1 : decode cX10_hears 1 = .ok (.istore_n 2, 1) := by decide +kernel
theorem dX10_hears_2 : decode cX10_hears 2 = .ok (.bipush 8, 2) := by decide +kernel
theorem dX10_hears_4 : decode cX10_hears 4 = .ok (.iload_n 1, 1) := by decide +kernel
theorem dX10_hears_5 : decode cX10_hears 5 = .ok (.imul, 1) := by decide +kernel
theorem dX10_hears_6 : decode cX10_hears 6 = .ok (.istore_n 3, 1) := by decide +kernel
theorem dX10_hears_7 : decode cX10_hears 7 = .ok (.iload_n 3, 1) := by decide +kernel
theorem dX10_hears_8 : decode cX10_hears 8 = .ok (.bipush 8, 2) := by decide +kernel
theorem dX10_hears_10 : decode cX10_hears 10 = .ok (.iload_n 1, 1) := by decide +kernel
theorem dX10_hears_11 : decode cX10_hears 11 = .ok (.imul, 1) := by decide +kernel
theorem dX10_hears_12 : decode cX10_hears 12 = .ok (.bipush 8, 2) := by decide +kernel
theorem dX10_hears_14 : decode cX10_hears 14 = .ok (.iadd, 1) := by decide +kernel
theorem dX10_hears_15 : decode cX10_hears 15 = .ok (.if_icmp .ge 50, 3) := by decide +kernel
theorem dX10_hears_18 : decode cX10_hears 18 = .ok (.aload_n 0, 1) := by decide +kernel
theorem dX10_hears_19 : decode cX10_hears 19 = .ok (.getfield 132, 3) := by decide +kernel
theorem dX10_hears_22 : decode cX10_hears 22 = .ok (.iload_n 3, 1) := by decide +kernel
theorem dX10_hears_23 : decode cX10_hears 23 = .ok (.iaload, 1) := by decide +kernel
theorem dX10_hears_24 : decode cX10_hears 24 = .ok (.iconst (-1), 1) := by decide +kernel
theorem dX10_hears_25 : decode cX10_hears 25 = .ok (.if_icmp .eq 34, 3) := by decide +kernel
theorem dX10_hears_28 : decode cX10_hears 28 = .ok (.aload_n 0, 1) := by decide +kernel
theorem dX10_hears_29 : decode cX10_hears 29 = .ok (.getfield 141, 3) := by decide +kernel
theorem dX10_hears_32 : decode cX10_hears 32 = .ok (.iload_n 3, 1) := by decide +kernel
theorem dX10_hears_33 : decode cX10_hears 33 = .ok (.baload, 1) := by decide +kernel
theorem dX10_hears_34 : decode cX10_hears 34 = .ok (.ifCond .ne 25, 3) := by decide +kernel
theorem dX10_hears_37 : decode cX10_hears 37 = .ok (.aload_n 0, 1) := by decide +kernel
theorem dX10_hears_38 : decode cX10_hears 38 = .ok (.getfield 135, 3) := by decide +kernel
theorem dX10_hears_41 : decode cX10_hears 41 = .ok (.iload_n 3, 1) := by decide +kernel
theorem dX10_hears_42 : decode cX10_hears 42 = .ok (.iaload, 1) := by decide +kernel
theorem dX10_hears_43 : decode cX10_hears 43 = .ok (.aload_n 0, 1) := by decide +kernel
theorem dX10_hears_44 : decode cX10_hears 44 = .ok (.getfield 224, 3) := by decide +kernel
theorem dX10_hears_47 : decode cX10_hears 47 = .ok (.if_icmp .gt 12, 3) := by decide +kernel
theorem dX10_hears_50 : decode cX10_hears 50 = .ok (.aload_n 0, 1) := by decide +kernel
theorem dX10_hears_51 : decode cX10_hears 51 = .ok (.getfield 141, 3) := by decide +kernel
theorem dX10_hears_54 : decode cX10_hears 54 = .ok (.iload_n 3, 1) := by decide +kernel
theorem dX10_hears_55 : decode cX10_hears 55 = .ok (.iconst 1, 1) := by decide +kernel
theorem dX10_hears_56 : decode cX10_hears 56 = .ok (.bastore, 1) := by decide +kernel
theorem dX10_hears_57 : decode cX10_hears 57 = .ok (.iconst 1, 1) := by decide +kernel
theorem dX10_hears_58 : decode cX10_hears 58 = .ok (.istore_n 2, 1) := by decide +kernel
theorem dX10_hears_59 : decode cX10_hears 59 = .ok (.iinc 3 1, 3) := by decide +kernel
theorem dX10_hears_62 : decode cX10_hears 62 = .ok (.goto (-55), 3) := by decide +kernel
theorem dX10_hears_65 : decode cX10_hears 65 = .ok (.iload_n 2, 1) := by decide +kernel
theorem dX10_hears_66 : decode cX10_hears 66 = .ok (.ireturn, 1) := by decide +kernel
theorem dX10_slowest_0 : decode cX10_slowest 0 = .ok (.iconst 0, 1) := by decide +kernel
theorem dX10_slowest_1 : decode cX10_slowest 1 = .ok (.istore_n 1, 1) := by decide +kernel
theorem dX10_slowest_2 : decode cX10_slowest 2 = .ok (.iconst 0, 1) := by decide +kernel
theorem dX10_slowest_3 : decode cX10_slowest 3 = .ok (.istore_n 2, 1) := by decide +kernel
theorem dX10_slowest_4 : decode cX10_slowest 4 = .ok (.iload_n 2, 1) := by decide +kernel
theorem dX10_slowest_5 : decode cX10_slowest 5 = .ok (.bipush 8, 2) := by decide +kernel
theorem dX10_slowest_7 : decode cX10_slowest 7 = .ok (.if_icmp .ge 30, 3) := by decide +kernel
theorem dX10_slowest_10 : decode cX10_slowest 10 = .ok (.aload_n 0, 1) := by decide +kernel
theorem dX10_slowest_11 : decode cX10_slowest 11 = .ok (.getfield 42, 3) := by decide +kernel
theorem dX10_slowest_14 : decode cX10_slowest 14 = .ok (.iload_n 2, 1) := by decide +kernel
theorem dX10_slowest_15 : decode cX10_slowest 15 = .ok (.iaload, 1) := by decide +kernel
theorem dX10_slowest_16 : decode cX10_slowest 16 = .ok (.iload_n 1, 1) := by decide +kernel
theorem dX10_slowest_17 : decode cX10_slowest 17 = .ok (.if_icmp .le 12, 3) := by decide +kernel
theorem dX10_slowest_20 : decode cX10_slowest 20 = .ok (.aload_n 0, 1) := by decide +kernel
theorem dX10_slowest_21 : decode cX10_slowest 21 = .ok (.getfield 42, 3) := by decide +kernel
theorem dX10_slowest_24 : decode cX10_slowest 24 = .ok (.iload_n 2, 1) := by decide +kernel
theorem dX10_slowest_25 : decode cX10_slowest 25 = .ok (.iaload, 1) := by decide +kernel
theorem dX10_slowest_26 : decode cX10_slowest 26 = .ok (.goto 4, 3) := by decide +kernel
theorem dX10_slowest_29 : decode cX10_slowest 29 = .ok (.iload_n 1, 1) := by decide +kernel
theorem dX10_slowest_30 : decode cX10_slowest 30 = .ok (.istore_n 1, 1) := by decide +kernel
theorem dX10_slowest_31 : decode cX10_slowest 31 = .ok (.iinc 2 1, 3) := by decide +kernel
theorem dX10_slowest_34 : decode cX10_slowest 34 = .ok (.goto (-30), 3) := by decide +kernel
theorem dX10_slowest_37 : decode cX10_slowest 37 = .ok (.iload_n 1, 1) := by decide +kernel
theorem dX10_slowest_38 : decode cX10_slowest 38 = .ok (.ireturn, 1) := by decide +kernel
theorem dX10_falls_0 : decode cX10_falls 0 = .ok (.aload_n 0, 1) := by decide +kernel
theorem dX10_falls_1 : decode cX10_falls 1 = .ok (.iload_n 1, 1) := by decide +kernel
theorem dX10_falls_2 : decode cX10_falls 2 = .ok (.invokevirtual 248, 3) := by decide +kernel
theorem dX10_falls_5 : decode cX10_falls 5 = .ok (.ifCond .eq 26, 3) := by decide +kernel
theorem dX10_falls_8 : decode cX10_falls 8 = .ok (.aload_n 0, 1) := by decide +kernel
theorem dX10_falls_9 : decode cX10_falls 9 = .ok (.getfield 117, 3) := by decide +kernel
theorem dX10_falls_12 : decode cX10_falls 12 = .ok (.iload_n 1, 1) := by decide +kernel
theorem dX10_falls_13 : decode cX10_falls 13 = .ok (.iconst 2, 1) := by decide +kernel
theorem dX10_falls_14 : decode cX10_falls 14 = .ok (.iastore, 1) := by decide +kernel
theorem dX10_falls_15 : decode cX10_falls 15 = .ok (.aload_n 0, 1) := by decide +kernel
theorem dX10_falls_16 : decode cX10_falls 16 = .ok (.getfield 126, 3) := by decide +kernel
theorem dX10_falls_19 : decode cX10_falls 19 = .ok (.iload_n 1, 1) := by decide +kernel
theorem dX10_falls_20 : decode cX10_falls 20 = .ok (.aload_n 0, 1) := by decide +kernel
theorem dX10_falls_21 : decode cX10_falls 21 = .ok (.getfield 224, 3) := by decide +kernel
theorem dX10_falls_24 : decode cX10_falls 24 = .ok (.aload_n 0, 1) := by decide +kernel
theorem dX10_falls_25 : decode cX10_falls 25 = .ok (.invokevirtual 251, 3) := by decide +kernel
theorem dX10_falls_28 : decode cX10_falls 28 = .ok (.iadd, 1) := by decide +kernel
theorem dX10_falls_29 : decode cX10_falls 29 = .ok (.iastore, 1) := by decide +kernel
theorem dX10_falls_30 : decode cX10_falls 30 = .ok (.return_, 1) := by decide +kernel
theorem dX10_falls_31 : decode cX10_falls 31 = .ok (.aload_n 0, 1) := by decide +kernel
theorem dX10_falls_32 : decode cX10_falls 32 = .ok (.getfield 120, 3) := by decide +kernel
theorem dX10_falls_35 : decode cX10_falls 35 = .ok (.iload_n 1, 1) := by decide +kernel
theorem dX10_falls_36 : decode cX10_falls 36 = .ok (.iaload, 1) := by decide +kernel
theorem dX10_falls_37 : decode cX10_falls 37 = .ok (.istore_n 2, 1) := by decide +kernel
theorem dX10_falls_38 : decode cX10_falls 38 = .ok (.aload_n 0, 1) := by decide +kernel
theorem dX10_falls_39 : decode cX10_falls 39 = .ok (.getfield 123, 3) := by decide +kernel
theorem dX10_falls_42 : decode cX10_falls 42 = .ok (.iload_n 1, 1) := by decide +kernel
theorem dX10_falls_43 : decode cX10_falls 43 = .ok (.dup2, 1) := by decide +kernel
theorem dX10_falls_44 : decode cX10_falls 44 = .ok (.iaload, 1) := by decide +kernel
theorem dX10_falls_45 : decode cX10_falls 45 = .ok (.aload_n 0, 1) := by decide +kernel
theorem dX10_falls_46 : decode cX10_falls 46 = .ok (.getfield 111, 3) := by decide +kernel
theorem dX10_falls_49 : decode cX10_falls 49 = .ok (.iload_n 1, 1) := by decide +kernel
theorem dX10_falls_50 : decode cX10_falls 50 = .ok (.iaload, 1) := by decide +kernel
theorem dX10_falls_51 : decode cX10_falls 51 = .ok (.isub, 1) := by decide +kernel
theorem dX10_falls_52 : decode cX10_falls 52 = .ok (.iastore, 1) := by decide +kernel
theorem dX10_falls_53 : decode cX10_falls 53 = .ok (.aload_n 0, 1) := by decide +kernel
theorem dX10_falls_54 : decode cX10_falls 54 = .ok (.getfield 123, 3) := by decide +kernel
theorem dX10_falls_57 : decode cX10_falls 57 = .ok (.iload_n 1, 1) := by decide +kernel
theorem dX10_falls_58 : decode cX10_falls 58 = .ok (.iaload, 1) := by decide +kernel
theorem dX10_falls_59 : decode cX10_falls 59 = .ok (.aload_n 0, 1) := by decide +kernel
theorem dX10_falls_60 : decode cX10_falls 60 = .ok (.getfield 33, 3) := by decide +kernel
theorem dX10_falls_63 : decode cX10_falls 63 = .ok (.aload_n 0, 1) := by decide +kernel
theorem dX10_falls_64 : decode cX10_falls 64 = .ok (.getfield 96, 3) := by decide +kernel
theorem dX10_falls_67 : decode cX10_falls 67 = .ok (.iload_n 2, 1) := by decide +kernel
theorem dX10_falls_68 : decode cX10_falls 68 = .ok (.iaload, 1) := by decide +kernel
theorem dX10_falls_69 : decode cX10_falls 69 = .ok (.iaload, 1) := by decide +kernel
theorem dX10_falls_70 : decode cX10_falls 70 = .ok (.bipush 10, 2) := by decide +kernel
theorem dX10_falls_72 : decode cX10_falls 72 = .ok (.aload_n 0, 1) := by decide +kernel
theorem dX10_falls_73 : decode cX10_falls 73 = .ok (.getfield 99, 3) := by decide +kernel
theorem dX10_falls_76 : decode cX10_falls 76 = .ok (.iload_n 2, 1) := by decide +kernel
theorem dX10_falls_77 : decode cX10_falls 77 = .ok (.iaload, 1) := by decide +kernel
theorem dX10_falls_78 : decode cX10_falls 78 = .ok (.iadd, 1) := by decide +kernel
theorem dX10_falls_79 : decode cX10_falls 79 = .ok (.imul, 1) := by decide +kernel
theorem dX10_falls_80 : decode cX10_falls 80 = .ok (.bipush 10, 2) := by decide +kernel
theorem dX10_falls_82 : decode cX10_falls 82 = .ok (.idiv, 1) := by decide +kernel
theorem dX10_falls_83 : decode cX10_falls 83 = .ok (.if_icmp .ge 14, 3) := by decide +kernel
theorem dX10_falls_86 : decode cX10_falls 86 = .ok (.aload_n 0, 1) := by decide +kernel
theorem dX10_falls_87 : decode cX10_falls 87 = .ok (.iload_n 2, 1) := by decide +kernel
theorem dX10_falls_88 : decode cX10_falls 88 = .ok (.invokevirtual 218, 3) := by decide +kernel
theorem dX10_falls_91 : decode cX10_falls 91 = .ok (.pop, 1) := by decide +kernel
theorem dX10_falls_92 : decode cX10_falls 92 = .ok (.aload_n 0, 1) := by decide +kernel
theorem dX10_falls_93 : decode cX10_falls 93 = .ok (.iload_n 1, 1) := by decide +kernel
theorem dX10_falls_94 : decode cX10_falls 94 = .ok (.invokevirtual 233, 3) := by decide +kernel
theorem dX10_falls_97 : decode cX10_falls 97 = .ok (.return_, 1) := by decide +kernel
theorem dX10_isBefore_0 : decode cX10_isBefore 0 = .ok (.aload_n 0, 1) := by decide +kernel
theorem dX10_isBefore_1 : decode cX10_isBefore 1 = .ok (.getfield 138, 3) := by decide +kernel
theorem dX10_isBefore_4 : decode cX10_isBefore 4 = .ok (.iload_n 1, 1) := by decide +kernel
theorem dX10_isBefore_5 : decode cX10_isBefore 5 = .ok (.iaload, 1) := by decide +kernel
theorem dX10_isBefore_6 : decode cX10_isBefore 6 = .ok (.aload_n 0, 1) := by decide +kernel
theorem dX10_isBefore_7 : decode cX10_isBefore 7 = .ok (.getfield 138, 3) := by decide +kernel
theorem dX10_isBefore_10 : decode cX10_isBefore 10 = .ok (.iload_n 2, 1) := by decide +kernel
theorem dX10_isBefore_11 : decode cX10_isBefore 11 = .ok (.iaload, 1) := by decide +kernel
theorem dX10_isBefore_12 : decode cX10_isBefore 12 = .ok (.if_icmp .eq 24, 3) := by decide +kernel
theorem dX10_isBefore_15 : decode cX10_isBefore 15 = .ok (.aload_n 0, 1) := by decide +kernel
theorem dX10_isBefore_16 : decode cX10_isBefore 16 = .ok (.getfield 138, 3) := by decide +kernel
theorem dX10_isBefore_19 : decode cX10_isBefore 19 = .ok (.iload_n 1, 1) := by decide +kernel
theorem dX10_isBefore_20 : decode cX10_isBefore 20 = .ok (.iaload, 1) := by decide +kernel
theorem dX10_isBefore_21 : decode cX10_isBefore 21 = .ok (.aload_n 0, 1) := by decide +kernel
theorem dX10_isBefore_22 : decode cX10_isBefore 22 = .ok (.getfield 138, 3) := by decide +kernel
theorem dX10_isBefore_25 : decode cX10_isBefore 25 = .ok (.iload_n 2, 1) := by decide +kernel
theorem dX10_isBefore_26 : decode cX10_isBefore 26 = .ok (.iaload, 1) := by decide +kernel
theorem dX10_isBefore_27 : decode cX10_isBefore 27 = .ok (.if_icmp .le 7, 3) := by decide +kernel
theorem dX10_isBefore_30 : decode cX10_isBefore 30 = .ok (.iconst 1, 1) := by decide +kernel
theorem dX10_isBefore_31 : decode cX10_isBefore 31 = .ok (.goto 4, 3) := by decide +kernel
theorem dX10_isBefore_34 : decode cX10_isBefore 34 = .ok (.iconst 0, 1) := by decide +kernel
theorem dX10_isBefore_35 : decode cX10_isBefore 35 = .ok (.ireturn, 1) := by decide +kernel
theorem dX10_isBefore_36 : decode cX10_isBefore 36 = .ok (.aload_n 0, 1) := by decide +kernel
theorem dX10_isBefore_37 : decode cX10_isBefore 37 = .ok (.getfield 132, 3) := by decide +kernel
theorem dX10_isBefore_40 : decode cX10_isBefore 40 = .ok (.iload_n 1, 1) := by decide +kernel
theorem dX10_isBefore_41 : decode cX10_isBefore 41 = .ok (.iaload, 1) := by decide +kernel
theorem dX10_isBefore_42 : decode cX10_isBefore 42 = .ok (.aload_n 0, 1) := by decide +kernel
theorem dX10_isBefore_43 : decode cX10_isBefore 43 = .ok (.getfield 132, 3) := by decide +kernel
theorem dX10_isBefore_46 : decode cX10_isBefore 46 = .ok (.iload_n 2, 1) := by decide +kernel
theorem dX10_isBefore_47 : decode cX10_isBefore 47 = .ok (.iaload, 1) := by decide +kernel
theorem dX10_isBefore_48 : decode cX10_isBefore 48 = .ok (.if_icmp .ge 7, 3) := by decide +kernel
theorem dX10_isBefore_51 : decode cX10_isBefore 51 = .ok (.iconst 1, 1) := by decide +kernel
theorem dX10_isBefore_52 : decode cX10_isBefore 52 = .ok (.goto 4, 3) := by decide +kernel
theorem dX10_isBefore_55 : decode cX10_isBefore 55 = .ok (.iconst 0, 1) := by decide +kernel
theorem dX10_isBefore_56 : decode cX10_isBefore 56 = .ok (.ireturn, 1) := by decide +kernel
theorem dX10_stands_0 : decode cX10_stands 0 = .ok (.aload_n 0, 1) := by decide +kernel
theorem dX10_stands_1 : decode cX10_stands 1 = .ok (.iload_n 1, 1) := by decide +kernel
theorem dX10_stands_2 : decode cX10_stands 2 = .ok (.invokevirtual 248, 3) := by decide +kernel
theorem dX10_stands_5 : decode cX10_stands 5 = .ok (.pop, 1) := by decide +kernel
theorem dX10_stands_6 : decode cX10_stands 6 = .ok (.aload_n 0, 1) := by decide +kernel
theorem dX10_stands_7 : decode cX10_stands 7 = .ok (.getfield 224, 3) := by decide +kernel
theorem dX10_stands_10 : decode cX10_stands 10 = .ok (.aload_n 0, 1) := by decide +kernel
theorem dX10_stands_11 : decode cX10_stands 11 = .ok (.getfield 126, 3) := by decide +kernel
theorem dX10_stands_14 : decode cX10_stands 14 = .ok (.iload_n 1, 1) := by decide +kernel
theorem dX10_stands_15 : decode cX10_stands 15 = .ok (.iaload, 1) := by decide +kernel
theorem dX10_stands_16 : decode cX10_stands 16 = .ok (.if_icmp .ge 4, 3) := by decide +kernel
theorem dX10_stands_19 : decode cX10_stands 19 = .ok (.return_, 1) := by decide +kernel
theorem dX10_stands_20 : decode cX10_stands 20 = .ok (.aload_n 0, 1) := by decide +kernel
theorem dX10_stands_21 : decode cX10_stands 21 = .ok (.getfield 63, 3) := by decide +kernel
theorem dX10_stands_24 : decode cX10_stands 24 = .ok (.aload_n 0, 1) := by decide +kernel
theorem dX10_stands_25 : decode cX10_stands 25 = .ok (.aload_n 0, 1) := by decide +kernel
theorem dX10_stands_26 : decode cX10_stands 26 = .ok (.getfield 120, 3) := by decide +kernel
theorem dX10_stands_29 : decode cX10_stands 29 = .ok (.iload_n 1, 1) := by decide +kernel
theorem dX10_stands_30 : decode cX10_stands 30 = .ok (.iaload, 1) := by decide +kernel
theorem dX10_stands_31 : decode cX10_stands 31 = .ok (.invokevirtual 227, 3) := by decide +kernel
theorem dX10_stands_34 : decode cX10_stands 34 = .ok (.iaload, 1) := by decide +kernel
theorem dX10_stands_35 : decode cX10_stands 35 = .ok (.istore_n 2, 1) := by decide +kernel
theorem dX10_stands_36 : decode cX10_stands 36 = .ok (.iconst (-1), 1) := by decide +kernel
theorem dX10_stands_37 : decode cX10_stands 37 = .ok (.istore_n 3, 1) := by decide +kernel
theorem dX10_stands_38 : decode cX10_stands 38 = .ok (.bipush 8, 2) := by decide +kernel
theorem dX10_stands_40 : decode cX10_stands 40 = .ok (.iload_n 1, 1) := by decide +kernel
theorem dX10_stands_41 : decode cX10_stands 41 = .ok (.imul, 1) := by decide +kernel
theorem dX10_stands_42 : decode cX10_stands 42 = .ok (.istore 4, 2) := by decide +kernel
theorem dX10_stands_44 : decode cX10_stands 44 = .ok (.iload 4, 2) := by decide +kernel
theorem dX10_stands_46 : decode cX10_stands 46 = .ok (.bipush 8, 2) := by decide +kernel
theorem dX10_stands_48 : decode cX10_stands 48 = .ok (.iload_n 1, 1) := by decide +kernel
theorem dX10_stands_49 : decode cX10_stands 49 = .ok (.imul, 1) := by decide +kernel
theorem dX10_stands_50 : decode cX10_stands 50 = .ok (.bipush 8, 2) := by decide +kernel
theorem dX10_stands_52 : decode cX10_stands 52 = .ok (.iadd, 1) := by decide +kernel
theorem dX10_stands_53 : decode cX10_stands 53 = .ok (.if_icmp .ge 74, 3) := by decide +kernel
theorem dX10_stands_56 : decode cX10_stands 56 = .ok (.aload_n 0, 1) := by decide +kernel
theorem dX10_stands_57 : decode cX10_stands 57 = .ok (.getfield 141, 3) := by decide +kernel
theorem dX10_stands_60 : decode cX10_stands 60 = .ok (.iload 4, 2) := by decide +kernel
theorem dX10_stands_62 : decode cX10_stands 62 = .ok (.baload, 1) := by decide +kernel
theorem dX10_stands_63 : decode cX10_stands 63 = .ok (.ifCond .eq 28, 3) := by decide +kernel
theorem dX10_stands_66 : decode cX10_stands 66 = .ok (.aload_n 0, 1) := by decide +kernel
theorem dX10_stands_67 : decode cX10_stands 67 = .ok (.iload 4, 2) := by decide +kernel
theorem dX10_stands_69 : decode cX10_stands 69 = .ok (.bipush 8, 2) := by decide +kernel
theorem dX10_stands_71 : decode cX10_stands 71 = .ok (.irem, 1) := by decide +kernel
theorem dX10_stands_72 : decode cX10_stands 72 = .ok (.iload_n 2, 1) := by decide +kernel
theorem dX10_stands_73 : decode cX10_stands 73 = .ok (.aload_n 0, 1) := by decide +kernel
theorem dX10_stands_74 : decode cX10_stands 74 = .ok (.getfield 138, 3) := by decide +kernel
theorem dX10_stands_77 : decode cX10_stands 77 = .ok (.iload 4, 2) := by decide +kernel
theorem dX10_stands_79 : decode cX10_stands 79 = .ok (.iaload, 1) := by decide +kernel
theorem dX10_stands_80 : decode cX10_stands 80 = .ok (.imul, 1) := by decide +kernel
theorem dX10_stands_81 : decode cX10_stands 81 = .ok (.invokevirtual 240, 3) := by decide +kernel
theorem dX10_stands_84 : decode cX10_stands 84 = .ok (.ifCond .eq 7, 3) := by decide +kernel
theorem dX10_stands_87 : decode cX10_stands 87 = .ok (.iconst 1, 1) := by decide +kernel
theorem dX10_stands_88 : decode cX10_stands 88 = .ok (.goto 4, 3) := by decide +kernel
theorem dX10_stands_91 : decode cX10_stands 91 = .ok (.iconst 0, 1) := by decide +kernel
theorem dX10_stands_92 : decode cX10_stands 92 = .ok (.istore 5, 2) := by decide +kernel
theorem dX10_stands_94 : decode cX10_stands 94 = .ok (.iload 5, 2) := by decide +kernel
theorem dX10_stands_96 : decode cX10_stands 96 = .ok (.ifCond .eq 23, 3) := by decide +kernel
theorem dX10_stands_99 : decode cX10_stands 99 = .ok (.iload_n 3, 1) := by decide +kernel
theorem dX10_stands_100 : decode cX10_stands 100 = .ok (.iconst (-1), 1) := by decide +kernel
theorem dX10_stands_101 : decode cX10_stands 101 = .ok (.if_icmp .eq 13, 3) := by decide +kernel
theorem dX10_stands_104 : decode cX10_stands 104 = .ok (.aload_n 0, 1) := by decide +kernel
theorem dX10_stands_105 : decode cX10_stands 105 = .ok (.iload 4, 2) := by decide +kernel
theorem dX10_stands_107 : decode cX10_stands 107 = .ok (.iload_n 3, 1) := by decide +kernel
theorem dX10_stands_108 : decode cX10_stands 108 = .ok (.invokevirtual 255, 3) := by decide +kernel
theorem dX10_stands_111 : decode cX10_stands 111 = .ok (.ifCond .eq 8, 3) := by decide +kernel
theorem dX10_stands_114 : decode cX10_stands 114 = .ok (.iload 4, 2) := by decide +kernel
theorem dX10_stands_116 : decode cX10_stands 116 = .ok (.goto 4, 3) := by decide +kernel
theorem dX10_stands_119 : decode cX10_stands 119 = .ok (.iload_n 3, 1) := by decide +kernel
theorem dX10_stands_120 : decode cX10_stands 120 = .ok (.istore_n 3, 1) := by decide +kernel
theorem dX10_stands_121 : decode cX10_stands 121 = .ok (.iinc 4 1, 3) := by decide +kernel
theorem dX10_stands_124 : decode cX10_stands 124 = .ok (.goto (-80), 3) := by decide +kernel
theorem dX10_stands_127 : decode cX10_stands 127 = .ok (.aload_n 0, 1) := by decide +kernel
theorem dX10_stands_128 : decode cX10_stands 128 = .ok (.getfield 117, 3) := by decide +kernel
theorem dX10_stands_131 : decode cX10_stands 131 = .ok (.iload_n 1, 1) := by decide +kernel
theorem dX10_stands_132 : decode cX10_stands 132 = .ok (.iload_n 3, 1) := by decide +kernel
theorem dX10_stands_133 : decode cX10_stands 133 = .ok (.iconst (-1), 1) := by decide +kernel
theorem dX10_stands_134 : decode cX10_stands 134 = .ok (.if_icmp .ne 7, 3) := by decide +kernel
theorem dX10_stands_137 : decode cX10_stands 137 = .ok (.iconst 1, 1) := by decide +kernel
theorem dX10_stands_138 : decode cX10_stands 138 = .ok (.goto 4, 3) := by decide +kernel
theorem dX10_stands_141 : decode cX10_stands 141 = .ok (.iconst 3, 1) := by decide +kernel
theorem dX10_stands_142 : decode cX10_stands 142 = .ok (.iastore, 1) := by decide +kernel
theorem dX10_stands_143 : decode cX10_stands 143 = .ok (.aload_n 0, 1) := by decide +kernel
theorem dX10_stands_144 : decode cX10_stands 144 = .ok (.getfield 129, 3) := by decide +kernel
theorem dX10_stands_147 : decode cX10_stands 147 = .ok (.iload_n 1, 1) := by decide +kernel
theorem dX10_stands_148 : decode cX10_stands 148 = .ok (.iload_n 3, 1) := by decide +kernel
theorem dX10_stands_149 : decode cX10_stands 149 = .ok (.iconst (-1), 1) := by decide +kernel
theorem dX10_stands_150 : decode cX10_stands 150 = .ok (.if_icmp .ne 7, 3) := by decide +kernel
theorem dX10_stands_153 : decode cX10_stands 153 = .ok (.iconst (-1), 1) := by decide +kernel
theorem dX10_stands_154 : decode cX10_stands 154 = .ok (.goto 7, 3) := by decide +kernel
theorem dX10_stands_157 : decode cX10_stands 157 = .ok (.iload_n 3, 1) := by decide +kernel
theorem dX10_stands_158 : decode cX10_stands 158 = .ok (.bipush 8, 2) := by decide +kernel
theorem dX10_stands_160 : decode cX10_stands 160 = .ok (.irem, 1) := by decide +kernel
theorem dX10_stands_161 : decode cX10_stands 161 = .ok (.iastore, 1) := by decide +kernel
theorem dX10_stands_162 : decode cX10_stands 162 = .ok (.aload_n 0, 1) := by decide +kernel
theorem dX10_stands_163 : decode cX10_stands 163 = .ok (.getfield 123, 3) := by decide +kernel
theorem dX10_stands_166 : decode cX10_stands 166 = .ok (.iload_n 1, 1) := by decide +kernel
theorem dX10_stands_167 : decode cX10_stands 167 = .ok (.iload_n 3, 1) := by decide +kernel
theorem dX10_stands_168 : decode cX10_stands 168 = .ok (.iconst (-1), 1) := by decide +kernel
theorem dX10_stands_169 : decode cX10_stands 169 = .ok (.if_icmp .ne 12, 3) := by decide +kernel
theorem dX10_stands_172 : decode cX10_stands 172 = .ok (.aload_n 0, 1) := by decide +kernel
theorem dX10_stands_173 : decode cX10_stands 173 = .ok (.getfield 123, 3) := by decide +kernel
theorem dX10_stands_176 : decode cX10_stands 176 = .ok (.iload_n 1, 1) := by decide +kernel
theorem dX10_stands_177 : decode cX10_stands 177 = .ok (.iaload, 1) := by decide +kernel
theorem dX10_stands_178 : decode cX10_stands 178 = .ok (.goto 9, 3) := by decide +kernel
theorem dX10_stands_181 : decode cX10_stands 181 = .ok (.aload_n 0, 1) := by decide +kernel
theorem dX10_stands_182 : decode cX10_stands 182 = .ok (.getfield 138, 3) := by decide +kernel
theorem dX10_stands_185 : decode cX10_stands 185 = .ok (.iload_n 3, 1) := by decide +kernel
theorem dX10_stands_186 : decode cX10_stands 186 = .ok (.iaload, 1) := by decide +kernel
theorem dX10_stands_187 : decode cX10_stands 187 = .ok (.iastore, 1) := by decide +kernel
theorem dX10_stands_188 : decode cX10_stands 188 = .ok (.aload_n 0, 1) := by decide +kernel
theorem dX10_stands_189 : decode cX10_stands 189 = .ok (.getfield 126, 3) := by decide +kernel
theorem dX10_stands_192 : decode cX10_stands 192 = .ok (.iload_n 1, 1) := by decide +kernel
theorem dX10_stands_193 : decode cX10_stands 193 = .ok (.aload_n 0, 1) := by decide +kernel
theorem dX10_stands_194 : decode cX10_stands 194 = .ok (.getfield 224, 3) := by decide +kernel
theorem dX10_stands_197 : decode cX10_stands 197 = .ok (.iconst 3, 1) := by decide +kernel
theorem dX10_stands_198 : decode cX10_stands 198 = .ok (.iadd, 1) := by decide +kernel
theorem dX10_stands_199 : decode cX10_stands 199 = .ok (.iastore, 1) := by decide +kernel
theorem dX10_stands_200 : decode cX10_stands 200 = .ok (.aload_n 0, 1) := by decide +kernel
theorem dX10_stands_201 : decode cX10_stands 201 = .ok (.iload_n 1, 1) := by decide +kernel
theorem dX10_stands_202 : decode cX10_stands 202 = .ok (.invokevirtual 156, 3) := by decide +kernel
theorem dX10_stands_205 : decode cX10_stands 205 = .ok (.return_, 1) := by decide +kernel
theorem dX10_waits_0 : decode cX10_waits 0 = .ok (.aload_n 0, 1) := by decide +kernel
theorem dX10_waits_1 : decode cX10_waits 1 = .ok (.getfield 224, 3) := by decide +kernel
theorem dX10_waits_4 : decode cX10_waits 4 = .ok (.aload_n 0, 1) := by decide +kernel
theorem dX10_waits_5 : decode cX10_waits 5 = .ok (.getfield 126, 3) := by decide +kernel
theorem dX10_waits_8 : decode cX10_waits 8 = .ok (.iload_n 1, 1) := by decide +kernel
theorem dX10_waits_9 : decode cX10_waits 9 = .ok (.iaload, 1) := by decide +kernel
theorem dX10_waits_10 : decode cX10_waits 10 = .ok (.if_icmp .lt 43, 3) := by decide +kernel
theorem dX10_waits_13 : decode cX10_waits 13 = .ok (.aload_n 0, 1) := by decide +kernel
theorem dX10_waits_14 : decode cX10_waits 14 = .ok (.iload_n 1, 1) := by decide +kernel
theorem dX10_waits_15 : decode cX10_waits 15 = .ok (.aload_n 0, 1) := by decide +kernel
theorem dX10_waits_16 : decode cX10_waits 16 = .ok (.aload_n 0, 1) := by decide +kernel
theorem dX10_waits_17 : decode cX10_waits 17 = .ok (.getfield 129, 3) := by decide +kernel
theorem dX10_waits_20 : decode cX10_waits 20 = .ok (.iload_n 1, 1) := by decide +kernel
theorem dX10_waits_21 : decode cX10_waits 21 = .ok (.iaload, 1) := by decide +kernel
theorem dX10_waits_22 : decode cX10_waits 22 = .ok (.aload_n 0, 1) := by decide +kernel
theorem dX10_waits_23 : decode cX10_waits 23 = .ok (.aload_n 0, 1) := by decide +kernel
theorem dX10_waits_24 : decode cX10_waits 24 = .ok (.getfield 120, 3) := by decide +kernel
theorem dX10_waits_27 : decode cX10_waits 27 = .ok (.iload_n 1, 1) := by decide +kernel
theorem dX10_waits_28 : decode cX10_waits 28 = .ok (.iaload, 1) := by decide +kernel
theorem dX10_waits_29 : decode cX10_waits 29 = .ok (.iconst 1, 1) := by decide +kernel
theorem dX10_waits_30 : decode cX10_waits 30 = .ok (.aload_n 0, 1) := by decide +kernel
theorem dX10_waits_31 : decode cX10_waits 31 = .ok (.getfield 123, 3) := by decide +kernel
theorem dX10_waits_34 : decode cX10_waits 34 = .ok (.iload_n 1, 1) := by decide +kernel
theorem dX10_waits_35 : decode cX10_waits 35 = .ok (.iaload, 1) := by decide +kernel
theorem dX10_waits_36 : decode cX10_waits 36 = .ok (.invokevirtual 236, 3) := by decide +kernel
theorem dX10_waits_39 : decode cX10_waits 39 = .ok (.invokevirtual 240, 3) := by decide +kernel
theorem dX10_waits_42 : decode cX10_waits 42 = .ok (.ifCond .eq 7, 3) := by decide +kernel
theorem dX10_waits_45 : decode cX10_waits 45 = .ok (.iconst 1, 1) := by decide +kernel
theorem dX10_waits_46 : decode cX10_waits 46 = .ok (.goto 4, 3) := by decide +kernel
theorem dX10_waits_49 : decode cX10_waits 49 = .ok (.iconst 0, 1) := by decide +kernel
theorem dX10_waits_50 : decode cX10_waits 50 = .ok (.invokevirtual 244, 3) := by decide +kernel
theorem dX10_waits_53 : decode cX10_waits 53 = .ok (.return_, 1) := by decide +kernel
theorem dX10_leaves_0 : decode cX10_leaves 0 = .ok (.iconst 0, 1) := by decide +kernel
theorem dX10_leaves_1 : decode cX10_leaves 1 = .ok (.istore_n 2, 1) := by decide +kernel
theorem dX10_leaves_2 : decode cX10_leaves 2 = .ok (.iconst 0, 1) := by decide +kernel
theorem dX10_leaves_3 : decode cX10_leaves 3 = .ok (.istore_n 3, 1) := by decide +kernel
theorem dX10_leaves_4 : decode cX10_leaves 4 = .ok (.iload_n 3, 1) := by decide +kernel
theorem dX10_leaves_5 : decode cX10_leaves 5 = .ok (.aload_n 0, 1) := by decide +kernel
theorem dX10_leaves_6 : decode cX10_leaves 6 = .ok (.getfield 167, 3) := by decide +kernel
theorem dX10_leaves_9 : decode cX10_leaves 9 = .ok (.if_icmp .ge 54, 3) := by decide +kernel
theorem dX10_leaves_12 : decode cX10_leaves 12 = .ok (.aload_n 0, 1) := by decide +kernel
theorem dX10_leaves_13 : decode cX10_leaves 13 = .ok (.getfield 69, 3) := by decide +kernel
theorem dX10_leaves_16 : decode cX10_leaves 16 = .ok (.iload_n 3, 1) := by decide +kernel
theorem dX10_leaves_17 : decode cX10_leaves 17 = .ok (.iaload, 1) := by decide +kernel
theorem dX10_leaves_18 : decode cX10_leaves 18 = .ok (.iconst 3, 1) := by decide +kernel
theorem dX10_leaves_19 : decode cX10_leaves 19 = .ok (.if_icmp .ne 38, 3) := by decide +kernel
theorem dX10_leaves_22 : decode cX10_leaves 22 = .ok (.aload_n 0, 1) := by decide +kernel
theorem dX10_leaves_23 : decode cX10_leaves 23 = .ok (.getfield 75, 3) := by decide +kernel
theorem dX10_leaves_26 : decode cX10_leaves 26 = .ok (.iload_n 3, 1) := by decide +kernel
theorem dX10_leaves_27 : decode cX10_leaves 27 = .ok (.iaload, 1) := by decide +kernel
theorem dX10_leaves_28 : decode cX10_leaves 28 = .ok (.aload_n 0, 1) := by decide +kernel
theorem dX10_leaves_29 : decode cX10_leaves 29 = .ok (.getfield 144, 3) := by decide +kernel
theorem dX10_leaves_32 : decode cX10_leaves 32 = .ok (.iload_n 1, 1) := by decide +kernel
theorem dX10_leaves_33 : decode cX10_leaves 33 = .ok (.iaload, 1) := by decide +kernel
theorem dX10_leaves_34 : decode cX10_leaves 34 = .ok (.if_icmp .ne 23, 3) := by decide +kernel
theorem dX10_leaves_37 : decode cX10_leaves 37 = .ok (.iload_n 2, 1) := by decide +kernel
theorem dX10_leaves_38 : decode cX10_leaves 38 = .ok (.aload_n 0, 1) := by decide +kernel
theorem dX10_leaves_39 : decode cX10_leaves 39 = .ok (.getfield 150, 3) := by decide +kernel
theorem dX10_leaves_42 : decode cX10_leaves 42 = .ok (.iload_n 1, 1) := by decide +kernel
theorem dX10_leaves_43 : decode cX10_leaves 43 = .ok (.iaload, 1) := by decide +kernel
theorem dX10_leaves_44 : decode cX10_leaves 44 = .ok (.if_icmp .ge 13, 3) := by decide +kernel
theorem dX10_leaves_47 : decode cX10_leaves 47 = .ok (.aload_n 0, 1) := by decide +kernel
theorem dX10_leaves_48 : decode cX10_leaves 48 = .ok (.getfield 69, 3) := by decide +kernel
theorem dX10_leaves_51 : decode cX10_leaves 51 = .ok (.iload_n 3, 1) := by decide +kernel
theorem dX10_leaves_52 : decode cX10_leaves 52 = .ok (.iconst 4, 1) := by decide +kernel
theorem dX10_leaves_53 : decode cX10_leaves 53 = .ok (.iastore, 1) := by decide +kernel
theorem dX10_leaves_54 : decode cX10_leaves 54 = .ok (.iinc 2 1, 3) := by decide +kernel
theorem dX10_leaves_57 : decode cX10_leaves 57 = .ok (.iinc 3 1, 3) := by decide +kernel
theorem dX10_leaves_60 : decode cX10_leaves 60 = .ok (.goto (-56), 3) := by decide +kernel
theorem dX10_leaves_63 : decode cX10_leaves 63 = .ok (.aload_n 0, 1) := by decide +kernel
theorem dX10_leaves_64 : decode cX10_leaves 64 = .ok (.getfield 153, 3) := by decide +kernel
theorem dX10_leaves_67 : decode cX10_leaves 67 = .ok (.iload_n 1, 1) := by decide +kernel
theorem dX10_leaves_68 : decode cX10_leaves 68 = .ok (.iload_n 2, 1) := by decide +kernel
theorem dX10_leaves_69 : decode cX10_leaves 69 = .ok (.iastore, 1) := by decide +kernel
theorem dX10_leaves_70 : decode cX10_leaves 70 = .ok (.return_, 1) := by decide +kernel
theorem dX10_passes_0 : decode cX10_passes 0 = .ok (.aload_n 0, 1) := by decide +kernel
theorem dX10_passes_1 : decode cX10_passes 1 = .ok (.dup, 1) := by decide +kernel
theorem dX10_passes_2 : decode cX10_passes 2 = .ok (.getfield 224, 3) := by decide +kernel
theorem dX10_passes_5 : decode cX10_passes 5 = .ok (.iconst 1, 1) := by decide +kernel
theorem dX10_passes_6 : decode cX10_passes 6 = .ok (.iadd, 1) := by decide +kernel
theorem dX10_passes_7 : decode cX10_passes 7 = .ok (.putfield 224, 3) := by decide +kernel
theorem dX10_passes_10 : decode cX10_passes 10 = .ok (.iconst 0, 1) := by decide +kernel
theorem dX10_passes_11 : decode cX10_passes 11 = .ok (.istore_n 1, 1) := by decide +kernel
theorem dX10_passes_12 : decode cX10_passes 12 = .ok (.iload_n 1, 1) := by decide +kernel
theorem dX10_passes_13 : decode cX10_passes 13 = .ok (.iconst 3, 1) := by decide +kernel
theorem dX10_passes_14 : decode cX10_passes 14 = .ok (.if_icmp .ge 65, 3) := by decide +kernel
theorem dX10_passes_17 : decode cX10_passes 17 = .ok (.aload_n 0, 1) := by decide +kernel
theorem dX10_passes_18 : decode cX10_passes 18 = .ok (.getfield 114, 3) := by decide +kernel
theorem dX10_passes_21 : decode cX10_passes 21 = .ok (.iload_n 1, 1) := by decide +kernel
theorem dX10_passes_22 : decode cX10_passes 22 = .ok (.baload, 1) := by decide +kernel
theorem dX10_passes_23 : decode cX10_passes 23 = .ok (.ifCond .eq 12, 3) := by decide +kernel
theorem dX10_passes_26 : decode cX10_passes 26 = .ok (.aload_n 0, 1) := by decide +kernel
theorem dX10_passes_27 : decode cX10_passes 27 = .ok (.getfield 117, 3) := by decide +kernel
theorem dX10_passes_30 : decode cX10_passes 30 = .ok (.iload_n 1, 1) := by decide +kernel
theorem dX10_passes_31 : decode cX10_passes 31 = .ok (.iaload, 1) := by decide +kernel
theorem dX10_passes_32 : decode cX10_passes 32 = .ok (.goto 4, 3) := by decide +kernel
theorem dX10_passes_35 : decode cX10_passes 35 = .ok (.iconst 0, 1) := by decide +kernel
theorem dX10_passes_36 : decode cX10_passes 36 = .ok (.istore_n 2, 1) := by decide +kernel
theorem dX10_passes_37 : decode cX10_passes 37 = .ok (.iload_n 2, 1) := by decide +kernel
theorem dX10_passes_38 : decode cX10_passes 38 = .ok (.iconst 1, 1) := by decide +kernel
theorem dX10_passes_39 : decode cX10_passes 39 = .ok (.if_icmp .ne 11, 3) := by decide +kernel
theorem dX10_passes_42 : decode cX10_passes 42 = .ok (.aload_n 0, 1) := by decide +kernel
theorem dX10_passes_43 : decode cX10_passes 43 = .ok (.iload_n 1, 1) := by decide +kernel
theorem dX10_passes_44 : decode cX10_passes 44 = .ok (.invokevirtual 258, 3) := by decide +kernel
theorem dX10_passes_47 : decode cX10_passes 47 = .ok (.goto 26, 3) := by decide +kernel
theorem dX10_passes_50 : decode cX10_passes 50 = .ok (.iload_n 2, 1) := by decide +kernel
theorem dX10_passes_51 : decode cX10_passes 51 = .ok (.iconst 2, 1) := by decide +kernel
theorem dX10_passes_52 : decode cX10_passes 52 = .ok (.if_icmp .ne 11, 3) := by decide +kernel
theorem dX10_passes_55 : decode cX10_passes 55 = .ok (.aload_n 0, 1) := by decide +kernel
theorem dX10_passes_56 : decode cX10_passes 56 = .ok (.iload_n 1, 1) := by decide +kernel
theorem dX10_passes_57 : decode cX10_passes 57 = .ok (.invokevirtual 261, 3) := by decide +kernel
theorem dX10_passes_60 : decode cX10_passes 60 = .ok (.goto 13, 3) := by decide +kernel
theorem dX10_passes_63 : decode cX10_passes 63 = .ok (.iload_n 2, 1) := by decide +kernel
theorem dX10_passes_64 : decode cX10_passes 64 = .ok (.iconst 3, 1) := by decide +kernel
theorem dX10_passes_65 : decode cX10_passes 65 = .ok (.if_icmp .ne 8, 3) := by decide +kernel
theorem dX10_passes_68 : decode cX10_passes 68 = .ok (.aload_n 0, 1) := by decide +kernel
theorem dX10_passes_69 : decode cX10_passes 69 = .ok (.iload_n 1, 1) := by decide +kernel
theorem dX10_passes_70 : decode cX10_passes 70 = .ok (.invokevirtual 264, 3) := by decide +kernel
theorem dX10_passes_73 : decode cX10_passes 73 = .ok (.iinc 1 1, 3) := by decide +kernel
theorem dX10_passes_76 : decode cX10_passes 76 = .ok (.goto (-64), 3) := by decide +kernel
theorem dX10_passes_79 : decode cX10_passes 79 = .ok (.iconst 0, 1) := by decide +kernel
theorem dX10_passes_80 : decode cX10_passes 80 = .ok (.istore_n 1, 1) := by decide +kernel
theorem dX10_passes_81 : decode cX10_passes 81 = .ok (.iload_n 1, 1) := by decide +kernel
theorem dX10_passes_82 : decode cX10_passes 82 = .ok (.aload_n 0, 1) := by decide +kernel
theorem dX10_passes_83 : decode cX10_passes 83 = .ok (.getfield 267, 3) := by decide +kernel
theorem dX10_passes_86 : decode cX10_passes 86 = .ok (.if_icmp .ge 27, 3) := by decide +kernel
theorem dX10_passes_89 : decode cX10_passes 89 = .ok (.aload_n 0, 1) := by decide +kernel
theorem dX10_passes_90 : decode cX10_passes 90 = .ok (.getfield 147, 3) := by decide +kernel
theorem dX10_passes_93 : decode cX10_passes 93 = .ok (.iload_n 1, 1) := by decide +kernel
theorem dX10_passes_94 : decode cX10_passes 94 = .ok (.iaload, 1) := by decide +kernel
theorem dX10_passes_95 : decode cX10_passes 95 = .ok (.aload_n 0, 1) := by decide +kernel
theorem dX10_passes_96 : decode cX10_passes 96 = .ok (.getfield 224, 3) := by decide +kernel
theorem dX10_passes_99 : decode cX10_passes 99 = .ok (.if_icmp .ne 8, 3) := by decide +kernel
theorem dX10_passes_102 : decode cX10_passes 102 = .ok (.aload_n 0, 1) := by decide +kernel
theorem dX10_passes_103 : decode cX10_passes 103 = .ok (.iload_n 1, 1) := by decide +kernel
theorem dX10_passes_104 : decode cX10_passes 104 = .ok (.invokevirtual 270, 3) := by decide +kernel
theorem dX10_passes_107 : decode cX10_passes 107 = .ok (.iinc 1 1, 3) := by decide +kernel
theorem dX10_passes_110 : decode cX10_passes 110 = .ok (.goto (-29), 3) := by decide +kernel
theorem dX10_passes_113 : decode cX10_passes 113 = .ok (.return_, 1) := by decide +kernel
theorem dX10_pass_0 : decode cX10_pass 0 = .ok (.aload_n 0, 1) := by decide +kernel
theorem dX10_pass_1 : decode cX10_pass 1 = .ok (.iload_n 1, 1) := by decide +kernel
theorem dX10_pass_2 : decode cX10_pass 2 = .ok (.iconst 1, 1) := by decide +kernel
theorem dX10_pass_3 : decode cX10_pass 3 = .ok (.sipush 500, 3) := by decide +kernel
theorem dX10_pass_6 : decode cX10_pass 6 = .ok (.invokestatic 163, 3) := by decide +kernel
theorem dX10_pass_9 : decode cX10_pass 9 = .ok (.ifCond .ne 7, 3) := by decide +kernel
theorem dX10_pass_12 : decode cX10_pass 12 = .ok (.iconst 1, 1) := by decide +kernel
theorem dX10_pass_13 : decode cX10_pass 13 = .ok (.goto 19, 3) := by decide +kernel
theorem dX10_pass_16 : decode cX10_pass 16 = .ok (.aload_n 0, 1) := by decide +kernel
theorem dX10_pass_17 : decode cX10_pass 17 = .ok (.getfield 224, 3) := by decide +kernel
theorem dX10_pass_20 : decode cX10_pass 20 = .ok (.iload_n 1, 1) := by decide +kernel
theorem dX10_pass_21 : decode cX10_pass 21 = .ok (.iadd, 1) := by decide +kernel
theorem dX10_pass_22 : decode cX10_pass 22 = .ok (.ldc 177, 2) := by decide +kernel
theorem dX10_pass_24 : decode cX10_pass 24 = .ok (.if_icmp .le 7, 3) := by decide +kernel
theorem dX10_pass_27 : decode cX10_pass 27 = .ok (.iconst 2, 1) := by decide +kernel
theorem dX10_pass_28 : decode cX10_pass 28 = .ok (.goto 4, 3) := by decide +kernel
theorem dX10_pass_31 : decode cX10_pass 31 = .ok (.iconst 0, 1) := by decide +kernel
theorem dX10_pass_32 : decode cX10_pass 32 = .ok (.invokevirtual 178, 3) := by decide +kernel
theorem dX10_pass_35 : decode cX10_pass 35 = .ok (.ifCond .eq 5, 3) := by decide +kernel
theorem dX10_pass_38 : decode cX10_pass 38 = .ok (.iconst 0, 1) := by decide +kernel
theorem dX10_pass_39 : decode cX10_pass 39 = .ok (.ireturn, 1) := by decide +kernel
theorem dX10_pass_40 : decode cX10_pass 40 = .ok (.iconst 0, 1) := by decide +kernel
theorem dX10_pass_41 : decode cX10_pass 41 = .ok (.istore_n 2, 1) := by decide +kernel
theorem dX10_pass_42 : decode cX10_pass 42 = .ok (.iload_n 2, 1) := by decide +kernel
theorem dX10_pass_43 : decode cX10_pass 43 = .ok (.iload_n 1, 1) := by decide +kernel
theorem dX10_pass_44 : decode cX10_pass 44 = .ok (.if_icmp .ge 13, 3) := by decide +kernel
theorem dX10_pass_47 : decode cX10_pass 47 = .ok (.aload_n 0, 1) := by decide +kernel
theorem dX10_pass_48 : decode cX10_pass 48 = .ok (.invokevirtual 273, 3) := by decide +kernel
theorem dX10_pass_51 : decode cX10_pass 51 = .ok (.iinc 2 1, 3) := by decide +kernel
theorem dX10_pass_54 : decode cX10_pass 54 = .ok (.goto (-12), 3) := by decide +kernel
theorem dX10_pass_57 : decode cX10_pass 57 = .ok (.aload_n 0, 1) := by decide +kernel
theorem dX10_pass_58 : decode cX10_pass 58 = .ok (.getfield 224, 3) := by decide +kernel
theorem dX10_pass_61 : decode cX10_pass 61 = .ok (.ireturn, 1) := by decide +kernel
theorem dX10_lorry_0 : decode cX10_lorry 0 = .ok (.iload_n 2, 1) := by decide +kernel
theorem dX10_lorry_1 : decode cX10_lorry 1 = .ok (.aload_n 0, 1) := by decide +kernel
theorem dX10_lorry_2 : decode cX10_lorry 2 = .ok (.getfield 224, 3) := by decide +kernel
theorem dX10_lorry_5 : decode cX10_lorry 5 = .ok (.iconst 1, 1) := by decide +kernel
theorem dX10_lorry_6 : decode cX10_lorry 6 = .ok (.iadd, 1) := by decide +kernel
theorem dX10_lorry_7 : decode cX10_lorry 7 = .ok (.ldc 177, 2) := by decide +kernel
theorem dX10_lorry_9 : decode cX10_lorry 9 = .ok (.invokestatic 163, 3) := by decide +kernel
theorem dX10_lorry_12 : decode cX10_lorry 12 = .ok (.ifCond .eq 17, 3) := by decide +kernel
theorem dX10_lorry_15 : decode cX10_lorry 15 = .ok (.iload_n 3, 1) := by decide +kernel
theorem dX10_lorry_16 : decode cX10_lorry 16 = .ok (.iconst 1, 1) := by decide +kernel
theorem dX10_lorry_17 : decode cX10_lorry 17 = .ok (.bipush 50, 2) := by decide +kernel
theorem dX10_lorry_19 : decode cX10_lorry 19 = .ok (.invokestatic 163, 3) := by decide +kernel
theorem dX10_lorry_22 : decode cX10_lorry 22 = .ok (.ifCond .eq 7, 3) := by decide +kernel
theorem dX10_lorry_25 : decode cX10_lorry 25 = .ok (.iconst 1, 1) := by decide +kernel
theorem dX10_lorry_26 : decode cX10_lorry 26 = .ok (.goto 4, 3) := by decide +kernel
theorem dX10_lorry_29 : decode cX10_lorry 29 = .ok (.iconst 0, 1) := by decide +kernel
theorem dX10_lorry_30 : decode cX10_lorry 30 = .ok (.istore 4, 2) := by decide +kernel
theorem dX10_lorry_32 : decode cX10_lorry 32 = .ok (.aload_n 0, 1) := by decide +kernel
theorem dX10_lorry_33 : decode cX10_lorry 33 = .ok (.iload_n 1, 1) := by decide +kernel
theorem dX10_lorry_34 : decode cX10_lorry 34 = .ok (.invokestatic 170, 3) := by decide +kernel
theorem dX10_lorry_37 : decode cX10_lorry 37 = .ok (.ifCond .ne 7, 3) := by decide +kernel
theorem dX10_lorry_40 : decode cX10_lorry 40 = .ok (.iconst 1, 1) := by decide +kernel
theorem dX10_lorry_41 : decode cX10_lorry 41 = .ok (.goto 26, 3) := by decide +kernel
theorem dX10_lorry_44 : decode cX10_lorry 44 = .ok (.iload 4, 2) := by decide +kernel
theorem dX10_lorry_46 : decode cX10_lorry 46 = .ok (.ifCond .ne 7, 3) := by decide +kernel
theorem dX10_lorry_49 : decode cX10_lorry 49 = .ok (.iconst 2, 1) := by decide +kernel
theorem dX10_lorry_50 : decode cX10_lorry 50 = .ok (.goto 17, 3) := by decide +kernel
theorem dX10_lorry_53 : decode cX10_lorry 53 = .ok (.aload_n 0, 1) := by decide +kernel
theorem dX10_lorry_54 : decode cX10_lorry 54 = .ok (.getfield 267, 3) := by decide +kernel
theorem dX10_lorry_57 : decode cX10_lorry 57 = .ok (.bipush 20, 2) := by decide +kernel
theorem dX10_lorry_59 : decode cX10_lorry 59 = .ok (.if_icmp .ne 7, 3) := by decide +kernel
theorem dX10_lorry_62 : decode cX10_lorry 62 = .ok (.iconst 3, 1) := by decide +kernel
theorem dX10_lorry_63 : decode cX10_lorry 63 = .ok (.goto 4, 3) := by decide +kernel
theorem dX10_lorry_66 : decode cX10_lorry 66 = .ok (.iconst 0, 1) := by decide +kernel
theorem dX10_lorry_67 : decode cX10_lorry 67 = .ok (.invokevirtual 178, 3) := by decide +kernel
theorem dX10_lorry_70 : decode cX10_lorry 70 = .ok (.ifCond .eq 5, 3) := by decide +kernel
theorem dX10_lorry_73 : decode cX10_lorry 73 = .ok (.iconst 0, 1) := by decide +kernel
theorem dX10_lorry_74 : decode cX10_lorry 74 = .ok (.ireturn, 1) := by decide +kernel
theorem dX10_lorry_75 : decode cX10_lorry 75 = .ok (.aload_n 0, 1) := by decide +kernel
theorem dX10_lorry_76 : decode cX10_lorry 76 = .ok (.getfield 144, 3) := by decide +kernel
theorem dX10_lorry_79 : decode cX10_lorry 79 = .ok (.aload_n 0, 1) := by decide +kernel
theorem dX10_lorry_80 : decode cX10_lorry 80 = .ok (.getfield 267, 3) := by decide +kernel
theorem dX10_lorry_83 : decode cX10_lorry 83 = .ok (.iload_n 1, 1) := by decide +kernel
theorem dX10_lorry_84 : decode cX10_lorry 84 = .ok (.iastore, 1) := by decide +kernel
theorem dX10_lorry_85 : decode cX10_lorry 85 = .ok (.aload_n 0, 1) := by decide +kernel
theorem dX10_lorry_86 : decode cX10_lorry 86 = .ok (.getfield 147, 3) := by decide +kernel
theorem dX10_lorry_89 : decode cX10_lorry 89 = .ok (.aload_n 0, 1) := by decide +kernel
theorem dX10_lorry_90 : decode cX10_lorry 90 = .ok (.getfield 267, 3) := by decide +kernel
theorem dX10_lorry_93 : decode cX10_lorry 93 = .ok (.iload_n 2, 1) := by decide +kernel
theorem dX10_lorry_94 : decode cX10_lorry 94 = .ok (.iastore, 1) := by decide +kernel
theorem dX10_lorry_95 : decode cX10_lorry 95 = .ok (.aload_n 0, 1) := by decide +kernel
theorem dX10_lorry_96 : decode cX10_lorry 96 = .ok (.getfield 150, 3) := by decide +kernel
theorem dX10_lorry_99 : decode cX10_lorry 99 = .ok (.aload_n 0, 1) := by decide +kernel
theorem dX10_lorry_100 : decode cX10_lorry 100 = .ok (.getfield 267, 3) := by decide +kernel
theorem dX10_lorry_103 : decode cX10_lorry 103 = .ok (.iload_n 3, 1) := by decide +kernel
theorem dX10_lorry_104 : decode cX10_lorry 104 = .ok (.iastore, 1) := by decide +kernel
theorem dX10_lorry_105 : decode cX10_lorry 105 = .ok (.aload_n 0, 1) := by decide +kernel
theorem dX10_lorry_106 : decode cX10_lorry 106 = .ok (.getfield 153, 3) := by decide +kernel
theorem dX10_lorry_109 : decode cX10_lorry 109 = .ok (.aload_n 0, 1) := by decide +kernel
theorem dX10_lorry_110 : decode cX10_lorry 110 = .ok (.getfield 267, 3) := by decide +kernel
theorem dX10_lorry_113 : decode cX10_lorry 113 = .ok (.iconst (-1), 1) := by decide +kernel
theorem dX10_lorry_114 : decode cX10_lorry 114 = .ok (.iastore, 1) := by decide +kernel
theorem dX10_lorry_115 : decode cX10_lorry 115 = .ok (.aload_n 0, 1) := by decide +kernel
theorem dX10_lorry_116 : decode cX10_lorry 116 = .ok (.dup, 1) := by decide +kernel
theorem dX10_lorry_117 : decode cX10_lorry 117 = .ok (.getfield 267, 3) := by decide +kernel
theorem dX10_lorry_120 : decode cX10_lorry 120 = .ok (.iconst 1, 1) := by decide +kernel
theorem dX10_lorry_121 : decode cX10_lorry 121 = .ok (.iadd, 1) := by decide +kernel
theorem dX10_lorry_122 : decode cX10_lorry 122 = .ok (.putfield 267, 3) := by decide +kernel
theorem dX10_lorry_125 : decode cX10_lorry 125 = .ok (.aload_n 0, 1) := by decide +kernel
theorem dX10_lorry_126 : decode cX10_lorry 126 = .ok (.getfield 267, 3) := by decide +kernel
theorem dX10_lorry_129 : decode cX10_lorry 129 = .ok (.iconst 1, 1) := by decide +kernel
theorem dX10_lorry_130 : decode cX10_lorry 130 = .ok (.isub, 1) := by decide +kernel
theorem dX10_lorry_131 : decode cX10_lorry 131 = .ok (.ireturn, 1) := by decide +kernel
theorem dX10_areCents_0 : decode cX10_areCents 0 = .ok (.iload_n 0, 1) := by decide +kernel
theorem dX10_areCents_1 : decode cX10_areCents 1 = .ok (.iconst 1, 1) := by decide +kernel
theorem dX10_areCents_2 : decode cX10_areCents 2 = .ok (.ldc 184, 2) := by decide +kernel
theorem dX10_areCents_4 : decode cX10_areCents 4 = .ok (.invokestatic 163, 3) := by decide +kernel
theorem dX10_areCents_7 : decode cX10_areCents 7 = .ok (.ireturn, 1) := by decide +kernel
theorem dX10_pay_0 : decode cX10_pay 0 = .ok (.aload_n 0, 1) := by decide +kernel
theorem dX10_pay_1 : decode cX10_pay 1 = .ok (.iload_n 1, 1) := by decide +kernel
theorem dX10_pay_2 : decode cX10_pay 2 = .ok (.invokestatic 170, 3) := by decide +kernel
theorem dX10_pay_5 : decode cX10_pay 5 = .ok (.ifCond .ne 7, 3) := by decide +kernel
theorem dX10_pay_8 : decode cX10_pay 8 = .ok (.iconst 1, 1) := by decide +kernel
theorem dX10_pay_9 : decode cX10_pay 9 = .ok (.goto 15, 3) := by decide +kernel
theorem dX10_pay_12 : decode cX10_pay 12 = .ok (.iload_n 2, 1) := by decide +kernel
theorem dX10_pay_13 : decode cX10_pay 13 = .ok (.invokestatic 276, 3) := by decide +kernel
theorem dX10_pay_16 : decode cX10_pay 16 = .ok (.ifCond .eq 7, 3) := by decide +kernel
theorem dX10_pay_19 : decode cX10_pay 19 = .ok (.iconst 0, 1) := by decide +kernel
theorem dX10_pay_20 : decode cX10_pay 20 = .ok (.goto 4, 3) := by decide +kernel
theorem dX10_pay_23 : decode cX10_pay 23 = .ok (.iconst 2, 1) := by decide +kernel
theorem dX10_pay_24 : decode cX10_pay 24 = .ok (.invokevirtual 178, 3) := by decide +kernel
theorem dX10_pay_27 : decode cX10_pay 27 = .ok (.ifCond .eq 5, 3) := by decide +kernel
theorem dX10_pay_30 : decode cX10_pay 30 = .ok (.iconst 0, 1) := by decide +kernel
theorem dX10_pay_31 : decode cX10_pay 31 = .ok (.ireturn, 1) := by decide +kernel
theorem dX10_pay_32 : decode cX10_pay 32 = .ok (.aload_n 0, 1) := by decide +kernel
theorem dX10_pay_33 : decode cX10_pay 33 = .ok (.getfield 45, 3) := by decide +kernel
theorem dX10_pay_36 : decode cX10_pay 36 = .ok (.iload_n 1, 1) := by decide +kernel
theorem dX10_pay_37 : decode cX10_pay 37 = .ok (.iaload, 1) := by decide +kernel
theorem dX10_pay_38 : decode cX10_pay 38 = .ok (.iload_n 2, 1) := by decide +kernel
theorem dX10_pay_39 : decode cX10_pay 39 = .ok (.if_icmp .ge 12, 3) := by decide +kernel
theorem dX10_pay_42 : decode cX10_pay 42 = .ok (.aload_n 0, 1) := by decide +kernel
theorem dX10_pay_43 : decode cX10_pay 43 = .ok (.getfield 45, 3) := by decide +kernel
theorem dX10_pay_46 : decode cX10_pay 46 = .ok (.iload_n 1, 1) := by decide +kernel
theorem dX10_pay_47 : decode cX10_pay 47 = .ok (.iaload, 1) := by decide +kernel
theorem dX10_pay_48 : decode cX10_pay 48 = .ok (.goto 4, 3) := by decide +kernel
theorem dX10_pay_51 : decode cX10_pay 51 = .ok (.iload_n 2, 1) := by decide +kernel
theorem dX10_pay_52 : decode cX10_pay 52 = .ok (.istore_n 3, 1) := by decide +kernel
theorem dX10_pay_53 : decode cX10_pay 53 = .ok (.iload_n 3, 1) := by decide +kernel
theorem dX10_pay_54 : decode cX10_pay 54 = .ok (.ifCond .ge 7, 3) := by decide +kernel
theorem dX10_pay_57 : decode cX10_pay 57 = .ok (.iconst 0, 1) := by decide +kernel
theorem dX10_pay_58 : decode cX10_pay 58 = .ok (.goto 4, 3) := by decide +kernel
theorem dX10_pay_61 : decode cX10_pay 61 = .ok (.iload_n 3, 1) := by decide +kernel
theorem dX10_pay_62 : decode cX10_pay 62 = .ok (.istore_n 3, 1) := by decide +kernel
theorem dX10_pay_63 : decode cX10_pay 63 = .ok (.aload_n 0, 1) := by decide +kernel
theorem dX10_pay_64 : decode cX10_pay 64 = .ok (.getfield 45, 3) := by decide +kernel
theorem dX10_pay_67 : decode cX10_pay 67 = .ok (.iload_n 1, 1) := by decide +kernel
theorem dX10_pay_68 : decode cX10_pay 68 = .ok (.dup2, 1) := by decide +kernel
theorem dX10_pay_69 : decode cX10_pay 69 = .ok (.iaload, 1) := by decide +kernel
theorem dX10_pay_70 : decode cX10_pay 70 = .ok (.iload_n 3, 1) := by decide +kernel
theorem dX10_pay_71 : decode cX10_pay 71 = .ok (.isub, 1) := by decide +kernel
theorem dX10_pay_72 : decode cX10_pay 72 = .ok (.iastore, 1) := by decide +kernel
theorem dX10_pay_73 : decode cX10_pay 73 = .ok (.iload_n 3, 1) := by decide +kernel
theorem dX10_pay_74 : decode cX10_pay 74 = .ok (.ireturn, 1) := by decide +kernel
theorem dX10_claim_0 : decode cX10_claim 0 = .ok (.iload_n 1, 1) := by decide +kernel
theorem dX10_claim_1 : decode cX10_claim 1 = .ok (.invokestatic 170, 3) := by decide +kernel
theorem dX10_claim_4 : decode cX10_claim 4 = .ok (.ifCond .eq 15, 3) := by decide +kernel
theorem dX10_claim_7 : decode cX10_claim 7 = .ok (.aload_n 0, 1) := by decide +kernel
theorem dX10_claim_8 : decode cX10_claim 8 = .ok (.iload_n 2, 1) := by decide +kernel
theorem dX10_claim_9 : decode cX10_claim 9 = .ok (.invokevirtual 279, 3) := by decide +kernel
theorem dX10_claim_12 : decode cX10_claim 12 = .ok (.ifCond .eq 7, 3) := by decide +kernel
theorem dX10_claim_15 : decode cX10_claim 15 = .ok (.iconst 1, 1) := by decide +kernel
theorem dX10_claim_16 : decode cX10_claim 16 = .ok (.goto 4, 3) := by decide +kernel
theorem dX10_claim_19 : decode cX10_claim 19 = .ok (.iconst 0, 1) := by decide +kernel
theorem dX10_claim_20 : decode cX10_claim 20 = .ok (.istore_n 3, 1) := by decide +kernel
theorem dX10_claim_21 : decode cX10_claim 21 = .ok (.aload_n 0, 1) := by decide +kernel
theorem dX10_claim_22 : decode cX10_claim 22 = .ok (.iload_n 3, 1) := by decide +kernel
theorem dX10_claim_23 : decode cX10_claim 23 = .ok (.ifCond .ne 7, 3) := by decide +kernel
theorem dX10_claim_26 : decode cX10_claim 26 = .ok (.iconst 1, 1) := by decide +kernel
theorem dX10_claim_27 : decode cX10_claim 27 = .ok (.goto 44, 3) := by decide +kernel
theorem dX10_claim_30 : decode cX10_claim 30 = .ok (.aload_n 0, 1) := by decide +kernel
theorem dX10_claim_31 : decode cX10_claim 31 = .ok (.getfield 75, 3) := by decide +kernel
theorem dX10_claim_34 : decode cX10_claim 34 = .ok (.iload_n 2, 1) := by decide +kernel
theorem dX10_claim_35 : decode cX10_claim 35 = .ok (.iaload, 1) := by decide +kernel
theorem dX10_claim_36 : decode cX10_claim 36 = .ok (.iload_n 1, 1) := by decide +kernel
theorem dX10_claim_37 : decode cX10_claim 37 = .ok (.if_icmp .ne 29, 3) := by decide +kernel
theorem dX10_claim_40 : decode cX10_claim 40 = .ok (.aload_n 0, 1) := by decide +kernel
theorem dX10_claim_41 : decode cX10_claim 41 = .ok (.getfield 87, 3) := by decide +kernel
theorem dX10_claim_44 : decode cX10_claim 44 = .ok (.iload_n 2, 1) := by decide +kernel
theorem dX10_claim_45 : decode cX10_claim 45 = .ok (.baload, 1) := by decide +kernel
theorem dX10_claim_46 : decode cX10_claim 46 = .ok (.ifCond .ne 20, 3) := by decide +kernel
theorem dX10_claim_49 : decode cX10_claim 49 = .ok (.aload_n 0, 1) := by decide +kernel
theorem dX10_claim_50 : decode cX10_claim 50 = .ok (.getfield 224, 3) := by decide +kernel
theorem dX10_claim_53 : decode cX10_claim 53 = .ok (.aload_n 0, 1) := by decide +kernel
theorem dX10_claim_54 : decode cX10_claim 54 = .ok (.getfield 81, 3) := by decide +kernel
theorem dX10_claim_57 : decode cX10_claim 57 = .ok (.iload_n 2, 1) := by decide +kernel
theorem dX10_claim_58 : decode cX10_claim 58 = .ok (.iaload, 1) := by decide +kernel
theorem dX10_claim_59 : decode cX10_claim 59 = .ok (.sipush 240, 3) := by decide +kernel
theorem dX10_claim_62 : decode cX10_claim 62 = .ok (.iadd, 1) := by decide +kernel
theorem dX10_claim_63 : decode cX10_claim 63 = .ok (.if_icmp .le 7, 3) := by decide +kernel
theorem dX10_claim_66 : decode cX10_claim 66 = .ok (.iconst 2, 1) := by decide +kernel
theorem dX10_claim_67 : decode cX10_claim 67 = .ok (.goto 4, 3) := by decide +kernel
theorem dX10_claim_70 : decode cX10_claim 70 = .ok (.iconst 0, 1) := by decide +kernel
theorem dX10_claim_71 : decode cX10_claim 71 = .ok (.invokevirtual 178, 3) := by decide +kernel
theorem dX10_claim_74 : decode cX10_claim 74 = .ok (.ifCond .eq 5, 3) := by decide +kernel
theorem dX10_claim_77 : decode cX10_claim 77 = .ok (.iconst 0, 1) := by decide +kernel
theorem dX10_claim_78 : decode cX10_claim 78 = .ok (.ireturn, 1) := by decide +kernel
theorem dX10_claim_79 : decode cX10_claim 79 = .ok (.aload_n 0, 1) := by decide +kernel
theorem dX10_claim_80 : decode cX10_claim 80 = .ok (.getfield 87, 3) := by decide +kernel
theorem dX10_claim_83 : decode cX10_claim 83 = .ok (.iload_n 2, 1) := by decide +kernel
theorem dX10_claim_84 : decode cX10_claim 84 = .ok (.iconst 1, 1) := by decide +kernel
theorem dX10_claim_85 : decode cX10_claim 85 = .ok (.bastore, 1) := by decide +kernel
theorem dX10_claim_86 : decode cX10_claim 86 = .ok (.aload_n 0, 1) := by decide +kernel
theorem dX10_claim_87 : decode cX10_claim 87 = .ok (.getfield 63, 3) := by decide +kernel
theorem dX10_claim_90 : decode cX10_claim 90 = .ok (.iload_n 2, 1) := by decide +kernel
theorem dX10_claim_91 : decode cX10_claim 91 = .ok (.iaload, 1) := by decide +kernel
theorem dX10_claim_92 : decode cX10_claim 92 = .ok (.aload_n 0, 1) := by decide +kernel
theorem dX10_claim_93 : decode cX10_claim 93 = .ok (.getfield 66, 3) := by decide +kernel
theorem dX10_claim_96 : decode cX10_claim 96 = .ok (.iload_n 2, 1) := by decide +kernel
theorem dX10_claim_97 : decode cX10_claim 97 = .ok (.iaload, 1) := by decide +kernel
theorem dX10_claim_98 : decode cX10_claim 98 = .ok (.isub, 1) := by decide +kernel
theorem dX10_claim_99 : decode cX10_claim 99 = .ok (.istore 4, 2) := by decide +kernel
theorem dX10_claim_101 : decode cX10_claim 101 = .ok (.iload 4, 2) := by decide +kernel
theorem dX10_claim_103 : decode cX10_claim 103 = .ok (.bipush 100, 2) := by decide +kernel
theorem dX10_claim_105 : decode cX10_claim 105 = .ok (.imul, 1) := by decide +kernel
theorem dX10_claim_106 : decode cX10_claim 106 = .ok (.iconst 3, 1) := by decide +kernel
theorem dX10_claim_107 : decode cX10_claim 107 = .ok (.aload_n 0, 1) := by decide +kernel
theorem dX10_claim_108 : decode cX10_claim 108 = .ok (.getfield 63, 3) := by decide +kernel
theorem dX10_claim_111 : decode cX10_claim 111 = .ok (.iload_n 2, 1) := by decide +kernel
theorem dX10_claim_112 : decode cX10_claim 112 = .ok (.iaload, 1) := by decide +kernel
theorem dX10_claim_113 : decode cX10_claim 113 = .ok (.imul, 1) := by decide +kernel
theorem dX10_claim_114 : decode cX10_claim 114 = .ok (.if_icmp .le 15, 3) := by decide +kernel
theorem dX10_claim_117 : decode cX10_claim 117 = .ok (.iload 4, 2) := by decide +kernel
theorem dX10_claim_119 : decode cX10_claim 119 = .ok (.aload_n 0, 1) := by decide +kernel
theorem dX10_claim_120 : decode cX10_claim 120 = .ok (.getfield 78, 3) := by decide +kernel
theorem dX10_claim_123 : decode cX10_claim 123 = .ok (.iload_n 2, 1) := by decide +kernel
theorem dX10_claim_124 : decode cX10_claim 124 = .ok (.iaload, 1) := by decide +kernel
theorem dX10_claim_125 : decode cX10_claim 125 = .ok (.imul, 1) := by decide +kernel
theorem dX10_claim_126 : decode cX10_claim 126 = .ok (.goto 4, 3) := by decide +kernel
theorem dX10_claim_129 : decode cX10_claim 129 = .ok (.iconst 0, 1) := by decide +kernel
theorem dX10_claim_130 : decode cX10_claim 130 = .ok (.istore 5, 2) := by decide +kernel
theorem dX10_claim_132 : decode cX10_claim 132 = .ok (.aload_n 0, 1) := by decide +kernel
theorem dX10_claim_133 : decode cX10_claim 133 = .ok (.getfield 45, 3) := by decide +kernel
theorem dX10_claim_136 : decode cX10_claim 136 = .ok (.iload_n 1, 1) := by decide +kernel
theorem dX10_claim_137 : decode cX10_claim 137 = .ok (.dup2, 1) := by decide +kernel
theorem dX10_claim_138 : decode cX10_claim 138 = .ok (.iaload, 1) := by decide +kernel
theorem dX10_claim_139 : decode cX10_claim 139 = .ok (.iload 5, 2) := by decide +kernel
theorem dX10_claim_141 : decode cX10_claim 141 = .ok (.isub, 1) := by decide +kernel
theorem dX10_claim_142 : decode cX10_claim 142 = .ok (.iastore, 1) := by decide +kernel
theorem dX10_claim_143 : decode cX10_claim 143 = .ok (.aload_n 0, 1) := by decide +kernel
theorem dX10_claim_144 : decode cX10_claim 144 = .ok (.getfield 27, 3) := by decide +kernel
theorem dX10_claim_147 : decode cX10_claim 147 = .ok (.aload_n 0, 1) := by decide +kernel
theorem dX10_claim_148 : decode cX10_claim 148 = .ok (.getfield 51, 3) := by decide +kernel
theorem dX10_claim_151 : decode cX10_claim 151 = .ok (.iload_n 2, 1) := by decide +kernel
theorem dX10_claim_152 : decode cX10_claim 152 = .ok (.iaload, 1) := by decide +kernel
theorem dX10_claim_153 : decode cX10_claim 153 = .ok (.dup2, 1) := by decide +kernel
theorem dX10_claim_154 : decode cX10_claim 154 = .ok (.iaload, 1) := by decide +kernel
theorem dX10_claim_155 : decode cX10_claim 155 = .ok (.iload 5, 2) := by decide +kernel
theorem dX10_claim_157 : decode cX10_claim 157 = .ok (.isub, 1) := by decide +kernel
theorem dX10_claim_158 : decode cX10_claim 158 = .ok (.iastore, 1) := by decide +kernel
theorem dX10_claim_159 : decode cX10_claim 159 = .ok (.iload 5, 2) := by decide +kernel
theorem dX10_claim_161 : decode cX10_claim 161 = .ok (.ireturn, 1) := by decide +kernel
theorem dX10_settle_0 : decode cX10_settle 0 = .ok (.iload_n 2, 1) := by decide +kernel
theorem dX10_settle_1 : decode cX10_settle 1 = .ok (.iconst 0, 1) := by decide +kernel
theorem dX10_settle_2 : decode cX10_settle 2 = .ok (.ldc_w 282, 3) := by decide +kernel
theorem dX10_settle_5 : decode cX10_settle 5 = .ok (.invokestatic 163, 3) := by decide +kernel
theorem dX10_settle_8 : decode cX10_settle 8 = .ok (.ifCond .eq 17, 3) := by decide +kernel
theorem dX10_settle_11 : decode cX10_settle 11 = .ok (.iload_n 3, 1) := by decide +kernel
theorem dX10_settle_12 : decode cX10_settle 12 = .ok (.iconst 0, 1) := by decide +kernel
theorem dX10_settle_13 : decode cX10_settle 13 = .ok (.bipush 100, 2) := by decide +kernel
theorem dX10_settle_15 : decode cX10_settle 15 = .ok (.invokestatic 163, 3) := by decide +kernel
theorem dX10_settle_18 : decode cX10_settle 18 = .ok (.ifCond .eq 7, 3) := by decide +kernel
theorem dX10_settle_21 : decode cX10_settle 21 = .ok (.iconst 1, 1) := by decide +kernel
theorem dX10_settle_22 : decode cX10_settle 22 = .ok (.goto 4, 3) := by decide +kernel
theorem dX10_settle_25 : decode cX10_settle 25 = .ok (.iconst 0, 1) := by decide +kernel
theorem dX10_settle_26 : decode cX10_settle 26 = .ok (.istore 4, 2) := by decide +kernel
theorem dX10_settle_28 : decode cX10_settle 28 = .ok (.aload_n 0, 1) := by decide +kernel
theorem dX10_settle_29 : decode cX10_settle 29 = .ok (.iload_n 1, 1) := by decide +kernel
theorem dX10_settle_30 : decode cX10_settle 30 = .ok (.invokestatic 170, 3) := by decide +kernel
theorem dX10_settle_33 : decode cX10_settle 33 = .ok (.ifCond .ne 7, 3) := by decide +kernel
theorem dX10_settle_36 : decode cX10_settle 36 = .ok (.iconst 1, 1) := by decide +kernel
theorem dX10_settle_37 : decode cX10_settle 37 = .ok (.goto 13, 3) := by decide +kernel
theorem dX10_settle_40 : decode cX10_settle 40 = .ok (.iload 4, 2) := by decide +kernel
theorem dX10_settle_42 : decode cX10_settle 42 = .ok (.ifCond .eq 7, 3) := by decide +kernel
theorem dX10_settle_45 : decode cX10_settle 45 = .ok (.iconst 0, 1) := by decide +kernel
theorem dX10_settle_46 : decode cX10_settle 46 = .ok (.goto 4, 3) := by decide +kernel
theorem dX10_settle_49 : decode cX10_settle 49 = .ok (.iconst 2, 1) := by decide +kernel
theorem dX10_settle_50 : decode cX10_settle 50 = .ok (.invokevirtual 178, 3) := by decide +kernel
theorem dX10_settle_53 : decode cX10_settle 53 = .ok (.ifCond .eq 5, 3) := by decide +kernel
theorem dX10_settle_56 : decode cX10_settle 56 = .ok (.iconst 0, 1) := by decide +kernel
theorem dX10_settle_57 : decode cX10_settle 57 = .ok (.ireturn, 1) := by decide +kernel
theorem dX10_settle_58 : decode cX10_settle 58 = .ok (.aload_n 0, 1) := by decide +kernel
theorem dX10_settle_59 : decode cX10_settle 59 = .ok (.getfield 27, 3) := by decide +kernel
theorem dX10_settle_62 : decode cX10_settle 62 = .ok (.iload_n 1, 1) := by decide +kernel
theorem dX10_settle_63 : decode cX10_settle 63 = .ok (.iaload, 1) := by decide +kernel
theorem dX10_settle_64 : decode cX10_settle 64 = .ok (.i2l, 1) := by decide +kernel
theorem dX10_settle_65 : decode cX10_settle 65 = .ok (.lstore 5, 2) := by decide +kernel
theorem dX10_settle_67 : decode cX10_settle 67 = .ok (.lload 5, 2) := by decide +kernel
theorem dX10_settle_69 : decode cX10_settle 69 = .ok (.lload 5, 2) := by decide +kernel
theorem dX10_settle_71 : decode cX10_settle 71 = .ok (.lconst 0, 1) := by decide +kernel
theorem dX10_settle_72 : decode cX10_settle 72 = .ok (.lcmp, 1) := by decide +kernel
theorem dX10_settle_73 : decode cX10_settle 73 = .ok (.ifCond .ge 7, 3) := by decide +kernel
theorem dX10_settle_76 : decode cX10_settle 76 = .ok (.lconst 0, 1) := by decide +kernel
theorem dX10_settle_77 : decode cX10_settle 77 = .ok (.goto 13, 3) := by decide +kernel
theorem dX10_settle_80 : decode cX10_settle 80 = .ok (.lload 5, 2) := by decide +kernel
theorem dX10_settle_82 : decode cX10_settle 82 = .ok (.ldc2_w 283, 3) := by decide +kernel
theorem dX10_settle_85 : decode cX10_settle 85 = .ok (.lmul, 1) := by decide +kernel
theorem dX10_settle_86 : decode cX10_settle 86 = .ok (.ldc2_w 285, 3) := by decide +kernel
theorem dX10_settle_89 : decode cX10_settle 89 = .ok (.ldiv, 1) := by decide +kernel
theorem dX10_settle_90 : decode cX10_settle 90 = .ok (.lsub, 1) := by decide +kernel
theorem dX10_settle_91 : decode cX10_settle 91 = .ok (.iload_n 2, 1) := by decide +kernel
theorem dX10_settle_92 : decode cX10_settle 92 = .ok (.i2l, 1) := by decide +kernel
theorem dX10_settle_93 : decode cX10_settle 93 = .ok (.lsub, 1) := by decide +kernel
theorem dX10_settle_94 : decode cX10_settle 94 = .ok (.lstore 7, 2) := by decide +kernel
theorem dX10_settle_96 : decode cX10_settle 96 = .ok (.aload_n 0, 1) := by decide +kernel
theorem dX10_settle_97 : decode cX10_settle 97 = .ok (.getfield 27, 3) := by decide +kernel
theorem dX10_settle_100 : decode cX10_settle 100 = .ok (.iload_n 1, 1) := by decide +kernel
theorem dX10_settle_101 : decode cX10_settle 101 = .ok (.iconst 0, 1) := by decide +kernel
theorem dX10_settle_102 : decode cX10_settle 102 = .ok (.iastore, 1) := by decide +kernel
theorem dX10_settle_103 : decode cX10_settle 103 = .ok (.lload 7, 2) := by decide +kernel
theorem dX10_settle_105 : decode cX10_settle 105 = .ok (.lconst 0, 1) := by decide +kernel
theorem dX10_settle_106 : decode cX10_settle 106 = .ok (.lcmp, 1) := by decide +kernel
theorem dX10_settle_107 : decode cX10_settle 107 = .ok (.ifCond .ge 7, 3) := by decide +kernel
theorem dX10_settle_110 : decode cX10_settle 110 = .ok (.iconst 0, 1) := by decide +kernel
theorem dX10_settle_111 : decode cX10_settle 111 = .ok (.goto 13, 3) := by decide +kernel
theorem dX10_settle_114 : decode cX10_settle 114 = .ok (.lload 7, 2) := by decide +kernel
theorem dX10_settle_116 : decode cX10_settle 116 = .ok (.iload_n 3, 1) := by decide +kernel
theorem dX10_settle_117 : decode cX10_settle 117 = .ok (.i2l, 1) := by decide +kernel
theorem dX10_settle_118 : decode cX10_settle 118 = .ok (.lmul, 1) := by decide +kernel
theorem dX10_settle_119 : decode cX10_settle 119 = .ok (.ldc2_w 285, 3) := by decide +kernel
theorem dX10_settle_122 : decode cX10_settle 122 = .ok (.ldiv, 1) := by decide +kernel
theorem dX10_settle_123 : decode cX10_settle 123 = .ok (.l2i, 1) := by decide +kernel
theorem dX10_settle_124 : decode cX10_settle 124 = .ok (.ireturn, 1) := by decide +kernel
theorem dX10_now_0 : decode cX10_now 0 = .ok (.aload_n 0, 1) := by decide +kernel
theorem dX10_now_1 : decode cX10_now 1 = .ok (.iconst 0, 1) := by decide +kernel
theorem dX10_now_2 : decode cX10_now 2 = .ok (.putfield 160, 3) := by decide +kernel
theorem dX10_now_5 : decode cX10_now 5 = .ok (.aload_n 0, 1) := by decide +kernel
theorem dX10_now_6 : decode cX10_now 6 = .ok (.getfield 224, 3) := by decide +kernel
theorem dX10_now_9 : decode cX10_now 9 = .ok (.ireturn, 1) := by decide +kernel
theorem dX10_day_0 : decode cX10_day 0 = .ok (.aload_n 0, 1) := by decide +kernel
theorem dX10_day_1 : decode cX10_day 1 = .ok (.iconst 0, 1) := by decide +kernel
theorem dX10_day_2 : decode cX10_day 2 = .ok (.putfield 160, 3) := by decide +kernel
theorem dX10_day_5 : decode cX10_day 5 = .ok (.aload_n 0, 1) := by decide +kernel
theorem dX10_day_6 : decode cX10_day 6 = .ok (.getfield 221, 3) := by decide +kernel
theorem dX10_day_9 : decode cX10_day 9 = .ok (.ireturn, 1) := by decide +kernel
theorem dX10_isOpen_0 : decode cX10_isOpen 0 = .ok (.aload_n 0, 1) := by decide +kernel
theorem dX10_isOpen_1 : decode cX10_isOpen 1 = .ok (.iconst 0, 1) := by decide +kernel
theorem dX10_isOpen_2 : decode cX10_isOpen 2 = .ok (.putfield 160, 3) := by decide +kernel
theorem dX10_isOpen_5 : decode cX10_isOpen 5 = .ok (.aload_n 0, 1) := by decide +kernel
theorem dX10_isOpen_6 : decode cX10_isOpen 6 = .ok (.getfield 205, 3) := by decide +kernel
theorem dX10_isOpen_9 : decode cX10_isOpen 9 = .ok (.ireturn, 1) := by decide +kernel
theorem dX10_told_0 : decode cX10_told 0 = .ok (.aload_n 0, 1) := by decide +kernel
theorem dX10_told_1 : decode cX10_told 1 = .ok (.aload_n 0, 1) := by decide +kernel
theorem dX10_told_2 : decode cX10_told 2 = .ok (.iload_n 1, 1) := by decide +kernel
theorem dX10_told_3 : decode cX10_told 3 = .ok (.invokevirtual 279, 3) := by decide +kernel
theorem dX10_told_6 : decode cX10_told 6 = .ok (.ifCond .ne 7, 3) := by decide +kernel
theorem dX10_told_9 : decode cX10_told 9 = .ok (.iconst 1, 1) := by decide +kernel
theorem dX10_told_10 : decode cX10_told 10 = .ok (.goto 17, 3) := by decide +kernel
theorem dX10_told_13 : decode cX10_told 13 = .ok (.iload_n 2, 1) := by decide +kernel
theorem dX10_told_14 : decode cX10_told 14 = .ok (.iconst 0, 1) := by decide +kernel
theorem dX10_told_15 : decode cX10_told 15 = .ok (.iconst 4, 1) := by decide +kernel
theorem dX10_told_16 : decode cX10_told 16 = .ok (.invokestatic 163, 3) := by decide +kernel
theorem dX10_told_19 : decode cX10_told 19 = .ok (.ifCond .eq 7, 3) := by decide +kernel
theorem dX10_told_22 : decode cX10_told 22 = .ok (.iconst 0, 1) := by decide +kernel
theorem dX10_told_23 : decode cX10_told 23 = .ok (.goto 4, 3) := by decide +kernel
theorem dX10_told_26 : decode cX10_told 26 = .ok (.iconst 2, 1) := by decide +kernel
theorem dX10_told_27 : decode cX10_told 27 = .ok (.invokevirtual 178, 3) := by decide +kernel
theorem dX10_told_30 : decode cX10_told 30 = .ok (.ifCond .eq 5, 3) := by decide +kernel
theorem dX10_told_33 : decode cX10_told 33 = .ok (.iconst 0, 1) := by decide +kernel
theorem dX10_told_34 : decode cX10_told 34 = .ok (.ireturn, 1) := by decide +kernel
theorem dX10_told_35 : decode cX10_told 35 = .ok (.iload_n 2, 1) := by decide +kernel
theorem dX10_told_36 : decode cX10_told 36 = .ok (.ifCond .ne 12, 3) := by decide +kernel
theorem dX10_told_39 : decode cX10_told 39 = .ok (.aload_n 0, 1) := by decide +kernel
theorem dX10_told_40 : decode cX10_told 40 = .ok (.getfield 69, 3) := by decide +kernel
theorem dX10_told_43 : decode cX10_told 43 = .ok (.iload_n 1, 1) := by decide +kernel
theorem dX10_told_44 : decode cX10_told 44 = .ok (.iaload, 1) := by decide +kernel
theorem dX10_told_45 : decode cX10_told 45 = .ok (.goto 51, 3) := by decide +kernel
theorem dX10_told_48 : decode cX10_told 48 = .ok (.iload_n 2, 1) := by decide +kernel
theorem dX10_told_49 : decode cX10_told 49 = .ok (.iconst 1, 1) := by decide +kernel
theorem dX10_told_50 : decode cX10_told 50 = .ok (.if_icmp .ne 12, 3) := by decide +kernel
theorem dX10_told_53 : decode cX10_told 53 = .ok (.aload_n 0, 1) := by decide +kernel
theorem dX10_told_54 : decode cX10_told 54 = .ok (.getfield 60, 3) := by decide +kernel
theorem dX10_told_57 : decode cX10_told 57 = .ok (.iload_n 1, 1) := by decide +kernel
theorem dX10_told_58 : decode cX10_told 58 = .ok (.iaload, 1) := by decide +kernel
theorem dX10_told_59 : decode cX10_told 59 = .ok (.goto 37, 3) := by decide +kernel
theorem dX10_told_62 : decode cX10_told 62 = .ok (.iload_n 2, 1) := by decide +kernel
theorem dX10_told_63 : decode cX10_told 63 = .ok (.iconst 2, 1) := by decide +kernel
theorem dX10_told_64 : decode cX10_told 64 = .ok (.if_icmp .ne 12, 3) := by decide +kernel
theorem dX10_told_67 : decode cX10_told 67 = .ok (.aload_n 0, 1) := by decide +kernel
theorem dX10_told_68 : decode cX10_told 68 = .ok (.getfield 75, 3) := by decide +kernel
theorem dX10_told_71 : decode cX10_told 71 = .ok (.iload_n 1, 1) := by decide +kernel
theorem dX10_told_72 : decode cX10_told 72 = .ok (.iaload, 1) := by decide +kernel
theorem dX10_told_73 : decode cX10_told 73 = .ok (.goto 23, 3) := by decide +kernel
theorem dX10_told_76 : decode cX10_told 76 = .ok (.iload_n 2, 1) := by decide +kernel
theorem dX10_told_77 : decode cX10_told 77 = .ok (.iconst 3, 1) := by decide +kernel
theorem dX10_told_78 : decode cX10_told 78 = .ok (.if_icmp .ne 12, 3) := by decide +kernel
theorem dX10_told_81 : decode cX10_told 81 = .ok (.aload_n 0, 1) := by decide +kernel
theorem dX10_told_82 : decode cX10_told 82 = .ok (.getfield 78, 3) := by decide +kernel
theorem dX10_told_85 : decode cX10_told 85 = .ok (.iload_n 1, 1) := by decide +kernel
theorem dX10_told_86 : decode cX10_told 86 = .ok (.iaload, 1) := by decide +kernel
theorem dX10_told_87 : decode cX10_told 87 = .ok (.goto 9, 3) := by decide +kernel
theorem dX10_told_90 : decode cX10_told 90 = .ok (.aload_n 0, 1) := by decide +kernel
theorem dX10_told_91 : decode cX10_told 91 = .ok (.getfield 90, 3) := by decide +kernel
theorem dX10_told_94 : decode cX10_told 94 = .ok (.iload_n 1, 1) := by decide +kernel
theorem dX10_told_95 : decode cX10_told 95 = .ok (.iaload, 1) := by decide +kernel
theorem dX10_told_96 : decode cX10_told 96 = .ok (.ireturn, 1) := by decide +kernel
theorem dX10_lot_0 : decode cX10_lot 0 = .ok (.aload_n 0, 1) := by decide +kernel
theorem dX10_lot_1 : decode cX10_lot 1 = .ok (.iload_n 1, 1) := by decide +kernel
theorem dX10_lot_2 : decode cX10_lot 2 = .ok (.iconst 0, 1) := by decide +kernel
theorem dX10_lot_3 : decode cX10_lot 3 = .ok (.aload_n 0, 1) := by decide +kernel
theorem dX10_lot_4 : decode cX10_lot 4 = .ok (.getfield 192, 3) := by decide +kernel
theorem dX10_lot_7 : decode cX10_lot 7 = .ok (.iconst 1, 1) := by decide +kernel
theorem dX10_lot_8 : decode cX10_lot 8 = .ok (.isub, 1) := by decide +kernel
theorem dX10_lot_9 : decode cX10_lot 9 = .ok (.invokestatic 163, 3) := by decide +kernel
theorem dX10_lot_12 : decode cX10_lot 12 = .ok (.ifCond .ne 7, 3) := by decide +kernel
theorem dX10_lot_15 : decode cX10_lot 15 = .ok (.iconst 1, 1) := by decide +kernel
theorem dX10_lot_16 : decode cX10_lot 16 = .ok (.goto 17, 3) := by decide +kernel
theorem dX10_lot_19 : decode cX10_lot 19 = .ok (.iload_n 2, 1) := by decide +kernel
theorem dX10_lot_20 : decode cX10_lot 20 = .ok (.iconst 0, 1) := by decide +kernel
theorem dX10_lot_21 : decode cX10_lot 21 = .ok (.iconst 5, 1) := by decide +kernel
theorem dX10_lot_22 : decode cX10_lot 22 = .ok (.invokestatic 163, 3) := by decide +kernel
theorem dX10_lot_25 : decode cX10_lot 25 = .ok (.ifCond .eq 7, 3) := by decide +kernel
theorem dX10_lot_28 : decode cX10_lot 28 = .ok (.iconst 0, 1) := by decide +kernel
theorem dX10_lot_29 : decode cX10_lot 29 = .ok (.goto 4, 3) := by decide +kernel
theorem dX10_lot_32 : decode cX10_lot 32 = .ok (.iconst 2, 1) := by decide +kernel
theorem dX10_lot_33 : decode cX10_lot 33 = .ok (.invokevirtual 178, 3) := by decide +kernel
theorem dX10_lot_36 : decode cX10_lot 36 = .ok (.ifCond .eq 5, 3) := by decide +kernel
theorem dX10_lot_39 : decode cX10_lot 39 = .ok (.iconst 0, 1) := by decide +kernel
theorem dX10_lot_40 : decode cX10_lot 40 = .ok (.ireturn, 1) := by decide +kernel
theorem dX10_lot_41 : decode cX10_lot 41 = .ok (.iload_n 2, 1) := by decide +kernel
theorem dX10_lot_42 : decode cX10_lot 42 = .ok (.tableswitch 69 0 4 #[34, 41, 48, 55, 62], 34) := by decide +kernel
theorem dX10_lot_76 : decode cX10_lot 76 = .ok (.aload_n 0, 1) := by decide +kernel
theorem dX10_lot_77 : decode cX10_lot 77 = .ok (.getfield 93, 3) := by decide +kernel
theorem dX10_lot_80 : decode cX10_lot 80 = .ok (.iload_n 1, 1) := by decide +kernel
theorem dX10_lot_81 : decode cX10_lot 81 = .ok (.iaload, 1) := by decide +kernel
theorem dX10_lot_82 : decode cX10_lot 82 = .ok (.ireturn, 1) := by decide +kernel
theorem dX10_lot_83 : decode cX10_lot 83 = .ok (.aload_n 0, 1) := by decide +kernel
theorem dX10_lot_84 : decode cX10_lot 84 = .ok (.getfield 96, 3) := by decide +kernel
theorem dX10_lot_87 : decode cX10_lot 87 = .ok (.iload_n 1, 1) := by decide +kernel
theorem dX10_lot_88 : decode cX10_lot 88 = .ok (.iaload, 1) := by decide +kernel
theorem dX10_lot_89 : decode cX10_lot 89 = .ok (.ireturn, 1) := by decide +kernel
theorem dX10_lot_90 : decode cX10_lot 90 = .ok (.aload_n 0, 1) := by decide +kernel
theorem dX10_lot_91 : decode cX10_lot 91 = .ok (.getfield 99, 3) := by decide +kernel
theorem dX10_lot_94 : decode cX10_lot 94 = .ok (.iload_n 1, 1) := by decide +kernel
theorem dX10_lot_95 : decode cX10_lot 95 = .ok (.iaload, 1) := by decide +kernel
theorem dX10_lot_96 : decode cX10_lot 96 = .ok (.ireturn, 1) := by decide +kernel
theorem dX10_lot_97 : decode cX10_lot 97 = .ok (.aload_n 0, 1) := by decide +kernel
theorem dX10_lot_98 : decode cX10_lot 98 = .ok (.getfield 102, 3) := by decide +kernel
theorem dX10_lot_101 : decode cX10_lot 101 = .ok (.iload_n 1, 1) := by decide +kernel
theorem dX10_lot_102 : decode cX10_lot 102 = .ok (.iaload, 1) := by decide +kernel
theorem dX10_lot_103 : decode cX10_lot 103 = .ok (.ireturn, 1) := by decide +kernel
theorem dX10_lot_104 : decode cX10_lot 104 = .ok (.aload_n 0, 1) := by decide +kernel
theorem dX10_lot_105 : decode cX10_lot 105 = .ok (.getfield 105, 3) := by decide +kernel
theorem dX10_lot_108 : decode cX10_lot 108 = .ok (.iload_n 1, 1) := by decide +kernel
theorem dX10_lot_109 : decode cX10_lot 109 = .ok (.iaload, 1) := by decide +kernel
theorem dX10_lot_110 : decode cX10_lot 110 = .ok (.ireturn, 1) := by decide +kernel
theorem dX10_lot_111 : decode cX10_lot 111 = .ok (.aload_n 0, 1) := by decide +kernel
theorem dX10_lot_112 : decode cX10_lot 112 = .ok (.iload_n 1, 1) := by decide +kernel
theorem dX10_lot_113 : decode cX10_lot 113 = .ok (.invokevirtual 230, 3) := by decide +kernel
theorem dX10_lot_116 : decode cX10_lot 116 = .ok (.ireturn, 1) := by decide +kernel
theorem dX10_lotsOf_0 : decode cX10_lotsOf 0 = .ok (.iconst 0, 1) := by decide +kernel
theorem dX10_lotsOf_1 : decode cX10_lotsOf 1 = .ok (.istore_n 2, 1) := by decide +kernel
theorem dX10_lotsOf_2 : decode cX10_lotsOf 2 = .ok (.iconst 0, 1) := by decide +kernel
theorem dX10_lotsOf_3 : decode cX10_lotsOf 3 = .ok (.istore_n 3, 1) := by decide +kernel
theorem dX10_lotsOf_4 : decode cX10_lotsOf 4 = .ok (.iload_n 3, 1) := by decide +kernel
theorem dX10_lotsOf_5 : decode cX10_lotsOf 5 = .ok (.aload_n 0, 1) := by decide +kernel
theorem dX10_lotsOf_6 : decode cX10_lotsOf 6 = .ok (.getfield 192, 3) := by decide +kernel
theorem dX10_lotsOf_9 : decode cX10_lotsOf 9 = .ok (.if_icmp .ge 36, 3) := by decide +kernel
theorem dX10_lotsOf_12 : decode cX10_lotsOf 12 = .ok (.iload_n 2, 1) := by decide +kernel
theorem dX10_lotsOf_13 : decode cX10_lotsOf 13 = .ok (.aload_n 0, 1) := by decide +kernel
theorem dX10_lotsOf_14 : decode cX10_lotsOf 14 = .ok (.getfield 105, 3) := by decide +kernel
theorem dX10_lotsOf_17 : decode cX10_lotsOf 17 = .ok (.iload_n 3, 1) := by decide +kernel
theorem dX10_lotsOf_18 : decode cX10_lotsOf 18 = .ok (.iaload, 1) := by decide +kernel
theorem dX10_lotsOf_19 : decode cX10_lotsOf 19 = .ok (.iload_n 1, 1) := by decide +kernel
theorem dX10_lotsOf_20 : decode cX10_lotsOf 20 = .ok (.if_icmp .ne 16, 3) := by decide +kernel
theorem dX10_lotsOf_23 : decode cX10_lotsOf 23 = .ok (.aload_n 0, 1) := by decide +kernel
theorem dX10_lotsOf_24 : decode cX10_lotsOf 24 = .ok (.getfield 108, 3) := by decide +kernel
theorem dX10_lotsOf_27 : decode cX10_lotsOf 27 = .ok (.iload_n 3, 1) := by decide +kernel
theorem dX10_lotsOf_28 : decode cX10_lotsOf 28 = .ok (.baload, 1) := by decide +kernel
theorem dX10_lotsOf_29 : decode cX10_lotsOf 29 = .ok (.ifCond .ne 7, 3) := by decide +kernel
theorem dX10_lotsOf_32 : decode cX10_lotsOf 32 = .ok (.iconst 1, 1) := by decide +kernel
theorem dX10_lotsOf_33 : decode cX10_lotsOf 33 = .ok (.goto 4, 3) := by decide +kernel
theorem dX10_lotsOf_36 : decode cX10_lotsOf 36 = .ok (.iconst 0, 1) := by decide +kernel
theorem dX10_lotsOf_37 : decode cX10_lotsOf 37 = .ok (.iadd, 1) := by decide +kernel
theorem dX10_lotsOf_38 : decode cX10_lotsOf 38 = .ok (.istore_n 2, 1) := by decide +kernel
theorem dX10_lotsOf_39 : decode cX10_lotsOf 39 = .ok (.iinc 3 1, 3) := by decide +kernel
theorem dX10_lotsOf_42 : decode cX10_lotsOf 42 = .ok (.goto (-38), 3) := by decide +kernel
theorem dX10_lotsOf_45 : decode cX10_lotsOf 45 = .ok (.iload_n 2, 1) := by decide +kernel
theorem dX10_lotsOf_46 : decode cX10_lotsOf 46 = .ok (.ireturn, 1) := by decide +kernel
theorem dX10_hall_0 : decode cX10_hall 0 = .ok (.aload_n 0, 1) := by decide +kernel
theorem dX10_hall_1 : decode cX10_hall 1 = .ok (.iload_n 1, 1) := by decide +kernel
theorem dX10_hall_2 : decode cX10_hall 2 = .ok (.invokestatic 181, 3) := by decide +kernel
theorem dX10_hall_5 : decode cX10_hall 5 = .ok (.ifCond .ne 7, 3) := by decide +kernel
theorem dX10_hall_8 : decode cX10_hall 8 = .ok (.iconst 1, 1) := by decide +kernel
theorem dX10_hall_9 : decode cX10_hall 9 = .ok (.goto 17, 3) := by decide +kernel
theorem dX10_hall_12 : decode cX10_hall 12 = .ok (.iload_n 2, 1) := by decide +kernel
theorem dX10_hall_13 : decode cX10_hall 13 = .ok (.iconst 0, 1) := by decide +kernel
theorem dX10_hall_14 : decode cX10_hall 14 = .ok (.iconst 4, 1) := by decide +kernel
theorem dX10_hall_15 : decode cX10_hall 15 = .ok (.invokestatic 163, 3) := by decide +kernel
theorem dX10_hall_18 : decode cX10_hall 18 = .ok (.ifCond .eq 7, 3) := by decide +kernel
theorem dX10_hall_21 : decode cX10_hall 21 = .ok (.iconst 0, 1) := by decide +kernel
theorem dX10_hall_22 : decode cX10_hall 22 = .ok (.goto 4, 3) := by decide +kernel
theorem dX10_hall_25 : decode cX10_hall 25 = .ok (.iconst 2, 1) := by decide +kernel
theorem dX10_hall_26 : decode cX10_hall 26 = .ok (.invokevirtual 178, 3) := by decide +kernel
theorem dX10_hall_29 : decode cX10_hall 29 = .ok (.ifCond .eq 5, 3) := by decide +kernel
theorem dX10_hall_32 : decode cX10_hall 32 = .ok (.iconst 0, 1) := by decide +kernel
theorem dX10_hall_33 : decode cX10_hall 33 = .ok (.ireturn, 1) := by decide +kernel
theorem dX10_hall_34 : decode cX10_hall 34 = .ok (.iload_n 2, 1) := by decide +kernel
theorem dX10_hall_35 : decode cX10_hall 35 = .ok (.ifCond .ne 12, 3) := by decide +kernel
theorem dX10_hall_38 : decode cX10_hall 38 = .ok (.aload_n 0, 1) := by decide +kernel
theorem dX10_hall_39 : decode cX10_hall 39 = .ok (.getfield 117, 3) := by decide +kernel
theorem dX10_hall_42 : decode cX10_hall 42 = .ok (.iload_n 1, 1) := by decide +kernel
theorem dX10_hall_43 : decode cX10_hall 43 = .ok (.iaload, 1) := by decide +kernel
theorem dX10_hall_44 : decode cX10_hall 44 = .ok (.goto 50, 3) := by decide +kernel
theorem dX10_hall_47 : decode cX10_hall 47 = .ok (.iload_n 2, 1) := by decide +kernel
theorem dX10_hall_48 : decode cX10_hall 48 = .ok (.iconst 1, 1) := by decide +kernel
theorem dX10_hall_49 : decode cX10_hall 49 = .ok (.if_icmp .ne 12, 3) := by decide +kernel
theorem dX10_hall_52 : decode cX10_hall 52 = .ok (.aload_n 0, 1) := by decide +kernel
theorem dX10_hall_53 : decode cX10_hall 53 = .ok (.getfield 120, 3) := by decide +kernel
theorem dX10_hall_56 : decode cX10_hall 56 = .ok (.iload_n 1, 1) := by decide +kernel
theorem dX10_hall_57 : decode cX10_hall 57 = .ok (.iaload, 1) := by decide +kernel
theorem dX10_hall_58 : decode cX10_hall 58 = .ok (.goto 36, 3) := by decide +kernel
theorem dX10_hall_61 : decode cX10_hall 61 = .ok (.iload_n 2, 1) := by decide +kernel
theorem dX10_hall_62 : decode cX10_hall 62 = .ok (.iconst 2, 1) := by decide +kernel
theorem dX10_hall_63 : decode cX10_hall 63 = .ok (.if_icmp .ne 12, 3) := by decide +kernel
theorem dX10_hall_66 : decode cX10_hall 66 = .ok (.aload_n 0, 1) := by decide +kernel
theorem dX10_hall_67 : decode cX10_hall 67 = .ok (.getfield 123, 3) := by decide +kernel
theorem dX10_hall_70 : decode cX10_hall 70 = .ok (.iload_n 1, 1) := by decide +kernel
theorem dX10_hall_71 : decode cX10_hall 71 = .ok (.iaload, 1) := by decide +kernel
theorem dX10_hall_72 : decode cX10_hall 72 = .ok (.goto 22, 3) := by decide +kernel
theorem dX10_hall_75 : decode cX10_hall 75 = .ok (.iload_n 2, 1) := by decide +kernel
theorem dX10_hall_76 : decode cX10_hall 76 = .ok (.iconst 3, 1) := by decide +kernel
theorem dX10_hall_77 : decode cX10_hall 77 = .ok (.if_icmp .ne 12, 3) := by decide +kernel
theorem dX10_hall_80 : decode cX10_hall 80 = .ok (.aload_n 0, 1) := by decide +kernel
theorem dX10_hall_81 : decode cX10_hall 81 = .ok (.getfield 129, 3) := by decide +kernel
theorem dX10_hall_84 : decode cX10_hall 84 = .ok (.iload_n 1, 1) := by decide +kernel
theorem dX10_hall_85 : decode cX10_hall 85 = .ok (.iaload, 1) := by decide +kernel
theorem dX10_hall_86 : decode cX10_hall 86 = .ok (.goto 8, 3) := by decide +kernel
theorem dX10_hall_89 : decode cX10_hall 89 = .ok (.aload_n 0, 1) := by decide +kernel
theorem dX10_hall_90 : decode cX10_hall 90 = .ok (.iload_n 1, 1) := by decide +kernel
theorem dX10_hall_91 : decode cX10_hall 91 = .ok (.invokevirtual 287, 3) := by decide +kernel
theorem dX10_hall_94 : decode cX10_hall 94 = .ok (.ireturn, 1) := by decide +kernel
theorem dX10_account_0 : decode cX10_account 0 = .ok (.aload_n 0, 1) := by decide +kernel
theorem dX10_account_1 : decode cX10_account 1 = .ok (.iload_n 1, 1) := by decide +kernel
theorem dX10_account_2 : decode cX10_account 2 = .ok (.invokestatic 170, 3) := by decide +kernel
theorem dX10_account_5 : decode cX10_account 5 = .ok (.ifCond .ne 7, 3) := by decide +kernel
theorem dX10_account_8 : decode cX10_account 8 = .ok (.iconst 1, 1) := by decide +kernel
theorem dX10_account_9 : decode cX10_account 9 = .ok (.goto 17, 3) := by decide +kernel
theorem dX10_account_12 : decode cX10_account 12 = .ok (.iload_n 2, 1) := by decide +kernel
theorem dX10_account_13 : decode cX10_account 13 = .ok (.iconst 0, 1) := by decide +kernel
theorem dX10_account_14 : decode cX10_account 14 = .ok (.iconst 2, 1) := by decide +kernel
theorem dX10_account_15 : decode cX10_account 15 = .ok (.invokestatic 163, 3) := by decide +kernel
theorem dX10_account_18 : decode cX10_account 18 = .ok (.ifCond .eq 7, 3) := by decide +kernel
theorem dX10_account_21 : decode cX10_account 21 = .ok (.iconst 0, 1) := by decide +kernel
theorem dX10_account_22 : decode cX10_account 22 = .ok (.goto 4, 3) := by decide +kernel
theorem dX10_account_25 : decode cX10_account 25 = .ok (.iconst 2, 1) := by decide +kernel
theorem dX10_account_26 : decode cX10_account 26 = .ok (.invokevirtual 178, 3) := by decide +kernel
theorem dX10_account_29 : decode cX10_account 29 = .ok (.ifCond .eq 5, 3) := by decide +kernel
theorem dX10_account_32 : decode cX10_account 32 = .ok (.iconst 0, 1) := by decide +kernel
theorem dX10_account_33 : decode cX10_account 33 = .ok (.ireturn, 1) := by decide +kernel
theorem dX10_account_34 : decode cX10_account 34 = .ok (.iconst 0, 1) := by decide +kernel
theorem dX10_account_35 : decode cX10_account 35 = .ok (.istore_n 3, 1) := by decide +kernel
theorem dX10_account_36 : decode cX10_account 36 = .ok (.iconst 0, 1) := by decide +kernel
theorem dX10_account_37 : decode cX10_account 37 = .ok (.istore 4, 2) := by decide +kernel
theorem dX10_account_39 : decode cX10_account 39 = .ok (.iload 4, 2) := by decide +kernel
theorem dX10_account_41 : decode cX10_account 41 = .ok (.aload_n 0, 1) := by decide +kernel
theorem dX10_account_42 : decode cX10_account 42 = .ok (.getfield 167, 3) := by decide +kernel
theorem dX10_account_45 : decode cX10_account 45 = .ok (.if_icmp .ge 28, 3) := by decide +kernel
theorem dX10_account_48 : decode cX10_account 48 = .ok (.iload_n 3, 1) := by decide +kernel
theorem dX10_account_49 : decode cX10_account 49 = .ok (.aload_n 0, 1) := by decide +kernel
theorem dX10_account_50 : decode cX10_account 50 = .ok (.getfield 75, 3) := by decide +kernel
theorem dX10_account_53 : decode cX10_account 53 = .ok (.iload 4, 2) := by decide +kernel
theorem dX10_account_55 : decode cX10_account 55 = .ok (.iaload, 1) := by decide +kernel
theorem dX10_account_56 : decode cX10_account 56 = .ok (.iload_n 1, 1) := by decide +kernel
theorem dX10_account_57 : decode cX10_account 57 = .ok (.if_icmp .ne 7, 3) := by decide +kernel
theorem dX10_account_60 : decode cX10_account 60 = .ok (.iconst 1, 1) := by decide +kernel
theorem dX10_account_61 : decode cX10_account 61 = .ok (.goto 4, 3) := by decide +kernel
theorem dX10_account_64 : decode cX10_account 64 = .ok (.iconst 0, 1) := by decide +kernel
theorem dX10_account_65 : decode cX10_account 65 = .ok (.iadd, 1) := by decide +kernel
theorem dX10_account_66 : decode cX10_account 66 = .ok (.istore_n 3, 1) := by decide +kernel
theorem dX10_account_67 : decode cX10_account 67 = .ok (.iinc 4 1, 3) := by decide +kernel
theorem dX10_account_70 : decode cX10_account 70 = .ok (.goto (-31), 3) := by decide +kernel
theorem dX10_account_73 : decode cX10_account 73 = .ok (.iload_n 2, 1) := by decide +kernel
theorem dX10_account_74 : decode cX10_account 74 = .ok (.ifCond .ne 12, 3) := by decide +kernel
theorem dX10_account_77 : decode cX10_account 77 = .ok (.aload_n 0, 1) := by decide +kernel
theorem dX10_account_78 : decode cX10_account 78 = .ok (.getfield 39, 3) := by decide +kernel
theorem dX10_account_81 : decode cX10_account 81 = .ok (.iload_n 1, 1) := by decide +kernel
theorem dX10_account_82 : decode cX10_account 82 = .ok (.iaload, 1) := by decide +kernel
theorem dX10_account_83 : decode cX10_account 83 = .ok (.goto 18, 3) := by decide +kernel
theorem dX10_account_86 : decode cX10_account 86 = .ok (.iload_n 2, 1) := by decide +kernel
theorem dX10_account_87 : decode cX10_account 87 = .ok (.iconst 1, 1) := by decide +kernel
theorem dX10_account_88 : decode cX10_account 88 = .ok (.if_icmp .ne 12, 3) := by decide +kernel
theorem dX10_account_91 : decode cX10_account 91 = .ok (.aload_n 0, 1) := by decide +kernel
theorem dX10_account_92 : decode cX10_account 92 = .ok (.getfield 45, 3) := by decide +kernel
theorem dX10_account_95 : decode cX10_account 95 = .ok (.iload_n 1, 1) := by decide +kernel
theorem dX10_account_96 : decode cX10_account 96 = .ok (.iaload, 1) := by decide +kernel
theorem dX10_account_97 : decode cX10_account 97 = .ok (.goto 4, 3) := by decide +kernel
theorem dX10_account_100 : decode cX10_account 100 = .ok (.iload_n 3, 1) := by decide +kernel
theorem dX10_account_101 : decode cX10_account 101 = .ok (.ireturn, 1) := by decide +kernel
theorem dX10_ship_0 : decode cX10_ship 0 = .ok (.aload_n 0, 1) := by decide +kernel
theorem dX10_ship_1 : decode cX10_ship 1 = .ok (.iload_n 1, 1) := by decide +kernel
theorem dX10_ship_2 : decode cX10_ship 2 = .ok (.invokestatic 170, 3) := by decide +kernel
theorem dX10_ship_5 : decode cX10_ship 5 = .ok (.ifCond .ne 7, 3) := by decide +kernel
theorem dX10_ship_8 : decode cX10_ship 8 = .ok (.iconst 1, 1) := by decide +kernel
theorem dX10_ship_9 : decode cX10_ship 9 = .ok (.goto 17, 3) := by decide +kernel
theorem dX10_ship_12 : decode cX10_ship 12 = .ok (.iload_n 2, 1) := by decide +kernel
theorem dX10_ship_13 : decode cX10_ship 13 = .ok (.iconst 0, 1) := by decide +kernel
theorem dX10_ship_14 : decode cX10_ship 14 = .ok (.iconst 2, 1) := by decide +kernel
theorem dX10_ship_15 : decode cX10_ship 15 = .ok (.invokestatic 163, 3) := by decide +kernel
theorem dX10_ship_18 : decode cX10_ship 18 = .ok (.ifCond .eq 7, 3) := by decide +kernel
theorem dX10_ship_21 : decode cX10_ship 21 = .ok (.iconst 0, 1) := by decide +kernel
theorem dX10_ship_22 : decode cX10_ship 22 = .ok (.goto 4, 3) := by decide +kernel
theorem dX10_ship_25 : decode cX10_ship 25 = .ok (.iconst 2, 1) := by decide +kernel
theorem dX10_ship_26 : decode cX10_ship 26 = .ok (.invokevirtual 178, 3) := by decide +kernel
theorem dX10_ship_29 : decode cX10_ship 29 = .ok (.ifCond .eq 5, 3) := by decide +kernel
theorem dX10_ship_32 : decode cX10_ship 32 = .ok (.iconst 0, 1) := by decide +kernel
theorem dX10_ship_33 : decode cX10_ship 33 = .ok (.ireturn, 1) := by decide +kernel
theorem dX10_ship_34 : decode cX10_ship 34 = .ok (.iconst 0, 1) := by decide +kernel
theorem dX10_ship_35 : decode cX10_ship 35 = .ok (.istore_n 3, 1) := by decide +kernel
theorem dX10_ship_36 : decode cX10_ship 36 = .ok (.iconst 4, 1) := by decide +kernel
theorem dX10_ship_37 : decode cX10_ship 37 = .ok (.iload_n 1, 1) := by decide +kernel
theorem dX10_ship_38 : decode cX10_ship 38 = .ok (.imul, 1) := by decide +kernel
theorem dX10_ship_39 : decode cX10_ship 39 = .ok (.istore 4, 2) := by decide +kernel
theorem dX10_ship_41 : decode cX10_ship 41 = .ok (.iload 4, 2) := by decide +kernel
theorem dX10_ship_43 : decode cX10_ship 43 = .ok (.iconst 4, 1) := by decide +kernel
theorem dX10_ship_44 : decode cX10_ship 44 = .ok (.iload_n 1, 1) := by decide +kernel
theorem dX10_ship_45 : decode cX10_ship 45 = .ok (.imul, 1) := by decide +kernel
theorem dX10_ship_46 : decode cX10_ship 46 = .ok (.iconst 4, 1) := by decide +kernel
theorem dX10_ship_47 : decode cX10_ship 47 = .ok (.iadd, 1) := by decide +kernel
theorem dX10_ship_48 : decode cX10_ship 48 = .ok (.if_icmp .ge 19, 3) := by decide +kernel
theorem dX10_ship_51 : decode cX10_ship 51 = .ok (.iload_n 3, 1) := by decide +kernel
theorem dX10_ship_52 : decode cX10_ship 52 = .ok (.aload_n 0, 1) := by decide +kernel
theorem dX10_ship_53 : decode cX10_ship 53 = .ok (.getfield 17, 3) := by decide +kernel
theorem dX10_ship_56 : decode cX10_ship 56 = .ok (.iload 4, 2) := by decide +kernel
theorem dX10_ship_58 : decode cX10_ship 58 = .ok (.iaload, 1) := by decide +kernel
theorem dX10_ship_59 : decode cX10_ship 59 = .ok (.iadd, 1) := by decide +kernel
theorem dX10_ship_60 : decode cX10_ship 60 = .ok (.istore_n 3, 1) := by decide +kernel
theorem dX10_ship_61 : decode cX10_ship 61 = .ok (.iinc 4 1, 3) := by decide +kernel
theorem dX10_ship_64 : decode cX10_ship 64 = .ok (.goto (-23), 3) := by decide +kernel
theorem dX10_ship_67 : decode cX10_ship 67 = .ok (.iload_n 2, 1) := by decide +kernel
theorem dX10_ship_68 : decode cX10_ship 68 = .ok (.ifCond .ne 12, 3) := by decide +kernel
theorem dX10_ship_71 : decode cX10_ship 71 = .ok (.aload_n 0, 1) := by decide +kernel
theorem dX10_ship_72 : decode cX10_ship 72 = .ok (.getfield 27, 3) := by decide +kernel
theorem dX10_ship_75 : decode cX10_ship 75 = .ok (.iload_n 1, 1) := by decide +kernel
theorem dX10_ship_76 : decode cX10_ship 76 = .ok (.iaload, 1) := by decide +kernel
theorem dX10_ship_77 : decode cX10_ship 77 = .ok (.goto 18, 3) := by decide +kernel
theorem dX10_ship_80 : decode cX10_ship 80 = .ok (.iload_n 2, 1) := by decide +kernel
theorem dX10_ship_81 : decode cX10_ship 81 = .ok (.iconst 1, 1) := by decide +kernel
theorem dX10_ship_82 : decode cX10_ship 82 = .ok (.if_icmp .ne 12, 3) := by decide +kernel
theorem dX10_ship_85 : decode cX10_ship 85 = .ok (.aload_n 0, 1) := by decide +kernel
theorem dX10_ship_86 : decode cX10_ship 86 = .ok (.getfield 20, 3) := by decide +kernel
theorem dX10_ship_89 : decode cX10_ship 89 = .ok (.iload_n 1, 1) := by decide +kernel
theorem dX10_ship_90 : decode cX10_ship 90 = .ok (.iaload, 1) := by decide +kernel
theorem dX10_ship_91 : decode cX10_ship 91 = .ok (.goto 4, 3) := by decide +kernel
theorem dX10_ship_94 : decode cX10_ship 94 = .ok (.iload_n 3, 1) := by decide +kernel
theorem dX10_ship_95 : decode cX10_ship 95 = .ok (.ireturn, 1) := by decide +kernel
theorem dX10_isOf_0 : decode cX10_isOf 0 = .ok (.iload_n 1, 1) := by decide +kernel
theorem dX10_isOf_1 : decode cX10_isOf 1 = .ok (.tableswitch 87 0 4 #[35, 37, 53, 64, 76], 35) := by decide +kernel
theorem dX10_isOf_36 : decode cX10_isOf 36 = .ok (.iconst 1, 1) := by decide +kernel
theorem dX10_isOf_37 : decode cX10_isOf 37 = .ok (.ireturn, 1) := by decide +kernel
theorem dX10_isOf_38 : decode cX10_isOf 38 = .ok (.iload_n 0, 1) := by decide +kernel
theorem dX10_isOf_39 : decode cX10_isOf 39 = .ok (.iconst 3, 1) := by decide +kernel
theorem dX10_isOf_40 : decode cX10_isOf 40 = .ok (.if_icmp .eq 8, 3) := by decide +kernel
theorem dX10_isOf_43 : decode cX10_isOf 43 = .ok (.iload_n 0, 1) := by decide +kernel
theorem dX10_isOf_44 : decode cX10_isOf 44 = .ok (.iconst 4, 1) := by decide +kernel
theorem dX10_isOf_45 : decode cX10_isOf 45 = .ok (.if_icmp .ne 7, 3) := by decide +kernel
theorem dX10_isOf_48 : decode cX10_isOf 48 = .ok (.iconst 1, 1) := by decide +kernel
theorem dX10_isOf_49 : decode cX10_isOf 49 = .ok (.goto 4, 3) := by decide +kernel
theorem dX10_isOf_52 : decode cX10_isOf 52 = .ok (.iconst 0, 1) := by decide +kernel
theorem dX10_isOf_53 : decode cX10_isOf 53 = .ok (.ireturn, 1) := by decide +kernel
theorem dX10_isOf_54 : decode cX10_isOf 54 = .ok (.iload_n 0, 1) := by decide +kernel
theorem dX10_isOf_55 : decode cX10_isOf 55 = .ok (.iconst 5, 1) := by decide +kernel
theorem dX10_isOf_56 : decode cX10_isOf 56 = .ok (.if_icmp .ne 7, 3) := by decide +kernel
theorem dX10_isOf_59 : decode cX10_isOf 59 = .ok (.iconst 1, 1) := by decide +kernel
theorem dX10_isOf_60 : decode cX10_isOf 60 = .ok (.goto 4, 3) := by decide +kernel
theorem dX10_isOf_63 : decode cX10_isOf 63 = .ok (.iconst 0, 1) := by decide +kernel
theorem dX10_isOf_64 : decode cX10_isOf 64 = .ok (.ireturn, 1) := by decide +kernel
theorem dX10_isOf_65 : decode cX10_isOf 65 = .ok (.iload_n 0, 1) := by decide +kernel
theorem dX10_isOf_66 : decode cX10_isOf 66 = .ok (.bipush 7, 2) := by decide +kernel
theorem dX10_isOf_68 : decode cX10_isOf 68 = .ok (.if_icmp .ne 7, 3) := by decide +kernel
theorem dX10_isOf_71 : decode cX10_isOf 71 = .ok (.iconst 1, 1) := by decide +kernel
theorem dX10_isOf_72 : decode cX10_isOf 72 = .ok (.goto 4, 3) := by decide +kernel
theorem dX10_isOf_75 : decode cX10_isOf 75 = .ok (.iconst 0, 1) := by decide +kernel
theorem dX10_isOf_76 : decode cX10_isOf 76 = .ok (.ireturn, 1) := by decide +kernel
theorem dX10_isOf_77 : decode cX10_isOf 77 = .ok (.iload_n 0, 1) := by decide +kernel
theorem dX10_isOf_78 : decode cX10_isOf 78 = .ok (.iconst 1, 1) := by decide +kernel
theorem dX10_isOf_79 : decode cX10_isOf 79 = .ok (.if_icmp .ne 7, 3) := by decide +kernel
theorem dX10_isOf_82 : decode cX10_isOf 82 = .ok (.iconst 1, 1) := by decide +kernel
theorem dX10_isOf_83 : decode cX10_isOf 83 = .ok (.goto 4, 3) := by decide +kernel
theorem dX10_isOf_86 : decode cX10_isOf 86 = .ok (.iconst 0, 1) := by decide +kernel
theorem dX10_isOf_87 : decode cX10_isOf 87 = .ok (.ireturn, 1) := by decide +kernel
theorem dX10_isOf_88 : decode cX10_isOf 88 = .ok (.iload_n 0, 1) := by decide +kernel
theorem dX10_isOf_89 : decode cX10_isOf 89 = .ok (.ifCond .eq 14, 3) := by decide +kernel
theorem dX10_isOf_92 : decode cX10_isOf 92 = .ok (.iload_n 0, 1) := by decide +kernel
theorem dX10_isOf_93 : decode cX10_isOf 93 = .ok (.bipush 6, 2) := by decide +kernel
theorem dX10_isOf_95 : decode cX10_isOf 95 = .ok (.if_icmp .eq 8, 3) := by decide +kernel
theorem dX10_isOf_98 : decode cX10_isOf 98 = .ok (.iload_n 0, 1) := by decide +kernel
theorem dX10_isOf_99 : decode cX10_isOf 99 = .ok (.iconst 2, 1) := by decide +kernel
theorem dX10_isOf_100 : decode cX10_isOf 100 = .ok (.if_icmp .ne 7, 3) := by decide +kernel
theorem dX10_isOf_103 : decode cX10_isOf 103 = .ok (.iconst 1, 1) := by decide +kernel
theorem dX10_isOf_104 : decode cX10_isOf 104 = .ok (.goto 4, 3) := by decide +kernel
theorem dX10_isOf_107 : decode cX10_isOf 107 = .ok (.iconst 0, 1) := by decide +kernel
theorem dX10_isOf_108 : decode cX10_isOf 108 = .ok (.ireturn, 1) := by decide +kernel
theorem dX10_kilos_0 : decode cX10_kilos 0 = .ok (.aload_n 0, 1) := by decide +kernel
theorem dX10_kilos_1 : decode cX10_kilos 1 = .ok (.iload_n 1, 1) := by decide +kernel
theorem dX10_kilos_2 : decode cX10_kilos 2 = .ok (.iconst 0, 1) := by decide +kernel
theorem dX10_kilos_3 : decode cX10_kilos 3 = .ok (.iconst 5, 1) := by decide +kernel
theorem dX10_kilos_4 : decode cX10_kilos 4 = .ok (.invokestatic 163, 3) := by decide +kernel
theorem dX10_kilos_7 : decode cX10_kilos 7 = .ok (.ifCond .eq 7, 3) := by decide +kernel
theorem dX10_kilos_10 : decode cX10_kilos 10 = .ok (.iconst 0, 1) := by decide +kernel
theorem dX10_kilos_11 : decode cX10_kilos 11 = .ok (.goto 4, 3) := by decide +kernel
theorem dX10_kilos_14 : decode cX10_kilos 14 = .ok (.iconst 1, 1) := by decide +kernel
theorem dX10_kilos_15 : decode cX10_kilos 15 = .ok (.invokevirtual 178, 3) := by decide +kernel
theorem dX10_kilos_18 : decode cX10_kilos 18 = .ok (.ifCond .eq 5, 3) := by decide +kernel
theorem dX10_kilos_21 : decode cX10_kilos 21 = .ok (.iconst 0, 1) := by decide +kernel
theorem dX10_kilos_22 : decode cX10_kilos 22 = .ok (.ireturn, 1) := by decide +kernel
theorem dX10_kilos_23 : decode cX10_kilos 23 = .ok (.iconst 0, 1) := by decide +kernel
theorem dX10_kilos_24 : decode cX10_kilos 24 = .ok (.istore_n 2, 1) := by decide +kernel
theorem dX10_kilos_25 : decode cX10_kilos 25 = .ok (.iconst 0, 1) := by decide +kernel
theorem dX10_kilos_26 : decode cX10_kilos 26 = .ok (.istore_n 3, 1) := by decide +kernel
theorem dX10_kilos_27 : decode cX10_kilos 27 = .ok (.iload_n 3, 1) := by decide +kernel
theorem dX10_kilos_28 : decode cX10_kilos 28 = .ok (.aload_n 0, 1) := by decide +kernel
theorem dX10_kilos_29 : decode cX10_kilos 29 = .ok (.getfield 167, 3) := by decide +kernel
theorem dX10_kilos_32 : decode cX10_kilos 32 = .ok (.if_icmp .ge 35, 3) := by decide +kernel
theorem dX10_kilos_35 : decode cX10_kilos 35 = .ok (.iload_n 2, 1) := by decide +kernel
theorem dX10_kilos_36 : decode cX10_kilos 36 = .ok (.aload_n 0, 1) := by decide +kernel
theorem dX10_kilos_37 : decode cX10_kilos 37 = .ok (.getfield 69, 3) := by decide +kernel
theorem dX10_kilos_40 : decode cX10_kilos 40 = .ok (.iload_n 3, 1) := by decide +kernel
theorem dX10_kilos_41 : decode cX10_kilos 41 = .ok (.iaload, 1) := by decide +kernel
theorem dX10_kilos_42 : decode cX10_kilos 42 = .ok (.iload_n 1, 1) := by decide +kernel
theorem dX10_kilos_43 : decode cX10_kilos 43 = .ok (.invokestatic 290, 3) := by decide +kernel
theorem dX10_kilos_46 : decode cX10_kilos 46 = .ok (.ifCond .eq 12, 3) := by decide +kernel
theorem dX10_kilos_49 : decode cX10_kilos 49 = .ok (.aload_n 0, 1) := by decide +kernel
theorem dX10_kilos_50 : decode cX10_kilos 50 = .ok (.getfield 63, 3) := by decide +kernel
theorem dX10_kilos_53 : decode cX10_kilos 53 = .ok (.iload_n 3, 1) := by decide +kernel
theorem dX10_kilos_54 : decode cX10_kilos 54 = .ok (.iaload, 1) := by decide +kernel
theorem dX10_kilos_55 : decode cX10_kilos 55 = .ok (.goto 4, 3) := by decide +kernel
theorem dX10_kilos_58 : decode cX10_kilos 58 = .ok (.iconst 0, 1) := by decide +kernel
theorem dX10_kilos_59 : decode cX10_kilos 59 = .ok (.iadd, 1) := by decide +kernel
theorem dX10_kilos_60 : decode cX10_kilos 60 = .ok (.istore_n 2, 1) := by decide +kernel
theorem dX10_kilos_61 : decode cX10_kilos 61 = .ok (.iinc 3 1, 3) := by decide +kernel
theorem dX10_kilos_64 : decode cX10_kilos 64 = .ok (.goto (-37), 3) := by decide +kernel
theorem dX10_kilos_67 : decode cX10_kilos 67 = .ok (.iload_n 2, 1) := by decide +kernel
theorem dX10_kilos_68 : decode cX10_kilos 68 = .ok (.ireturn, 1) := by decide +kernel
theorem dX10_kilosAnew_0 : decode cX10_kilosAnew 0 = .ok (.aload_n 0, 1) := by decide +kernel
theorem dX10_kilosAnew_1 : decode cX10_kilosAnew 1 = .ok (.iload_n 1, 1) := by decide +kernel
theorem dX10_kilosAnew_2 : decode cX10_kilosAnew 2 = .ok (.invokevirtual 293, 3) := by decide +kernel
theorem dX10_kilosAnew_5 : decode cX10_kilosAnew 5 = .ok (.ireturn, 1) := by decide +kernel
theorem dX10_average_0 : decode cX10_average 0 = .ok (.aload_n 0, 1) := by decide +kernel
theorem dX10_average_1 : decode cX10_average 1 = .ok (.iload_n 1, 1) := by decide +kernel
theorem dX10_average_2 : decode cX10_average 2 = .ok (.invokestatic 174, 3) := by decide +kernel
theorem dX10_average_5 : decode cX10_average 5 = .ok (.ifCond .ne 7, 3) := by decide +kernel
theorem dX10_average_8 : decode cX10_average 8 = .ok (.iconst 1, 1) := by decide +kernel
theorem dX10_average_9 : decode cX10_average 9 = .ok (.goto 20, 3) := by decide +kernel
theorem dX10_average_12 : decode cX10_average 12 = .ok (.iload_n 2, 1) := by decide +kernel
theorem dX10_average_13 : decode cX10_average 13 = .ok (.iconst 0, 1) := by decide +kernel
theorem dX10_average_14 : decode cX10_average 14 = .ok (.aload_n 0, 1) := by decide +kernel
theorem dX10_average_15 : decode cX10_average 15 = .ok (.getfield 221, 3) := by decide +kernel
theorem dX10_average_18 : decode cX10_average 18 = .ok (.invokestatic 163, 3) := by decide +kernel
theorem dX10_average_21 : decode cX10_average 21 = .ok (.ifCond .eq 7, 3) := by decide +kernel
theorem dX10_average_24 : decode cX10_average 24 = .ok (.iconst 0, 1) := by decide +kernel
theorem dX10_average_25 : decode cX10_average 25 = .ok (.goto 4, 3) := by decide +kernel
theorem dX10_average_28 : decode cX10_average 28 = .ok (.iconst 2, 1) := by decide +kernel
theorem dX10_average_29 : decode cX10_average 29 = .ok (.invokevirtual 178, 3) := by decide +kernel
theorem dX10_average_32 : decode cX10_average 32 = .ok (.ifCond .eq 5, 3) := by decide +kernel
theorem dX10_average_35 : decode cX10_average 35 = .ok (.iconst 0, 1) := by decide +kernel
theorem dX10_average_36 : decode cX10_average 36 = .ok (.ireturn, 1) := by decide +kernel
theorem dX10_average_37 : decode cX10_average 37 = .ok (.iconst 0, 1) := by decide +kernel
theorem dX10_average_38 : decode cX10_average 38 = .ok (.istore_n 3, 1) := by decide +kernel
theorem dX10_average_39 : decode cX10_average 39 = .ok (.iconst 0, 1) := by decide +kernel
theorem dX10_average_40 : decode cX10_average 40 = .ok (.istore 4, 2) := by decide +kernel
theorem dX10_average_42 : decode cX10_average 42 = .ok (.iconst 0, 1) := by decide +kernel
theorem dX10_average_43 : decode cX10_average 43 = .ok (.istore 5, 2) := by decide +kernel
theorem dX10_average_45 : decode cX10_average 45 = .ok (.iload 5, 2) := by decide +kernel
theorem dX10_average_47 : decode cX10_average 47 = .ok (.aload_n 0, 1) := by decide +kernel
theorem dX10_average_48 : decode cX10_average 48 = .ok (.getfield 167, 3) := by decide +kernel
theorem dX10_average_51 : decode cX10_average 51 = .ok (.if_icmp .ge 97, 3) := by decide +kernel
theorem dX10_average_54 : decode cX10_average 54 = .ok (.aload_n 0, 1) := by decide +kernel
theorem dX10_average_55 : decode cX10_average 55 = .ok (.getfield 54, 3) := by decide +kernel
theorem dX10_average_58 : decode cX10_average 58 = .ok (.iload 5, 2) := by decide +kernel
theorem dX10_average_60 : decode cX10_average 60 = .ok (.iaload, 1) := by decide +kernel
theorem dX10_average_61 : decode cX10_average 61 = .ok (.iload_n 1, 1) := by decide +kernel
theorem dX10_average_62 : decode cX10_average 62 = .ok (.if_icmp .ne 29, 3) := by decide +kernel
theorem dX10_average_65 : decode cX10_average 65 = .ok (.aload_n 0, 1) := by decide +kernel
theorem dX10_average_66 : decode cX10_average 66 = .ok (.getfield 75, 3) := by decide +kernel
theorem dX10_average_69 : decode cX10_average 69 = .ok (.iload 5, 2) := by decide +kernel
theorem dX10_average_71 : decode cX10_average 71 = .ok (.iaload, 1) := by decide +kernel
theorem dX10_average_72 : decode cX10_average 72 = .ok (.iconst (-1), 1) := by decide +kernel
theorem dX10_average_73 : decode cX10_average 73 = .ok (.if_icmp .eq 18, 3) := by decide +kernel
theorem dX10_average_76 : decode cX10_average 76 = .ok (.aload_n 0, 1) := by decide +kernel
theorem dX10_average_77 : decode cX10_average 77 = .ok (.getfield 84, 3) := by decide +kernel
theorem dX10_average_80 : decode cX10_average 80 = .ok (.iload 5, 2) := by decide +kernel
theorem dX10_average_82 : decode cX10_average 82 = .ok (.iaload, 1) := by decide +kernel
theorem dX10_average_83 : decode cX10_average 83 = .ok (.iload_n 2, 1) := by decide +kernel
theorem dX10_average_84 : decode cX10_average 84 = .ok (.if_icmp .ne 7, 3) := by decide +kernel
theorem dX10_average_87 : decode cX10_average 87 = .ok (.iconst 1, 1) := by decide +kernel
theorem dX10_average_88 : decode cX10_average 88 = .ok (.goto 4, 3) := by decide +kernel
theorem dX10_average_91 : decode cX10_average 91 = .ok (.iconst 0, 1) := by decide +kernel
theorem dX10_average_92 : decode cX10_average 92 = .ok (.istore 6, 2) := by decide +kernel
theorem dX10_average_94 : decode cX10_average 94 = .ok (.iload_n 3, 1) := by decide +kernel
theorem dX10_average_95 : decode cX10_average 95 = .ok (.iload 6, 2) := by decide +kernel
theorem dX10_average_97 : decode cX10_average 97 = .ok (.ifCond .eq 21, 3) := by decide +kernel
theorem dX10_average_100 : decode cX10_average 100 = .ok (.aload_n 0, 1) := by decide +kernel
theorem dX10_average_101 : decode cX10_average 101 = .ok (.getfield 63, 3) := by decide +kernel
theorem dX10_average_104 : decode cX10_average 104 = .ok (.iload 5, 2) := by decide +kernel
theorem dX10_average_106 : decode cX10_average 106 = .ok (.iaload, 1) := by decide +kernel
theorem dX10_average_107 : decode cX10_average 107 = .ok (.aload_n 0, 1) := by decide +kernel
theorem dX10_average_108 : decode cX10_average 108 = .ok (.getfield 78, 3) := by decide +kernel
theorem dX10_average_111 : decode cX10_average 111 = .ok (.iload 5, 2) := by decide +kernel
theorem dX10_average_113 : decode cX10_average 113 = .ok (.iaload, 1) := by decide +kernel
theorem dX10_average_114 : decode cX10_average 114 = .ok (.imul, 1) := by decide +kernel
theorem dX10_average_115 : decode cX10_average 115 = .ok (.goto 4, 3) := by decide +kernel
theorem dX10_average_118 : decode cX10_average 118 = .ok (.iconst 0, 1) := by decide +kernel
theorem dX10_average_119 : decode cX10_average 119 = .ok (.iadd, 1) := by decide +kernel
theorem dX10_average_120 : decode cX10_average 120 = .ok (.istore_n 3, 1) := by decide +kernel
theorem dX10_average_121 : decode cX10_average 121 = .ok (.iload 4, 2) := by decide +kernel
theorem dX10_average_123 : decode cX10_average 123 = .ok (.iload 6, 2) := by decide +kernel
theorem dX10_average_125 : decode cX10_average 125 = .ok (.ifCond .eq 13, 3) := by decide +kernel
theorem dX10_average_128 : decode cX10_average 128 = .ok (.aload_n 0, 1) := by decide +kernel
theorem dX10_average_129 : decode cX10_average 129 = .ok (.getfield 63, 3) := by decide +kernel
theorem dX10_average_132 : decode cX10_average 132 = .ok (.iload 5, 2) := by decide +kernel
theorem dX10_average_134 : decode cX10_average 134 = .ok (.iaload, 1) := by decide +kernel
theorem dX10_average_135 : decode cX10_average 135 = .ok (.goto 4, 3) := by decide +kernel
theorem dX10_average_138 : decode cX10_average 138 = .ok (.iconst 0, 1) := by decide +kernel
theorem dX10_average_139 : decode cX10_average 139 = .ok (.iadd, 1) := by decide +kernel
theorem dX10_average_140 : decode cX10_average 140 = .ok (.istore 4, 2) := by decide +kernel
theorem dX10_average_142 : decode cX10_average 142 = .ok (.iinc 5 1, 3) := by decide +kernel
theorem dX10_average_145 : decode cX10_average 145 = .ok (.goto (-100), 3) := by decide +kernel
theorem dX10_average_148 : decode cX10_average 148 = .ok (.iload 4, 2) := by decide +kernel
theorem dX10_average_150 : decode cX10_average 150 = .ok (.ifCond .ne 7, 3) := by decide +kernel
theorem dX10_average_153 : decode cX10_average 153 = .ok (.iconst (-1), 1) := by decide +kernel
theorem dX10_average_154 : decode cX10_average 154 = .ok (.goto 7, 3) := by decide +kernel
theorem dX10_average_157 : decode cX10_average 157 = .ok (.iload_n 3, 1) := by decide +kernel
theorem dX10_average_158 : decode cX10_average 158 = .ok (.iload 4, 2) := by decide +kernel
theorem dX10_average_160 : decode cX10_average 160 = .ok (.idiv, 1) := by decide +kernel
theorem dX10_average_161 : decode cX10_average 161 = .ok (.ireturn, 1) := by decide +kernel
theorem dX10_loaded_0 : decode cX10_loaded 0 = .ok (.aload_n 0, 1) := by decide +kernel
theorem dX10_loaded_1 : decode cX10_loaded 1 = .ok (.iload_n 1, 1) := by decide +kernel
theorem dX10_loaded_2 : decode cX10_loaded 2 = .ok (.iconst 0, 1) := by decide +kernel
theorem dX10_loaded_3 : decode cX10_loaded 3 = .ok (.aload_n 0, 1) := by decide +kernel
theorem dX10_loaded_4 : decode cX10_loaded 4 = .ok (.getfield 267, 3) := by decide +kernel
theorem dX10_loaded_7 : decode cX10_loaded 7 = .ok (.iconst 1, 1) := by decide +kernel
theorem dX10_loaded_8 : decode cX10_loaded 8 = .ok (.isub, 1) := by decide +kernel
theorem dX10_loaded_9 : decode cX10_loaded 9 = .ok (.invokestatic 163, 3) := by decide +kernel
theorem dX10_loaded_12 : decode cX10_loaded 12 = .ok (.ifCond .eq 7, 3) := by decide +kernel
theorem dX10_loaded_15 : decode cX10_loaded 15 = .ok (.iconst 0, 1) := by decide +kernel
theorem dX10_loaded_16 : decode cX10_loaded 16 = .ok (.goto 4, 3) := by decide +kernel
theorem dX10_loaded_19 : decode cX10_loaded 19 = .ok (.iconst 1, 1) := by decide +kernel
theorem dX10_loaded_20 : decode cX10_loaded 20 = .ok (.invokevirtual 178, 3) := by decide +kernel
theorem dX10_loaded_23 : decode cX10_loaded 23 = .ok (.ifCond .eq 7, 3) := by decide +kernel
theorem dX10_loaded_26 : decode cX10_loaded 26 = .ok (.iconst 0, 1) := by decide +kernel
theorem dX10_loaded_27 : decode cX10_loaded 27 = .ok (.goto 9, 3) := by decide +kernel
theorem dX10_loaded_30 : decode cX10_loaded 30 = .ok (.aload_n 0, 1) := by decide +kernel
theorem dX10_loaded_31 : decode cX10_loaded 31 = .ok (.getfield 153, 3) := by decide +kernel
theorem dX10_loaded_34 : decode cX10_loaded 34 = .ok (.iload_n 1, 1) := by decide +kernel
theorem dX10_loaded_35 : decode cX10_loaded 35 = .ok (.iaload, 1) := by decide +kernel
theorem dX10_loaded_36 : decode cX10_loaded 36 = .ok (.ireturn, 1) := by decide +kernel
