theorem dL_part_0 : decode cL_part 0 = .ok (.iload_n 1, 1) := by decide +kernel
theorem dL_part_1 : decode cL_part 1 = .ok (.aload_n 0, 1) := by decide +kernel
theorem dL_part_2 : decode cL_part 2 = .ok (.arraylength, 1) := by decide +kernel
theorem dL_part_3 : decode cL_part 3 = .ok (.if_icmp .ge 9, 3) := by decide +kernel
theorem dL_part_6 : decode cL_part 6 = .ok (.aload_n 0, 1) := by decide +kernel
theorem dL_part_7 : decode cL_part 7 = .ok (.iload_n 1, 1) := by decide +kernel
theorem dL_part_8 : decode cL_part 8 = .ok (.iaload, 1) := by decide +kernel
theorem dL_part_9 : decode cL_part 9 = .ok (.goto 16, 3) := by decide +kernel
theorem dL_part_12 : decode cL_part 12 = .ok (.sipush 967, 3) := by decide +kernel
theorem dL_part_15 : decode cL_part 15 = .ok (.iload_n 1, 1) := by decide +kernel
theorem dL_part_16 : decode cL_part 16 = .ok (.imul, 1) := by decide +kernel
theorem dL_part_17 : decode cL_part 17 = .ok (.sipush 827, 3) := by decide +kernel
theorem dL_part_20 : decode cL_part 20 = .ok (.iload_n 1, 1) := by decide +kernel
theorem dL_part_21 : decode cL_part 21 = .ok (.imul, 1) := by decide +kernel
theorem dL_part_22 : decode cL_part 22 = .ok (.iload_n 1, 1) := by decide +kernel
theorem dL_part_23 : decode cL_part 23 = .ok (.imul, 1) := by decide +kernel
theorem dL_part_24 : decode cL_part 24 = .ok (.iadd, 1) := by decide +kernel
theorem dL_part_25 : decode cL_part 25 = .ok (.istore_n 3, 1) := by decide +kernel
theorem dL_part_26 : decode cL_part 26 = .ok (.iload_n 3, 1) := by decide +kernel
theorem dL_part_27 : decode cL_part 27 = .ok (.ldc 7, 2) := by decide +kernel
theorem dL_part_29 : decode cL_part 29 = .ok (.iand, 1) := by decide +kernel
theorem dL_part_30 : decode cL_part 30 = .ok (.iload_n 2, 1) := by decide +kernel
theorem dL_part_31 : decode cL_part 31 = .ok (.irem, 1) := by decide +kernel
theorem dL_part_32 : decode cL_part 32 = .ok (.ireturn, 1) := by decide +kernel
theorem dL_does_0 : decode cL_does 0 = .ok (.iload_n 1, 1) := by decide +kernel
theorem dL_does_1 : decode cL_does 1 = .ok (.ifCond .ne 14, 3) := by decide +kernel
theorem dL_does_4 : decode cL_does 4 = .ok (.aload_n 0, 1) := by decide +kernel
theorem dL_does_5 : decode cL_does 5 = .ok (.iload_n 2, 1) := by decide +kernel
theorem dL_does_6 : decode cL_does 6 = .ok (.iload_n 3, 1) := by decide +kernel
theorem dL_does_7 : decode cL_does 7 = .ok (.iload 4, 2) := by decide +kernel
theorem dL_does_9 : decode cL_does 9 = .ok (.invokevirtual 8, 3) := by decide +kernel
theorem dL_does_12 : decode cL_does 12 = .ok (.goto 348, 3) := by decide +kernel
theorem dL_does_15 : decode cL_does 15 = .ok (.iload_n 1, 1) := by decide +kernel
theorem dL_does_16 : decode cL_does 16 = .ok (.iconst 1, 1) := by decide +kernel
theorem dL_does_17 : decode cL_does 17 = .ok (.if_icmp .ne 23, 3) := by decide +kernel
theorem dL_does_20 : decode cL_does 20 = .ok (.aload_n 0, 1) := by decide +kernel
theorem dL_does_21 : decode cL_does 21 = .ok (.iload_n 2, 1) := by decide +kernel
theorem dL_does_22 : decode cL_does 22 = .ok (.iload_n 3, 1) := by decide +kernel
theorem dL_does_23 : decode cL_does 23 = .ok (.iload 4, 2) := by decide +kernel
theorem dL_does_25 : decode cL_does 25 = .ok (.iconst 1, 1) := by decide +kernel
theorem dL_does_26 : decode cL_does 26 = .ok (.if_icmp .ne 7, 3) := by decide +kernel
theorem dL_does_29 : decode cL_does 29 = .ok (.iconst 1, 1) := by decide +kernel
theorem dL_does_30 : decode cL_does 30 = .ok (.goto 4, 3) := by decide +kernel
theorem dL_does_33 : decode cL_does 33 = .ok (.iconst 0, 1) := by decide +kernel
theorem dL_does_34 : decode cL_does 34 = .ok (.invokevirtual 14, 3) := by decide +kernel
theorem dL_does_37 : decode cL_does 37 = .ok (.goto 323, 3) := by decide +kernel
theorem dL_does_40 : decode cL_does 40 = .ok (.iload_n 1, 1) := by decide +kernel
theorem dL_does_41 : decode cL_does 41 = .ok (.iconst 2, 1) := by decide +kernel
theorem dL_does_42 : decode cL_does 42 = .ok (.if_icmp .ne 16, 3) := by decide +kernel
theorem dL_does_45 : decode cL_does 45 = .ok (.aload_n 0, 1) := by decide +kernel
theorem dL_does_46 : decode cL_does 46 = .ok (.iload_n 2, 1) := by decide +kernel
theorem dL_does_47 : decode cL_does 47 = .ok (.iload_n 3, 1) := by decide +kernel
theorem dL_does_48 : decode cL_does 48 = .ok (.iload 4, 2) := by decide +kernel
theorem dL_does_50 : decode cL_does 50 = .ok (.iload 5, 2) := by decide +kernel
theorem dL_does_52 : decode cL_does 52 = .ok (.invokestatic 18, 3) := by decide +kernel
theorem dL_does_55 : decode cL_does 55 = .ok (.goto 305, 3) := by decide +kernel
theorem dL_does_58 : decode cL_does 58 = .ok (.iload_n 1, 1) := by decide +kernel
theorem dL_does_59 : decode cL_does 59 = .ok (.iconst 3, 1) := by decide +kernel
theorem dL_does_60 : decode cL_does 60 = .ok (.if_icmp .ne 12, 3) := by decide +kernel
theorem dL_does_63 : decode cL_does 63 = .ok (.aload_n 0, 1) := by decide +kernel
theorem dL_does_64 : decode cL_does 64 = .ok (.iload_n 2, 1) := by decide +kernel
theorem dL_does_65 : decode cL_does 65 = .ok (.iload_n 3, 1) := by decide +kernel
theorem dL_does_66 : decode cL_does 66 = .ok (.invokevirtual 24, 3) := by decide +kernel
theorem dL_does_69 : decode cL_does 69 = .ok (.goto 291, 3) := by decide +kernel
theorem dL_does_72 : decode cL_does 72 = .ok (.iload_n 1, 1) := by decide +kernel
theorem dL_does_73 : decode cL_does 73 = .ok (.iconst 4, 1) := by decide +kernel
theorem dL_does_74 : decode cL_does 74 = .ok (.if_icmp .ne 14, 3) := by decide +kernel
theorem dL_does_77 : decode cL_does 77 = .ok (.aload_n 0, 1) := by decide +kernel
theorem dL_does_78 : decode cL_does 78 = .ok (.iload_n 2, 1) := by decide +kernel
theorem dL_does_79 : decode cL_does 79 = .ok (.iload_n 3, 1) := by decide +kernel
theorem dL_does_80 : decode cL_does 80 = .ok (.iload 4, 2) := by decide +kernel
theorem dL_does_82 : decode cL_does 82 = .ok (.invokevirtual 28, 3) := by decide +kernel
theorem dL_does_85 : decode cL_does 85 = .ok (.goto 275, 3) := by decide +kernel
theorem dL_does_88 : decode cL_does 88 = .ok (.iload_n 1, 1) := by decide +kernel
theorem dL_does_89 : decode cL_does 89 = .ok (.iconst 5, 1) := by decide +kernel
theorem dL_does_90 : decode cL_does 90 = .ok (.if_icmp .ne 29, 3) := by decide +kernel
theorem dL_does_93 : decode cL_does 93 = .ok (.aload_n 0, 1) := by decide +kernel
theorem dL_does_94 : decode cL_does 94 = .ok (.iload_n 2, 1) := by decide +kernel
theorem dL_does_95 : decode cL_does 95 = .ok (.iload_n 3, 1) := by decide +kernel
theorem dL_does_96 : decode cL_does 96 = .ok (.iconst 1, 1) := by decide +kernel
theorem dL_does_97 : decode cL_does 97 = .ok (.if_icmp .ne 7, 3) := by decide +kernel
theorem dL_does_100 : decode cL_does 100 = .ok (.iconst 1, 1) := by decide +kernel
theorem dL_does_101 : decode cL_does 101 = .ok (.goto 4, 3) := by decide +kernel
theorem dL_does_104 : decode cL_does 104 = .ok (.iconst 0, 1) := by decide +kernel
theorem dL_does_105 : decode cL_does 105 = .ok (.invokevirtual 31, 3) := by decide +kernel
theorem dL_does_108 : decode cL_does 108 = .ok (.ifCond .eq 7, 3) := by decide +kernel
theorem dL_does_111 : decode cL_does 111 = .ok (.iconst 1, 1) := by decide +kernel
theorem dL_does_112 : decode cL_does 112 = .ok (.goto 248, 3) := by decide +kernel
theorem dL_does_115 : decode cL_does 115 = .ok (.iconst 0, 1) := by decide +kernel
theorem dL_does_116 : decode cL_does 116 = .ok (.goto 244, 3) := by decide +kernel
theorem dL_does_119 : decode cL_does 119 = .ok (.iload_n 1, 1) := by decide +kernel
theorem dL_does_120 : decode cL_does 120 = .ok (.bipush 6, 2) := by decide +kernel
theorem dL_does_122 : decode cL_does 122 = .ok (.if_icmp .ne 29, 3) := by decide +kernel
theorem dL_does_125 : decode cL_does 125 = .ok (.aload_n 0, 1) := by decide +kernel
theorem dL_does_126 : decode cL_does 126 = .ok (.iload_n 2, 1) := by decide +kernel
theorem dL_does_127 : decode cL_does 127 = .ok (.iload_n 3, 1) := by decide +kernel
theorem dL_does_128 : decode cL_does 128 = .ok (.iconst 1, 1) := by decide +kernel
theorem dL_does_129 : decode cL_does 129 = .ok (.if_icmp .ne 7, 3) := by decide +kernel
theorem dL_does_132 : decode cL_does 132 = .ok (.iconst 1, 1) := by decide +kernel
theorem dL_does_133 : decode cL_does 133 = .ok (.goto 4, 3) := by decide +kernel
theorem dL_does_136 : decode cL_does 136 = .ok (.iconst 0, 1) := by decide +kernel
theorem dL_does_137 : decode cL_does 137 = .ok (.invokevirtual 35, 3) := by decide +kernel
theorem dL_does_140 : decode cL_does 140 = .ok (.ifCond .eq 7, 3) := by decide +kernel
theorem dL_does_143 : decode cL_does 143 = .ok (.iconst 1, 1) := by decide +kernel
theorem dL_does_144 : decode cL_does 144 = .ok (.goto 216, 3) := by decide +kernel
theorem dL_does_147 : decode cL_does 147 = .ok (.iconst 0, 1) := by decide +kernel
theorem dL_does_148 : decode cL_does 148 = .ok (.goto 212, 3) := by decide +kernel
theorem dL_does_151 : decode cL_does 151 = .ok (.iload_n 1, 1) := by decide +kernel
theorem dL_does_152 : decode cL_does 152 = .ok (.bipush 7, 2) := by decide +kernel
theorem dL_does_154 : decode cL_does 154 = .ok (.if_icmp .ne 20, 3) := by decide +kernel
theorem dL_does_157 : decode cL_does 157 = .ok (.aload_n 0, 1) := by decide +kernel
theorem dL_does_158 : decode cL_does 158 = .ok (.iload_n 2, 1) := by decide +kernel
theorem dL_does_159 : decode cL_does 159 = .ok (.iload_n 3, 1) := by decide +kernel
theorem dL_does_160 : decode cL_does 160 = .ok (.iload 4, 2) := by decide +kernel
theorem dL_does_162 : decode cL_does 162 = .ok (.iload 5, 2) := by decide +kernel
theorem dL_does_164 : decode cL_does 164 = .ok (.iload 6, 2) := by decide +kernel
theorem dL_does_166 : decode cL_does 166 = .ok (.iload 7, 2) := by decide +kernel
theorem dL_does_168 : decode cL_does 168 = .ok (.invokevirtual 38, 3) := by decide +kernel
theorem dL_does_171 : decode cL_does 171 = .ok (.goto 189, 3) := by decide +kernel
theorem dL_does_174 : decode cL_does 174 = .ok (.iload_n 1, 1) := by decide +kernel
theorem dL_does_175 : decode cL_does 175 = .ok (.bipush 8, 2) := by decide +kernel
theorem dL_does_177 : decode cL_does 177 = .ok (.if_icmp .ne 10, 3) := by decide +kernel
theorem dL_does_180 : decode cL_does 180 = .ok (.aload_n 0, 1) := by decide +kernel
theorem dL_does_181 : decode cL_does 181 = .ok (.invokevirtual 42, 3) := by decide +kernel
theorem dL_does_184 : decode cL_does 184 = .ok (.goto 176, 3) := by decide +kernel
theorem dL_does_187 : decode cL_does 187 = .ok (.iload_n 1, 1) := by decide +kernel
theorem dL_does_188 : decode cL_does 188 = .ok (.bipush 9, 2) := by decide +kernel
theorem dL_does_190 : decode cL_does 190 = .ok (.if_icmp .ne 10, 3) := by decide +kernel
theorem dL_does_193 : decode cL_does 193 = .ok (.aload_n 0, 1) := by decide +kernel
theorem dL_does_194 : decode cL_does 194 = .ok (.invokevirtual 46, 3) := by decide +kernel
theorem dL_does_197 : decode cL_does 197 = .ok (.goto 163, 3) := by decide +kernel
theorem dL_does_200 : decode cL_does 200 = .ok (.iload_n 1, 1) := by decide +kernel
theorem dL_does_201 : decode cL_does 201 = .ok (.bipush 10, 2) := by decide +kernel
theorem dL_does_203 : decode cL_does 203 = .ok (.if_icmp .ne 12, 3) := by decide +kernel
theorem dL_does_206 : decode cL_does 206 = .ok (.aload_n 0, 1) := by decide +kernel
theorem dL_does_207 : decode cL_does 207 = .ok (.iload_n 2, 1) := by decide +kernel
theorem dL_does_208 : decode cL_does 208 = .ok (.iload_n 3, 1) := by decide +kernel
theorem dL_does_209 : decode cL_does 209 = .ok (.invokevirtual 49, 3) := by decide +kernel
theorem dL_does_212 : decode cL_does 212 = .ok (.goto 148, 3) := by decide +kernel
theorem dL_does_215 : decode cL_does 215 = .ok (.iload_n 1, 1) := by decide +kernel
theorem dL_does_216 : decode cL_does 216 = .ok (.bipush 11, 2) := by decide +kernel
theorem dL_does_218 : decode cL_does 218 = .ok (.if_icmp .ne 14, 3) := by decide +kernel
theorem dL_does_221 : decode cL_does 221 = .ok (.aload_n 0, 1) := by decide +kernel
theorem dL_does_222 : decode cL_does 222 = .ok (.iload_n 2, 1) := by decide +kernel
theorem dL_does_223 : decode cL_does 223 = .ok (.iload_n 3, 1) := by decide +kernel
theorem dL_does_224 : decode cL_does 224 = .ok (.iload 4, 2) := by decide +kernel
theorem dL_does_226 : decode cL_does 226 = .ok (.invokevirtual 52, 3) := by decide +kernel
theorem dL_does_229 : decode cL_does 229 = .ok (.goto 131, 3) := by decide +kernel
theorem dL_does_232 : decode cL_does 232 = .ok (.iload_n 1, 1) := by decide +kernel
theorem dL_does_233 : decode cL_does 233 = .ok (.bipush 12, 2) := by decide +kernel
theorem dL_does_235 : decode cL_does 235 = .ok (.if_icmp .ne 14, 3) := by decide +kernel
theorem dL_does_238 : decode cL_does 238 = .ok (.aload_n 0, 1) := by decide +kernel
theorem dL_does_239 : decode cL_does 239 = .ok (.iload_n 2, 1) := by decide +kernel
theorem dL_does_240 : decode cL_does 240 = .ok (.iload_n 3, 1) := by decide +kernel
theorem dL_does_241 : decode cL_does 241 = .ok (.iload 4, 2) := by decide +kernel
theorem dL_does_243 : decode cL_does 243 = .ok (.invokevirtual 55, 3) := by decide +kernel
theorem dL_does_246 : decode cL_does 246 = .ok (.goto 114, 3) := by decide +kernel
theorem dL_does_249 : decode cL_does 249 = .ok (.iload_n 1, 1) := by decide +kernel
theorem dL_does_250 : decode cL_does 250 = .ok (.bipush 13, 2) := by decide +kernel
theorem dL_does_252 : decode cL_does 252 = .ok (.if_icmp .ne 12, 3) := by decide +kernel
theorem dL_does_255 : decode cL_does 255 = .ok (.aload_n 0, 1) := by decide +kernel
theorem dL_does_256 : decode cL_does 256 = .ok (.iload_n 2, 1) := by decide +kernel
theorem dL_does_257 : decode cL_does 257 = .ok (.iload_n 3, 1) := by decide +kernel
theorem dL_does_258 : decode cL_does 258 = .ok (.invokevirtual 58, 3) := by decide +kernel
theorem dL_does_261 : decode cL_does 261 = .ok (.goto 99, 3) := by decide +kernel
theorem dL_does_264 : decode cL_does 264 = .ok (.iload_n 1, 1) := by decide +kernel
theorem dL_does_265 : decode cL_does 265 = .ok (.bipush 14, 2) := by decide +kernel
theorem dL_does_267 : decode cL_does 267 = .ok (.if_icmp .ne 12, 3) := by decide +kernel
theorem dL_does_270 : decode cL_does 270 = .ok (.aload_n 0, 1) := by decide +kernel
theorem dL_does_271 : decode cL_does 271 = .ok (.iload_n 2, 1) := by decide +kernel
theorem dL_does_272 : decode cL_does 272 = .ok (.iload_n 3, 1) := by decide +kernel
theorem dL_does_273 : decode cL_does 273 = .ok (.invokevirtual 61, 3) := by decide +kernel
theorem dL_does_276 : decode cL_does 276 = .ok (.goto 84, 3) := by decide +kernel
theorem dL_does_279 : decode cL_does 279 = .ok (.iload_n 1, 1) := by decide +kernel
theorem dL_does_280 : decode cL_does 280 = .ok (.bipush 15, 2) := by decide +kernel
theorem dL_does_282 : decode cL_does 282 = .ok (.if_icmp .ne 14, 3) := by decide +kernel
theorem dL_does_285 : decode cL_does 285 = .ok (.aload_n 0, 1) := by decide +kernel
theorem dL_does_286 : decode cL_does 286 = .ok (.iload_n 2, 1) := by decide +kernel
theorem dL_does_287 : decode cL_does 287 = .ok (.iload_n 3, 1) := by decide +kernel
theorem dL_does_288 : decode cL_does 288 = .ok (.iload 4, 2) := by decide +kernel
theorem dL_does_290 : decode cL_does 290 = .ok (.invokevirtual 64, 3) := by decide +kernel
theorem dL_does_293 : decode cL_does 293 = .ok (.goto 67, 3) := by decide +kernel
theorem dL_does_296 : decode cL_does 296 = .ok (.iload_n 1, 1) := by decide +kernel
theorem dL_does_297 : decode cL_does 297 = .ok (.bipush 16, 2) := by decide +kernel
theorem dL_does_299 : decode cL_does 299 = .ok (.if_icmp .ne 11, 3) := by decide +kernel
theorem dL_does_302 : decode cL_does 302 = .ok (.aload_n 0, 1) := by decide +kernel
theorem dL_does_303 : decode cL_does 303 = .ok (.iload_n 2, 1) := by decide +kernel
theorem dL_does_304 : decode cL_does 304 = .ok (.invokevirtual 67, 3) := by decide +kernel
theorem dL_does_307 : decode cL_does 307 = .ok (.goto 53, 3) := by decide +kernel
theorem dL_does_310 : decode cL_does 310 = .ok (.iload_n 1, 1) := by decide +kernel
theorem dL_does_311 : decode cL_does 311 = .ok (.bipush 17, 2) := by decide +kernel
theorem dL_does_313 : decode cL_does 313 = .ok (.if_icmp .ne 12, 3) := by decide +kernel
theorem dL_does_316 : decode cL_does 316 = .ok (.aload_n 0, 1) := by decide +kernel
theorem dL_does_317 : decode cL_does 317 = .ok (.iload_n 2, 1) := by decide +kernel
theorem dL_does_318 : decode cL_does 318 = .ok (.iload_n 3, 1) := by decide +kernel
theorem dL_does_319 : decode cL_does 319 = .ok (.invokevirtual 71, 3) := by decide +kernel
theorem dL_does_322 : decode cL_does 322 = .ok (.goto 38, 3) := by decide +kernel
theorem dL_does_325 : decode cL_does 325 = .ok (.iload_n 1, 1) := by decide +kernel
theorem dL_does_326 : decode cL_does 326 = .ok (.bipush 18, 2) := by decide +kernel
theorem dL_does_328 : decode cL_does 328 = .ok (.if_icmp .ne 12, 3) := by decide +kernel
theorem dL_does_331 : decode cL_does 331 = .ok (.aload_n 0, 1) := by decide +kernel
theorem dL_does_332 : decode cL_does 332 = .ok (.iload_n 2, 1) := by decide +kernel
theorem dL_does_333 : decode cL_does 333 = .ok (.iload_n 3, 1) := by decide +kernel
theorem dL_does_334 : decode cL_does 334 = .ok (.invokevirtual 73, 3) := by decide +kernel
theorem dL_does_337 : decode cL_does 337 = .ok (.goto 23, 3) := by decide +kernel
theorem dL_does_340 : decode cL_does 340 = .ok (.iload_n 1, 1) := by decide +kernel
theorem dL_does_341 : decode cL_does 341 = .ok (.bipush 19, 2) := by decide +kernel
theorem dL_does_343 : decode cL_does 343 = .ok (.if_icmp .ne 12, 3) := by decide +kernel
theorem dL_does_346 : decode cL_does 346 = .ok (.aload_n 0, 1) := by decide +kernel
theorem dL_does_347 : decode cL_does 347 = .ok (.iload_n 2, 1) := by decide +kernel
theorem dL_does_348 : decode cL_does 348 = .ok (.iload_n 3, 1) := by decide +kernel
theorem dL_does_349 : decode cL_does 349 = .ok (.invokevirtual 76, 3) := by decide +kernel
theorem dL_does_352 : decode cL_does 352 = .ok (.goto 8, 3) := by decide +kernel
theorem dL_does_355 : decode cL_does 355 = .ok (.aload_n 0, 1) := by decide +kernel
theorem dL_does_356 : decode cL_does 356 = .ok (.iload_n 2, 1) := by decide +kernel
theorem dL_does_357 : decode cL_does 357 = .ok (.invokevirtual 79, 3) := by decide +kernel
theorem dL_does_360 : decode cL_does 360 = .ok (.ireturn, 1) := by decide +kernel
theorem dL_does_361 : decode cL_does 361 = .ok (.astore 8, 2) := by decide +kernel
theorem dL_does_363 : decode cL_does 363 = .ok (.ldc 84, 2) := by decide +kernel
theorem dL_does_365 : decode cL_does 365 = .ok (.ireturn, 1) := by decide +kernel
theorem dL_does_366 : decode cL_does 366 = .ok (.astore 8, 2) := by decide +kernel
theorem dL_does_368 : decode cL_does 368 = .ok (.ldc 87, 2) := by decide +kernel
theorem dL_does_370 : decode cL_does 370 = .ok (.ireturn, 1) := by decide +kernel
theorem dL_does_371 : decode cL_does 371 = .ok (.astore 8, 2) := by decide +kernel
theorem dL_does_373 : decode cL_does 373 = .ok (.ldc 90, 2) := by decide +kernel
theorem dL_does_375 : decode cL_does 375 = .ok (.ireturn, 1) := by decide +kernel
theorem dL_told_0 : decode cL_told 0 = .ok (.aload_n 0, 1) := by decide +kernel
theorem dL_told_1 : decode cL_told 1 = .ok (.iload_n 1, 1) := by decide +kernel
theorem dL_told_2 : decode cL_told 2 = .ok (.iload_n 2, 1) := by decide +kernel
theorem dL_told_3 : decode cL_told 3 = .ok (.iload_n 3, 1) := by decide +kernel
theorem dL_told_4 : decode cL_told 4 = .ok (.iload 4, 2) := by decide +kernel
theorem dL_told_6 : decode cL_told 6 = .ok (.invokevirtual 91, 3) := by decide +kernel
theorem dL_told_9 : decode cL_told 9 = .ok (.iconst 0, 1) := by decide +kernel
theorem dL_told_10 : decode cL_told 10 = .ok (.ireturn, 1) := by decide +kernel
theorem dL_how_0 : decode cL_how 0 = .ok (.aload_n 0, 1) := by decide +kernel
theorem dL_how_1 : decode cL_how 1 = .ok (.iload_n 1, 1) := by decide +kernel
theorem dL_how_2 : decode cL_how 2 = .ok (.iaload, 1) := by decide +kernel
theorem dL_how_3 : decode cL_how 3 = .ok (.sipush 2048, 3) := by decide +kernel
theorem dL_how_6 : decode cL_how 6 = .ok (.idiv, 1) := by decide +kernel
theorem dL_how_7 : decode cL_how 7 = .ok (.bipush 8, 2) := by decide +kernel
theorem dL_how_9 : decode cL_how 9 = .ok (.irem, 1) := by decide +kernel
theorem dL_how_10 : decode cL_how 10 = .ok (.ireturn, 1) := by decide +kernel
theorem dL_becomes_0 : decode cL_becomes 0 = .ok (.aload_n 0, 1) := by decide +kernel
theorem dL_becomes_1 : decode cL_becomes 1 = .ok (.iload_n 1, 1) := by decide +kernel
theorem dL_becomes_2 : decode cL_becomes 2 = .ok (.dup2, 1) := by decide +kernel
theorem dL_becomes_3 : decode cL_becomes 3 = .ok (.iaload, 1) := by decide +kernel
theorem dL_becomes_4 : decode cL_becomes 4 = .ok (.sipush 2048, 3) := by decide +kernel
theorem dL_becomes_7 : decode cL_becomes 7 = .ok (.iload_n 2, 1) := by decide +kernel
theorem dL_becomes_8 : decode cL_becomes 8 = .ok (.aload_n 0, 1) := by decide +kernel
theorem dL_becomes_9 : decode cL_becomes 9 = .ok (.iload_n 1, 1) := by decide +kernel
theorem dL_becomes_10 : decode cL_becomes 10 = .ok (.invokestatic 95, 3) := by decide +kernel
theorem dL_becomes_13 : decode cL_becomes 13 = .ok (.isub, 1) := by decide +kernel
theorem dL_becomes_14 : decode cL_becomes 14 = .ok (.imul, 1) := by decide +kernel
theorem dL_becomes_15 : decode cL_becomes 15 = .ok (.iadd, 1) := by decide +kernel
theorem dL_becomes_16 : decode cL_becomes 16 = .ok (.iastore, 1) := by decide +kernel
theorem dL_becomes_17 : decode cL_becomes 17 = .ok (.return_, 1) := by decide +kernel
theorem dL_isLeft_0 : decode cL_isLeft 0 = .ok (.aload_n 1, 1) := by decide +kernel
theorem dL_isLeft_1 : decode cL_isLeft 1 = .ok (.iload_n 2, 1) := by decide +kernel
theorem dL_isLeft_2 : decode cL_isLeft 2 = .ok (.iaload, 1) := by decide +kernel
theorem dL_isLeft_3 : decode cL_isLeft 3 = .ok (.iload_n 3, 1) := by decide +kernel
theorem dL_isLeft_4 : decode cL_isLeft 4 = .ok (.if_icmp .ne 16, 3) := by decide +kernel
theorem dL_isLeft_7 : decode cL_isLeft 7 = .ok (.aload_n 0, 1) := by decide +kernel
theorem dL_isLeft_8 : decode cL_isLeft 8 = .ok (.iload_n 2, 1) := by decide +kernel
theorem dL_isLeft_9 : decode cL_isLeft 9 = .ok (.invokestatic 95, 3) := by decide +kernel
theorem dL_isLeft_12 : decode cL_isLeft 12 = .ok (.iconst 2, 1) := by decide +kernel
theorem dL_isLeft_13 : decode cL_isLeft 13 = .ok (.if_icmp .ne 7, 3) := by decide +kernel
theorem dL_isLeft_16 : decode cL_isLeft 16 = .ok (.iconst 1, 1) := by decide +kernel
theorem dL_isLeft_17 : decode cL_isLeft 17 = .ok (.goto 4, 3) := by decide +kernel
theorem dL_isLeft_20 : decode cL_isLeft 20 = .ok (.iconst 0, 1) := by decide +kernel
theorem dL_isLeft_21 : decode cL_isLeft 21 = .ok (.ireturn, 1) := by decide +kernel
theorem dL_left_0 : decode cL_left 0 = .ok (.iconst 0, 1) := by decide +kernel
theorem dL_left_1 : decode cL_left 1 = .ok (.istore 4, 2) := by decide +kernel
theorem dL_left_3 : decode cL_left 3 = .ok (.iconst 0, 1) := by decide +kernel
theorem dL_left_4 : decode cL_left 4 = .ok (.istore 5, 2) := by decide +kernel
theorem dL_left_6 : decode cL_left 6 = .ok (.iload 5, 2) := by decide +kernel
theorem dL_left_8 : decode cL_left 8 = .ok (.aload_n 2, 1) := by decide +kernel
theorem dL_left_9 : decode cL_left 9 = .ok (.iconst 4, 1) := by decide +kernel
theorem dL_left_10 : decode cL_left 10 = .ok (.iaload, 1) := by decide +kernel
theorem dL_left_11 : decode cL_left 11 = .ok (.if_icmp .ge 30, 3) := by decide +kernel
theorem dL_left_14 : decode cL_left 14 = .ok (.iload 4, 2) := by decide +kernel
theorem dL_left_16 : decode cL_left 16 = .ok (.aload_n 0, 1) := by decide +kernel
theorem dL_left_17 : decode cL_left 17 = .ok (.aload_n 1, 1) := by decide +kernel
theorem dL_left_18 : decode cL_left 18 = .ok (.iload 5, 2) := by decide +kernel
theorem dL_left_20 : decode cL_left 20 = .ok (.iload_n 3, 1) := by decide +kernel
theorem dL_left_21 : decode cL_left 21 = .ok (.invokestatic 99, 3) := by decide +kernel
theorem dL_left_24 : decode cL_left 24 = .ok (.ifCond .eq 7, 3) := by decide +kernel
theorem dL_left_27 : decode cL_left 27 = .ok (.iconst 1, 1) := by decide +kernel
theorem dL_left_28 : decode cL_left 28 = .ok (.goto 4, 3) := by decide +kernel
theorem dL_left_31 : decode cL_left 31 = .ok (.iconst 0, 1) := by decide +kernel
theorem dL_left_32 : decode cL_left 32 = .ok (.iadd, 1) := by decide +kernel
theorem dL_left_33 : decode cL_left 33 = .ok (.istore 4, 2) := by decide +kernel
theorem dL_left_35 : decode cL_left 35 = .ok (.iinc 5 1, 3) := by decide +kernel
theorem dL_left_38 : decode cL_left 38 = .ok (.goto (-32), 3) := by decide +kernel
theorem dL_left_41 : decode cL_left 41 = .ok (.iload 4, 2) := by decide +kernel
theorem dL_left_43 : decode cL_left 43 = .ok (.ireturn, 1) := by decide +kernel
theorem dL_first_0 : decode cL_first 0 = .ok (.iconst 0, 1) := by decide +kernel
theorem dL_first_1 : decode cL_first 1 = .ok (.istore 4, 2) := by decide +kernel
theorem dL_first_3 : decode cL_first 3 = .ok (.iload 4, 2) := by decide +kernel
theorem dL_first_5 : decode cL_first 5 = .ok (.aload_n 2, 1) := by decide +kernel
theorem dL_first_6 : decode cL_first 6 = .ok (.iconst 4, 1) := by decide +kernel
theorem dL_first_7 : decode cL_first 7 = .ok (.iaload, 1) := by decide +kernel
theorem dL_first_8 : decode cL_first 8 = .ok (.iconst 1, 1) := by decide +kernel
theorem dL_first_9 : decode cL_first 9 = .ok (.isub, 1) := by decide +kernel
theorem dL_first_10 : decode cL_first 10 = .ok (.if_icmp .ge 20, 3) := by decide +kernel
theorem dL_first_13 : decode cL_first 13 = .ok (.aload_n 0, 1) := by decide +kernel
theorem dL_first_14 : decode cL_first 14 = .ok (.aload_n 1, 1) := by decide +kernel
theorem dL_first_15 : decode cL_first 15 = .ok (.iload 4, 2) := by decide +kernel
theorem dL_first_17 : decode cL_first 17 = .ok (.iload_n 3, 1) := by decide +kernel
theorem dL_first_18 : decode cL_first 18 = .ok (.invokestatic 99, 3) := by decide +kernel
theorem dL_first_21 : decode cL_first 21 = .ok (.ifCond .ne 9, 3) := by decide +kernel
theorem dL_first_24 : decode cL_first 24 = .ok (.iinc 4 1, 3) := by decide +kernel
theorem dL_first_27 : decode cL_first 27 = .ok (.goto (-24), 3) := by decide +kernel
theorem dL_first_30 : decode cL_first 30 = .ok (.iload 4, 2) := by decide +kernel
theorem dL_first_32 : decode cL_first 32 = .ok (.ireturn, 1) := by decide +kernel
theorem dL_begins_0 : decode cL_begins 0 = .ok (.iconst 0, 1) := by decide +kernel
theorem dL_begins_1 : decode cL_begins 1 = .ok (.istore_n 2, 1) := by decide +kernel
theorem dL_begins_2 : decode cL_begins 2 = .ok (.iload_n 2, 1) := by decide +kernel
theorem dL_begins_3 : decode cL_begins 3 = .ok (.bipush 8, 2) := by decide +kernel
theorem dL_begins_5 : decode cL_begins 5 = .ok (.if_icmp .ge 18, 3) := by decide +kernel
theorem dL_begins_8 : decode cL_begins 8 = .ok (.aload_n 0, 1) := by decide +kernel
theorem dL_begins_9 : decode cL_begins 9 = .ok (.bipush 8, 2) := by decide +kernel
theorem dL_begins_11 : decode cL_begins 11 = .ok (.iload_n 1, 1) := by decide +kernel
theorem dL_begins_12 : decode cL_begins 12 = .ok (.imul, 1) := by decide +kernel
theorem dL_begins_13 : decode cL_begins 13 = .ok (.iload_n 2, 1) := by decide +kernel
theorem dL_begins_14 : decode cL_begins 14 = .ok (.iadd, 1) := by decide +kernel
theorem dL_begins_15 : decode cL_begins 15 = .ok (.iconst (-1), 1) := by decide +kernel
theorem dL_begins_16 : decode cL_begins 16 = .ok (.iastore, 1) := by decide +kernel
theorem dL_begins_17 : decode cL_begins 17 = .ok (.iinc 2 1, 3) := by decide +kernel
theorem dL_begins_20 : decode cL_begins 20 = .ok (.goto (-18), 3) := by decide +kernel
theorem dL_begins_23 : decode cL_begins 23 = .ok (.return_, 1) := by decide +kernel
theorem dL_comes_0 : decode cL_comes 0 = .ok (.iconst 0, 1) := by decide +kernel
theorem dL_comes_1 : decode cL_comes 1 = .ok (.istore 5, 2) := by decide +kernel
theorem dL_comes_3 : decode cL_comes 3 = .ok (.iload 5, 2) := by decide +kernel
theorem dL_comes_5 : decode cL_comes 5 = .ok (.aload_n 3, 1) := by decide +kernel
theorem dL_comes_6 : decode cL_comes 6 = .ok (.iconst 5, 1) := by decide +kernel
theorem dL_comes_7 : decode cL_comes 7 = .ok (.iaload, 1) := by decide +kernel
theorem dL_comes_8 : decode cL_comes 8 = .ok (.if_icmp .ge 34, 3) := by decide +kernel
theorem dL_comes_11 : decode cL_comes 11 = .ok (.aload_n 0, 1) := by decide +kernel
theorem dL_comes_12 : decode cL_comes 12 = .ok (.iload 5, 2) := by decide +kernel
theorem dL_comes_14 : decode cL_comes 14 = .ok (.iaload, 1) := by decide +kernel
theorem dL_comes_15 : decode cL_comes 15 = .ok (.sipush 2048, 3) := by decide +kernel
theorem dL_comes_18 : decode cL_comes 18 = .ok (.idiv, 1) := by decide +kernel
theorem dL_comes_19 : decode cL_comes 19 = .ok (.iconst 4, 1) := by decide +kernel
theorem dL_comes_20 : decode cL_comes 20 = .ok (.irem, 1) := by decide +kernel
theorem dL_comes_21 : decode cL_comes 21 = .ok (.iload 4, 2) := by decide +kernel
theorem dL_comes_23 : decode cL_comes 23 = .ok (.if_icmp .ne 13, 3) := by decide +kernel
theorem dL_comes_26 : decode cL_comes 26 = .ok (.aload_n 0, 1) := by decide +kernel
theorem dL_comes_27 : decode cL_comes 27 = .ok (.iload 5, 2) := by decide +kernel
theorem dL_comes_29 : decode cL_comes 29 = .ok (.iaload, 1) := by decide +kernel
theorem dL_comes_30 : decode cL_comes 30 = .ok (.sipush 8191, 3) := by decide +kernel
theorem dL_comes_33 : decode cL_comes 33 = .ok (.if_icmp .le 9, 3) := by decide +kernel
theorem dL_comes_36 : decode cL_comes 36 = .ok (.iinc 5 1, 3) := by decide +kernel
theorem dL_comes_39 : decode cL_comes 39 = .ok (.goto (-36), 3) := by decide +kernel
theorem dL_comes_42 : decode cL_comes 42 = .ok (.iload 5, 2) := by decide +kernel
theorem dL_comes_44 : decode cL_comes 44 = .ok (.aload_n 3, 1) := by decide +kernel
theorem dL_comes_45 : decode cL_comes 45 = .ok (.iconst 5, 1) := by decide +kernel
theorem dL_comes_46 : decode cL_comes 46 = .ok (.iaload, 1) := by decide +kernel
theorem dL_comes_47 : decode cL_comes 47 = .ok (.if_icmp .ge 7, 3) := by decide +kernel
theorem dL_comes_50 : decode cL_comes 50 = .ok (.iconst 1, 1) := by decide +kernel
theorem dL_comes_51 : decode cL_comes 51 = .ok (.goto 4, 3) := by decide +kernel
theorem dL_comes_54 : decode cL_comes 54 = .ok (.iconst 0, 1) := by decide +kernel
theorem dL_comes_55 : decode cL_comes 55 = .ok (.istore 6, 2) := by decide +kernel
theorem dL_comes_57 : decode cL_comes 57 = .ok (.aload_n 1, 1) := by decide +kernel
theorem dL_comes_58 : decode cL_comes 58 = .ok (.bipush 8, 2) := by decide +kernel
theorem dL_comes_60 : decode cL_comes 60 = .ok (.iload 4, 2) := by decide +kernel
theorem dL_comes_62 : decode cL_comes 62 = .ok (.imul, 1) := by decide +kernel
theorem dL_comes_63 : decode cL_comes 63 = .ok (.iload 6, 2) := by decide +kernel
theorem dL_comes_65 : decode cL_comes 65 = .ok (.ifCond .eq 7, 3) := by decide +kernel
theorem dL_comes_68 : decode cL_comes 68 = .ok (.iconst 1, 1) := by decide +kernel
theorem dL_comes_69 : decode cL_comes 69 = .ok (.goto 4, 3) := by decide +kernel
theorem dL_comes_72 : decode cL_comes 72 = .ok (.iconst 0, 1) := by decide +kernel
theorem dL_comes_73 : decode cL_comes 73 = .ok (.iastore, 1) := by decide +kernel
theorem dL_comes_74 : decode cL_comes 74 = .ok (.aload_n 1, 1) := by decide +kernel
theorem dL_comes_75 : decode cL_comes 75 = .ok (.bipush 8, 2) := by decide +kernel
theorem dL_comes_77 : decode cL_comes 77 = .ok (.iload 4, 2) := by decide +kernel
theorem dL_comes_79 : decode cL_comes 79 = .ok (.imul, 1) := by decide +kernel
theorem dL_comes_80 : decode cL_comes 80 = .ok (.iconst 1, 1) := by decide +kernel
theorem dL_comes_81 : decode cL_comes 81 = .ok (.iadd, 1) := by decide +kernel
theorem dL_comes_82 : decode cL_comes 82 = .ok (.iload 6, 2) := by decide +kernel
theorem dL_comes_84 : decode cL_comes 84 = .ok (.ifCond .eq 8, 3) := by decide +kernel
theorem dL_comes_87 : decode cL_comes 87 = .ok (.iload 5, 2) := by decide +kernel
theorem dL_comes_89 : decode cL_comes 89 = .ok (.goto 4, 3) := by decide +kernel
theorem dL_comes_92 : decode cL_comes 92 = .ok (.iconst (-1), 1) := by decide +kernel
theorem dL_comes_93 : decode cL_comes 93 = .ok (.iastore, 1) := by decide +kernel
theorem dL_comes_94 : decode cL_comes 94 = .ok (.aload_n 1, 1) := by decide +kernel
theorem dL_comes_95 : decode cL_comes 95 = .ok (.bipush 8, 2) := by decide +kernel
theorem dL_comes_97 : decode cL_comes 97 = .ok (.iload 4, 2) := by decide +kernel
theorem dL_comes_99 : decode cL_comes 99 = .ok (.imul, 1) := by decide +kernel
theorem dL_comes_100 : decode cL_comes 100 = .ok (.iconst 2, 1) := by decide +kernel
theorem dL_comes_101 : decode cL_comes 101 = .ok (.iadd, 1) := by decide +kernel
theorem dL_comes_102 : decode cL_comes 102 = .ok (.iload 6, 2) := by decide +kernel
theorem dL_comes_104 : decode cL_comes 104 = .ok (.ifCond .eq 32, 3) := by decide +kernel
theorem dL_comes_107 : decode cL_comes 107 = .ok (.aload_n 3, 1) := by decide +kernel
theorem dL_comes_108 : decode cL_comes 108 = .ok (.bipush 8, 2) := by decide +kernel
theorem dL_comes_110 : decode cL_comes 110 = .ok (.aload_n 0, 1) := by decide +kernel
theorem dL_comes_111 : decode cL_comes 111 = .ok (.iload 5, 2) := by decide +kernel
theorem dL_comes_113 : decode cL_comes 113 = .ok (.aload_n 3, 1) := by decide +kernel
theorem dL_comes_114 : decode cL_comes 114 = .ok (.iconst 5, 1) := by decide +kernel
theorem dL_comes_115 : decode cL_comes 115 = .ok (.iaload, 1) := by decide +kernel
theorem dL_comes_116 : decode cL_comes 116 = .ok (.if_icmp .ge 8, 3) := by decide +kernel
theorem dL_comes_119 : decode cL_comes 119 = .ok (.iload 5, 2) := by decide +kernel
theorem dL_comes_121 : decode cL_comes 121 = .ok (.goto 4, 3) := by decide +kernel
theorem dL_comes_124 : decode cL_comes 124 = .ok (.iconst 0, 1) := by decide +kernel
theorem dL_comes_125 : decode cL_comes 125 = .ok (.iaload, 1) := by decide +kernel
theorem dL_comes_126 : decode cL_comes 126 = .ok (.bipush 8, 2) := by decide +kernel
theorem dL_comes_128 : decode cL_comes 128 = .ok (.idiv, 1) := by decide +kernel
theorem dL_comes_129 : decode cL_comes 129 = .ok (.iconst 4, 1) := by decide +kernel
theorem dL_comes_130 : decode cL_comes 130 = .ok (.irem, 1) := by decide +kernel
theorem dL_comes_131 : decode cL_comes 131 = .ok (.iadd, 1) := by decide +kernel
theorem dL_comes_132 : decode cL_comes 132 = .ok (.iaload, 1) := by decide +kernel
theorem dL_comes_133 : decode cL_comes 133 = .ok (.goto 4, 3) := by decide +kernel
theorem dL_comes_136 : decode cL_comes 136 = .ok (.iconst 0, 1) := by decide +kernel
theorem dL_comes_137 : decode cL_comes 137 = .ok (.iastore, 1) := by decide +kernel
theorem dL_comes_138 : decode cL_comes 138 = .ok (.aload_n 1, 1) := by decide +kernel
theorem dL_comes_139 : decode cL_comes 139 = .ok (.bipush 8, 2) := by decide +kernel
theorem dL_comes_141 : decode cL_comes 141 = .ok (.iload 4, 2) := by decide +kernel
theorem dL_comes_143 : decode cL_comes 143 = .ok (.imul, 1) := by decide +kernel
theorem dL_comes_144 : decode cL_comes 144 = .ok (.iconst 4, 1) := by decide +kernel
theorem dL_comes_145 : decode cL_comes 145 = .ok (.iadd, 1) := by decide +kernel
theorem dL_comes_146 : decode cL_comes 146 = .ok (.iconst (-1), 1) := by decide +kernel
theorem dL_comes_147 : decode cL_comes 147 = .ok (.iastore, 1) := by decide +kernel
theorem dL_comes_148 : decode cL_comes 148 = .ok (.aload_n 2, 1) := by decide +kernel
theorem dL_comes_149 : decode cL_comes 149 = .ok (.iload 4, 2) := by decide +kernel
theorem dL_comes_151 : decode cL_comes 151 = .ok (.invokestatic 103, 3) := by decide +kernel
theorem dL_comes_154 : decode cL_comes 154 = .ok (.return_, 1) := by decide +kernel
theorem dL_withdraws_0 : decode cL_withdraws 0 = .ok (.iconst 0, 1) := by decide +kernel
theorem dL_withdraws_1 : decode cL_withdraws 1 = .ok (.istore 6, 2) := by decide +kernel
theorem dL_withdraws_3 : decode cL_withdraws 3 = .ok (.iconst 0, 1) := by decide +kernel
theorem dL_withdraws_4 : decode cL_withdraws 4 = .ok (.istore 7, 2) := by decide +kernel
theorem dL_withdraws_6 : decode cL_withdraws 6 = .ok (.iload 7, 2) := by decide +kernel
theorem dL_withdraws_8 : decode cL_withdraws 8 = .ok (.aload_n 3, 1) := by decide +kernel
theorem dL_withdraws_9 : decode cL_withdraws 9 = .ok (.iconst 4, 1) := by decide +kernel
theorem dL_withdraws_10 : decode cL_withdraws 10 = .ok (.iaload, 1) := by decide +kernel
theorem dL_withdraws_11 : decode cL_withdraws 11 = .ok (.if_icmp .ge 190, 3) := by decide +kernel
theorem dL_withdraws_14 : decode cL_withdraws 14 = .ok (.aload_n 0, 1) := by decide +kernel
theorem dL_withdraws_15 : decode cL_withdraws 15 = .ok (.aload_n 2, 1) := by decide +kernel
theorem dL_withdraws_16 : decode cL_withdraws 16 = .ok (.iload 7, 2) := by decide +kernel
theorem dL_withdraws_18 : decode cL_withdraws 18 = .ok (.iload 5, 2) := by decide +kernel
theorem dL_withdraws_20 : decode cL_withdraws 20 = .ok (.invokestatic 99, 3) := by decide +kernel
theorem dL_withdraws_23 : decode cL_withdraws 23 = .ok (.ifCond .eq 172, 3) := by decide +kernel
theorem dL_withdraws_26 : decode cL_withdraws 26 = .ok (.aload_n 0, 1) := by decide +kernel
theorem dL_withdraws_27 : decode cL_withdraws 27 = .ok (.iload 7, 2) := by decide +kernel
theorem dL_withdraws_29 : decode cL_withdraws 29 = .ok (.iaload, 1) := by decide +kernel
theorem dL_withdraws_30 : decode cL_withdraws 30 = .ok (.bipush 8, 2) := by decide +kernel
theorem dL_withdraws_32 : decode cL_withdraws 32 = .ok (.irem, 1) := by decide +kernel
theorem dL_withdraws_33 : decode cL_withdraws 33 = .ok (.istore 8, 2) := by decide +kernel
theorem dL_withdraws_35 : decode cL_withdraws 35 = .ok (.aload_n 1, 1) := by decide +kernel
theorem dL_withdraws_36 : decode cL_withdraws 36 = .ok (.iload 7, 2) := by decide +kernel
theorem dL_withdraws_38 : decode cL_withdraws 38 = .ok (.iaload, 1) := by decide +kernel
theorem dL_withdraws_39 : decode cL_withdraws 39 = .ok (.sipush 128, 3) := by decide +kernel
theorem dL_withdraws_42 : decode cL_withdraws 42 = .ok (.irem, 1) := by decide +kernel
theorem dL_withdraws_43 : decode cL_withdraws 43 = .ok (.istore 9, 2) := by decide +kernel
theorem dL_withdraws_45 : decode cL_withdraws 45 = .ok (.aload 4, 2) := by decide +kernel
theorem dL_withdraws_47 : decode cL_withdraws 47 = .ok (.iload 8, 2) := by decide +kernel
theorem dL_withdraws_49 : decode cL_withdraws 49 = .ok (.iaload, 1) := by decide +kernel
theorem dL_withdraws_50 : decode cL_withdraws 50 = .ok (.iload 9, 2) := by decide +kernel
theorem dL_withdraws_52 : decode cL_withdraws 52 = .ok (.if_icmp .lt 7, 3) := by decide +kernel
theorem dL_withdraws_55 : decode cL_withdraws 55 = .ok (.iconst 1, 1) := by decide +kernel
theorem dL_withdraws_56 : decode cL_withdraws 56 = .ok (.goto 4, 3) := by decide +kernel
theorem dL_withdraws_59 : decode cL_withdraws 59 = .ok (.iconst 0, 1) := by decide +kernel
theorem dL_withdraws_60 : decode cL_withdraws 60 = .ok (.istore 10, 2) := by decide +kernel
theorem dL_withdraws_62 : decode cL_withdraws 62 = .ok (.iload 10, 2) := by decide +kernel
theorem dL_withdraws_64 : decode cL_withdraws 64 = .ok (.ifCond .ne 35, 3) := by decide +kernel
theorem dL_withdraws_67 : decode cL_withdraws 67 = .ok (.aload_n 0, 1) := by decide +kernel
theorem dL_withdraws_68 : decode cL_withdraws 68 = .ok (.iload 7, 2) := by decide +kernel
theorem dL_withdraws_70 : decode cL_withdraws 70 = .ok (.iaload, 1) := by decide +kernel
theorem dL_withdraws_71 : decode cL_withdraws 71 = .ok (.sipush 16384, 3) := by decide +kernel
theorem dL_withdraws_74 : decode cL_withdraws 74 = .ok (.idiv, 1) := by decide +kernel
theorem dL_withdraws_75 : decode cL_withdraws 75 = .ok (.iconst 2, 1) := by decide +kernel
theorem dL_withdraws_76 : decode cL_withdraws 76 = .ok (.irem, 1) := by decide +kernel
theorem dL_withdraws_77 : decode cL_withdraws 77 = .ok (.ifCond .ne 22, 3) := by decide +kernel
theorem dL_withdraws_80 : decode cL_withdraws 80 = .ok (.aload_n 0, 1) := by decide +kernel
theorem dL_withdraws_81 : decode cL_withdraws 81 = .ok (.iload 7, 2) := by decide +kernel
theorem dL_withdraws_83 : decode cL_withdraws 83 = .ok (.iaload, 1) := by decide +kernel
theorem dL_withdraws_84 : decode cL_withdraws 84 = .ok (.sipush 128, 3) := by decide +kernel
theorem dL_withdraws_87 : decode cL_withdraws 87 = .ok (.idiv, 1) := by decide +kernel
theorem dL_withdraws_88 : decode cL_withdraws 88 = .ok (.bipush 16, 2) := by decide +kernel
theorem dL_withdraws_90 : decode cL_withdraws 90 = .ok (.irem, 1) := by decide +kernel
theorem dL_withdraws_91 : decode cL_withdraws 91 = .ok (.iconst 1, 1) := by decide +kernel
theorem dL_withdraws_92 : decode cL_withdraws 92 = .ok (.if_icmp .le 7, 3) := by decide +kernel
theorem dL_withdraws_95 : decode cL_withdraws 95 = .ok (.iconst 1, 1) := by decide +kernel
theorem dL_withdraws_96 : decode cL_withdraws 96 = .ok (.goto 4, 3) := by decide +kernel
theorem dL_withdraws_99 : decode cL_withdraws 99 = .ok (.iconst 0, 1) := by decide +kernel
theorem dL_withdraws_100 : decode cL_withdraws 100 = .ok (.istore 11, 2) := by decide +kernel
theorem dL_withdraws_102 : decode cL_withdraws 102 = .ok (.aload 4, 2) := by decide +kernel
theorem dL_withdraws_104 : decode cL_withdraws 104 = .ok (.iload 8, 2) := by decide +kernel
theorem dL_withdraws_106 : decode cL_withdraws 106 = .ok (.dup2, 1) := by decide +kernel
theorem dL_withdraws_107 : decode cL_withdraws 107 = .ok (.iaload, 1) := by decide +kernel
theorem dL_withdraws_108 : decode cL_withdraws 108 = .ok (.iload 10, 2) := by decide +kernel
theorem dL_withdraws_110 : decode cL_withdraws 110 = .ok (.ifCond .eq 8, 3) := by decide +kernel
theorem dL_withdraws_113 : decode cL_withdraws 113 = .ok (.iload 9, 2) := by decide +kernel
theorem dL_withdraws_115 : decode cL_withdraws 115 = .ok (.goto 4, 3) := by decide +kernel
theorem dL_withdraws_118 : decode cL_withdraws 118 = .ok (.iconst 0, 1) := by decide +kernel
theorem dL_withdraws_119 : decode cL_withdraws 119 = .ok (.isub, 1) := by decide +kernel
theorem dL_withdraws_120 : decode cL_withdraws 120 = .ok (.iastore, 1) := by decide +kernel
theorem dL_withdraws_121 : decode cL_withdraws 121 = .ok (.aload 4, 2) := by decide +kernel
theorem dL_withdraws_123 : decode cL_withdraws 123 = .ok (.bipush 16, 2) := by decide +kernel
theorem dL_withdraws_125 : decode cL_withdraws 125 = .ok (.iload 8, 2) := by decide +kernel
theorem dL_withdraws_127 : decode cL_withdraws 127 = .ok (.iadd, 1) := by decide +kernel
theorem dL_withdraws_128 : decode cL_withdraws 128 = .ok (.dup2, 1) := by decide +kernel
theorem dL_withdraws_129 : decode cL_withdraws 129 = .ok (.iaload, 1) := by decide +kernel
theorem dL_withdraws_130 : decode cL_withdraws 130 = .ok (.iload 10, 2) := by decide +kernel
theorem dL_withdraws_132 : decode cL_withdraws 132 = .ok (.ifCond .eq 11, 3) := by decide +kernel
theorem dL_withdraws_135 : decode cL_withdraws 135 = .ok (.bipush 20, 2) := by decide +kernel
theorem dL_withdraws_137 : decode cL_withdraws 137 = .ok (.iload 9, 2) := by decide +kernel
theorem dL_withdraws_139 : decode cL_withdraws 139 = .ok (.imul, 1) := by decide +kernel
theorem dL_withdraws_140 : decode cL_withdraws 140 = .ok (.goto 4, 3) := by decide +kernel
theorem dL_withdraws_143 : decode cL_withdraws 143 = .ok (.iconst 0, 1) := by decide +kernel
theorem dL_withdraws_144 : decode cL_withdraws 144 = .ok (.iadd, 1) := by decide +kernel
theorem dL_withdraws_145 : decode cL_withdraws 145 = .ok (.iastore, 1) := by decide +kernel
theorem dL_withdraws_146 : decode cL_withdraws 146 = .ok (.aload_n 0, 1) := by decide +kernel
theorem dL_withdraws_147 : decode cL_withdraws 147 = .ok (.iload 7, 2) := by decide +kernel
theorem dL_withdraws_149 : decode cL_withdraws 149 = .ok (.iload 10, 2) := by decide +kernel
theorem dL_withdraws_151 : decode cL_withdraws 151 = .ok (.ifCond .eq 7, 3) := by decide +kernel
theorem dL_withdraws_154 : decode cL_withdraws 154 = .ok (.iconst 5, 1) := by decide +kernel
theorem dL_withdraws_155 : decode cL_withdraws 155 = .ok (.goto 15, 3) := by decide +kernel
theorem dL_withdraws_158 : decode cL_withdraws 158 = .ok (.iload 11, 2) := by decide +kernel
theorem dL_withdraws_160 : decode cL_withdraws 160 = .ok (.ifCond .eq 8, 3) := by decide +kernel
theorem dL_withdraws_163 : decode cL_withdraws 163 = .ok (.bipush 6, 2) := by decide +kernel
theorem dL_withdraws_165 : decode cL_withdraws 165 = .ok (.goto 5, 3) := by decide +kernel
theorem dL_withdraws_168 : decode cL_withdraws 168 = .ok (.bipush 7, 2) := by decide +kernel
theorem dL_withdraws_170 : decode cL_withdraws 170 = .ok (.invokestatic 107, 3) := by decide +kernel
theorem dL_withdraws_173 : decode cL_withdraws 173 = .ok (.aload_n 0, 1) := by decide +kernel
theorem dL_withdraws_174 : decode cL_withdraws 174 = .ok (.iload 7, 2) := by decide +kernel
theorem dL_withdraws_176 : decode cL_withdraws 176 = .ok (.dup2, 1) := by decide +kernel
theorem dL_withdraws_177 : decode cL_withdraws 177 = .ok (.iaload, 1) := by decide +kernel
theorem dL_withdraws_178 : decode cL_withdraws 178 = .ok (.iload 11, 2) := by decide +kernel
theorem dL_withdraws_180 : decode cL_withdraws 180 = .ok (.ifCond .eq 9, 3) := by decide +kernel
theorem dL_withdraws_183 : decode cL_withdraws 183 = .ok (.sipush 16256, 3) := by decide +kernel
theorem dL_withdraws_186 : decode cL_withdraws 186 = .ok (.goto 4, 3) := by decide +kernel
theorem dL_withdraws_189 : decode cL_withdraws 189 = .ok (.iconst 0, 1) := by decide +kernel
theorem dL_withdraws_190 : decode cL_withdraws 190 = .ok (.iadd, 1) := by decide +kernel
theorem dL_withdraws_191 : decode cL_withdraws 191 = .ok (.iastore, 1) := by decide +kernel
theorem dL_withdraws_192 : decode cL_withdraws 192 = .ok (.iinc 6 1, 3) := by decide +kernel
theorem dL_withdraws_195 : decode cL_withdraws 195 = .ok (.iinc 7 1, 3) := by decide +kernel
theorem dL_withdraws_198 : decode cL_withdraws 198 = .ok (.goto (-192), 3) := by decide +kernel
theorem dL_withdraws_201 : decode cL_withdraws 201 = .ok (.iload 6, 2) := by decide +kernel
theorem dL_withdraws_203 : decode cL_withdraws 203 = .ok (.ireturn, 1) := by decide +kernel
theorem dL_done_0 : decode cL_done 0 = .ok (.aload_n 0, 1) := by decide +kernel
theorem dL_done_1 : decode cL_done 1 = .ok (.aload_n 1, 1) := by decide +kernel
theorem dL_done_2 : decode cL_done 2 = .ok (.bipush 8, 2) := by decide +kernel
theorem dL_done_4 : decode cL_done 4 = .ok (.iload 4, 2) := by decide +kernel
theorem dL_done_6 : decode cL_done 6 = .ok (.imul, 1) := by decide +kernel
theorem dL_done_7 : decode cL_done 7 = .ok (.iconst 1, 1) := by decide +kernel
theorem dL_done_8 : decode cL_done 8 = .ok (.iadd, 1) := by decide +kernel
theorem dL_done_9 : decode cL_done 9 = .ok (.iaload, 1) := by decide +kernel
theorem dL_done_10 : decode cL_done 10 = .ok (.dup2, 1) := by decide +kernel
theorem dL_done_11 : decode cL_done 11 = .ok (.iaload, 1) := by decide +kernel
theorem dL_done_12 : decode cL_done 12 = .ok (.sipush 8192, 3) := by decide +kernel
theorem dL_done_15 : decode cL_done 15 = .ok (.iadd, 1) := by decide +kernel
theorem dL_done_16 : decode cL_done 16 = .ok (.iastore, 1) := by decide +kernel
theorem dL_done_17 : decode cL_done 17 = .ok (.aload_n 0, 1) := by decide +kernel
theorem dL_done_18 : decode cL_done 18 = .ok (.aload_n 1, 1) := by decide +kernel
theorem dL_done_19 : decode cL_done 19 = .ok (.aload_n 2, 1) := by decide +kernel
theorem dL_done_20 : decode cL_done 20 = .ok (.aload_n 3, 1) := by decide +kernel
theorem dL_done_21 : decode cL_done 21 = .ok (.iload 4, 2) := by decide +kernel
theorem dL_done_23 : decode cL_done 23 = .ok (.invokestatic 111, 3) := by decide +kernel
theorem dL_done_26 : decode cL_done 26 = .ok (.return_, 1) := by decide +kernel
theorem dL_costs_0 : decode cL_costs 0 = .ok (.aload 5, 2) := by decide +kernel
theorem dL_costs_2 : decode cL_costs 2 = .ok (.bipush 8, 2) := by decide +kernel
theorem dL_costs_4 : decode cL_costs 4 = .ok (.iload 8, 2) := by decide +kernel
theorem dL_costs_6 : decode cL_costs 6 = .ok (.imul, 1) := by decide +kernel
theorem dL_costs_7 : decode cL_costs 7 = .ok (.iconst 1, 1) := by decide +kernel
theorem dL_costs_8 : decode cL_costs 8 = .ok (.iadd, 1) := by decide +kernel
theorem dL_costs_9 : decode cL_costs 9 = .ok (.iaload, 1) := by decide +kernel
theorem dL_costs_10 : decode cL_costs 10 = .ok (.istore 11, 2) := by decide +kernel
theorem dL_costs_12 : decode cL_costs 12 = .ok (.aload 5, 2) := by decide +kernel
theorem dL_costs_14 : decode cL_costs 14 = .ok (.bipush 8, 2) := by decide +kernel
theorem dL_costs_16 : decode cL_costs 16 = .ok (.iload 8, 2) := by decide +kernel
theorem dL_costs_18 : decode cL_costs 18 = .ok (.imul, 1) := by decide +kernel
theorem dL_costs_19 : decode cL_costs 19 = .ok (.iconst 2, 1) := by decide +kernel
theorem dL_costs_20 : decode cL_costs 20 = .ok (.iadd, 1) := by decide +kernel
theorem dL_costs_21 : decode cL_costs 21 = .ok (.iaload, 1) := by decide +kernel
theorem dL_costs_22 : decode cL_costs 22 = .ok (.istore 12, 2) := by decide +kernel
theorem dL_costs_24 : decode cL_costs 24 = .ok (.aload 5, 2) := by decide +kernel
theorem dL_costs_26 : decode cL_costs 26 = .ok (.bipush 8, 2) := by decide +kernel
theorem dL_costs_28 : decode cL_costs 28 = .ok (.iload 8, 2) := by decide +kernel
theorem dL_costs_30 : decode cL_costs 30 = .ok (.imul, 1) := by decide +kernel
theorem dL_costs_31 : decode cL_costs 31 = .ok (.iconst 4, 1) := by decide +kernel
theorem dL_costs_32 : decode cL_costs 32 = .ok (.iadd, 1) := by decide +kernel
theorem dL_costs_33 : decode cL_costs 33 = .ok (.iaload, 1) := by decide +kernel
theorem dL_costs_34 : decode cL_costs 34 = .ok (.istore 13, 2) := by decide +kernel
theorem dL_costs_36 : decode cL_costs 36 = .ok (.iconst 0, 1) := by decide +kernel
theorem dL_costs_37 : decode cL_costs 37 = .ok (.istore 14, 2) := by decide +kernel
theorem dL_costs_39 : decode cL_costs 39 = .ok (.iconst 0, 1) := by decide +kernel
theorem dL_costs_40 : decode cL_costs 40 = .ok (.istore 15, 2) := by decide +kernel
theorem dL_costs_42 : decode cL_costs 42 = .ok (.iconst 0, 1) := by decide +kernel
theorem dL_costs_43 : decode cL_costs 43 = .ok (.istore 16, 2) := by decide +kernel
theorem dL_costs_45 : decode cL_costs 45 = .ok (.iload 16, 2) := by decide +kernel
theorem dL_costs_47 : decode cL_costs 47 = .ok (.aload 6, 2) := by decide +kernel
theorem dL_costs_49 : decode cL_costs 49 = .ok (.iconst 4, 1) := by decide +kernel
theorem dL_costs_50 : decode cL_costs 50 = .ok (.iaload, 1) := by decide +kernel
theorem dL_costs_51 : decode cL_costs 51 = .ok (.if_icmp .ge 125, 3) := by decide +kernel
theorem dL_costs_54 : decode cL_costs 54 = .ok (.iload 15, 2) := by decide +kernel
theorem dL_costs_56 : decode cL_costs 56 = .ok (.iload 9, 2) := by decide +kernel
theorem dL_costs_58 : decode cL_costs 58 = .ok (.if_icmp .ge 118, 3) := by decide +kernel
theorem dL_costs_61 : decode cL_costs 61 = .ok (.aload_n 0, 1) := by decide +kernel
theorem dL_costs_62 : decode cL_costs 62 = .ok (.aload_n 2, 1) := by decide +kernel
theorem dL_costs_63 : decode cL_costs 63 = .ok (.iload 16, 2) := by decide +kernel
theorem dL_costs_65 : decode cL_costs 65 = .ok (.iload 11, 2) := by decide +kernel
theorem dL_costs_67 : decode cL_costs 67 = .ok (.invokestatic 99, 3) := by decide +kernel
theorem dL_costs_70 : decode cL_costs 70 = .ok (.ifCond .eq 100, 3) := by decide +kernel
theorem dL_costs_73 : decode cL_costs 73 = .ok (.aload_n 1, 1) := by decide +kernel
theorem dL_costs_74 : decode cL_costs 74 = .ok (.iload 16, 2) := by decide +kernel
theorem dL_costs_76 : decode cL_costs 76 = .ok (.iaload, 1) := by decide +kernel
theorem dL_costs_77 : decode cL_costs 77 = .ok (.sipush 128, 3) := by decide +kernel
theorem dL_costs_80 : decode cL_costs 80 = .ok (.irem, 1) := by decide +kernel
theorem dL_costs_81 : decode cL_costs 81 = .ok (.iload 12, 2) := by decide +kernel
theorem dL_costs_83 : decode cL_costs 83 = .ok (.imul, 1) := by decide +kernel
theorem dL_costs_84 : decode cL_costs 84 = .ok (.istore 17, 2) := by decide +kernel
theorem dL_costs_86 : decode cL_costs 86 = .ok (.iload 14, 2) := by decide +kernel
theorem dL_costs_88 : decode cL_costs 88 = .ok (.iload 17, 2) := by decide +kernel
theorem dL_costs_90 : decode cL_costs 90 = .ok (.iadd, 1) := by decide +kernel
theorem dL_costs_91 : decode cL_costs 91 = .ok (.istore 14, 2) := by decide +kernel
theorem dL_costs_93 : decode cL_costs 93 = .ok (.iinc 15 1, 3) := by decide +kernel
theorem dL_costs_96 : decode cL_costs 96 = .ok (.iload 10, 2) := by decide +kernel
theorem dL_costs_98 : decode cL_costs 98 = .ok (.ifCond .eq 72, 3) := by decide +kernel
theorem dL_costs_101 : decode cL_costs 101 = .ok (.aload_n 0, 1) := by decide +kernel
theorem dL_costs_102 : decode cL_costs 102 = .ok (.iload 16, 2) := by decide +kernel
theorem dL_costs_104 : decode cL_costs 104 = .ok (.iconst 3, 1) := by decide +kernel
theorem dL_costs_105 : decode cL_costs 105 = .ok (.invokestatic 107, 3) := by decide +kernel
theorem dL_costs_108 : decode cL_costs 108 = .ok (.aload_n 3, 1) := by decide +kernel
theorem dL_costs_109 : decode cL_costs 109 = .ok (.iload 16, 2) := by decide +kernel
theorem dL_costs_111 : decode cL_costs 111 = .ok (.iload 13, 2) := by decide +kernel
theorem dL_costs_113 : decode cL_costs 113 = .ok (.iconst 1, 1) := by decide +kernel
theorem dL_costs_114 : decode cL_costs 114 = .ok (.iadd, 1) := by decide +kernel
theorem dL_costs_115 : decode cL_costs 115 = .ok (.bipush 16, 2) := by decide +kernel
theorem dL_costs_117 : decode cL_costs 117 = .ok (.iload 12, 2) := by decide +kernel
theorem dL_costs_119 : decode cL_costs 119 = .ok (.imul, 1) := by decide +kernel
theorem dL_costs_120 : decode cL_costs 120 = .ok (.iadd, 1) := by decide +kernel
theorem dL_costs_121 : decode cL_costs 121 = .ok (.iastore, 1) := by decide +kernel
theorem dL_costs_122 : decode cL_costs 122 = .ok (.aload 4, 2) := by decide +kernel
theorem dL_costs_124 : decode cL_costs 124 = .ok (.iload 16, 2) := by decide +kernel
theorem dL_costs_126 : decode cL_costs 126 = .ok (.aload 6, 2) := by decide +kernel
theorem dL_costs_128 : decode cL_costs 128 = .ok (.iconst 0, 1) := by decide +kernel
theorem dL_costs_129 : decode cL_costs 129 = .ok (.iaload, 1) := by decide +kernel
theorem dL_costs_130 : decode cL_costs 130 = .ok (.ldc 115, 2) := by decide +kernel
theorem dL_costs_132 : decode cL_costs 132 = .ok (.aload 6, 2) := by decide +kernel
theorem dL_costs_134 : decode cL_costs 134 = .ok (.iconst 1, 1) := by decide +kernel
theorem dL_costs_135 : decode cL_costs 135 = .ok (.iaload, 1) := by decide +kernel
theorem dL_costs_136 : decode cL_costs 136 = .ok (.imul, 1) := by decide +kernel
theorem dL_costs_137 : decode cL_costs 137 = .ok (.iadd, 1) := by decide +kernel
theorem dL_costs_138 : decode cL_costs 138 = .ok (.iastore, 1) := by decide +kernel
theorem dL_costs_139 : decode cL_costs 139 = .ok (.aload 6, 2) := by decide +kernel
theorem dL_costs_141 : decode cL_costs 141 = .ok (.bipush 40, 2) := by decide +kernel
theorem dL_costs_143 : decode cL_costs 143 = .ok (.iload 13, 2) := by decide +kernel
theorem dL_costs_145 : decode cL_costs 145 = .ok (.iadd, 1) := by decide +kernel
theorem dL_costs_146 : decode cL_costs 146 = .ok (.dup2, 1) := by decide +kernel
theorem dL_costs_147 : decode cL_costs 147 = .ok (.iaload, 1) := by decide +kernel
theorem dL_costs_148 : decode cL_costs 148 = .ok (.iload 17, 2) := by decide +kernel
theorem dL_costs_150 : decode cL_costs 150 = .ok (.iadd, 1) := by decide +kernel
theorem dL_costs_151 : decode cL_costs 151 = .ok (.iastore, 1) := by decide +kernel
theorem dL_costs_152 : decode cL_costs 152 = .ok (.aload 7, 2) := by decide +kernel
theorem dL_costs_154 : decode cL_costs 154 = .ok (.bipush 16, 2) := by decide +kernel
theorem dL_costs_156 : decode cL_costs 156 = .ok (.aload_n 0, 1) := by decide +kernel
theorem dL_costs_157 : decode cL_costs 157 = .ok (.iload 16, 2) := by decide +kernel
theorem dL_costs_159 : decode cL_costs 159 = .ok (.iaload, 1) := by decide +kernel
theorem dL_costs_160 : decode cL_costs 160 = .ok (.bipush 8, 2) := by decide +kernel
theorem dL_costs_162 : decode cL_costs 162 = .ok (.irem, 1) := by decide +kernel
theorem dL_costs_163 : decode cL_costs 163 = .ok (.iadd, 1) := by decide +kernel
theorem dL_costs_164 : decode cL_costs 164 = .ok (.dup2, 1) := by decide +kernel
theorem dL_costs_165 : decode cL_costs 165 = .ok (.iaload, 1) := by decide +kernel
theorem dL_costs_166 : decode cL_costs 166 = .ok (.iload 17, 2) := by decide +kernel
theorem dL_costs_168 : decode cL_costs 168 = .ok (.iadd, 1) := by decide +kernel
theorem dL_costs_169 : decode cL_costs 169 = .ok (.iastore, 1) := by decide +kernel
theorem dL_costs_170 : decode cL_costs 170 = .ok (.iinc 16 1, 3) := by decide +kernel
theorem dL_costs_173 : decode cL_costs 173 = .ok (.goto (-128), 3) := by decide +kernel
theorem dL_costs_176 : decode cL_costs 176 = .ok (.iload 14, 2) := by decide +kernel
theorem dL_costs_178 : decode cL_costs 178 = .ok (.ireturn, 1) := by decide +kernel
theorem dL_goesOn_0 : decode cL_goesOn 0 = .ok (.aload_n 0, 1) := by decide +kernel
theorem dL_goesOn_1 : decode cL_goesOn 1 = .ok (.aload_n 1, 1) := by decide +kernel
theorem dL_goesOn_2 : decode cL_goesOn 2 = .ok (.aload 5, 2) := by decide +kernel
theorem dL_goesOn_4 : decode cL_goesOn 4 = .ok (.aload_n 3, 1) := by decide +kernel
theorem dL_goesOn_5 : decode cL_goesOn 5 = .ok (.bipush 8, 2) := by decide +kernel
theorem dL_goesOn_7 : decode cL_goesOn 7 = .ok (.iload 6, 2) := by decide +kernel
theorem dL_goesOn_9 : decode cL_goesOn 9 = .ok (.imul, 1) := by decide +kernel
theorem dL_goesOn_10 : decode cL_goesOn 10 = .ok (.iconst 1, 1) := by decide +kernel
theorem dL_goesOn_11 : decode cL_goesOn 11 = .ok (.iadd, 1) := by decide +kernel
theorem dL_goesOn_12 : decode cL_goesOn 12 = .ok (.iaload, 1) := by decide +kernel
theorem dL_goesOn_13 : decode cL_goesOn 13 = .ok (.invokestatic 116, 3) := by decide +kernel
theorem dL_goesOn_16 : decode cL_goesOn 16 = .ok (.ifCond .ne 17, 3) := by decide +kernel
theorem dL_goesOn_19 : decode cL_goesOn 19 = .ok (.aload_n 2, 1) := by decide +kernel
theorem dL_goesOn_20 : decode cL_goesOn 20 = .ok (.aload_n 3, 1) := by decide +kernel
theorem dL_goesOn_21 : decode cL_goesOn 21 = .ok (.aload 4, 2) := by decide +kernel
theorem dL_goesOn_23 : decode cL_goesOn 23 = .ok (.aload 5, 2) := by decide +kernel
theorem dL_goesOn_25 : decode cL_goesOn 25 = .ok (.iload 6, 2) := by decide +kernel
theorem dL_goesOn_27 : decode cL_goesOn 27 = .ok (.invokestatic 120, 3) := by decide +kernel
theorem dL_goesOn_30 : decode cL_goesOn 30 = .ok (.goto 28, 3) := by decide +kernel
theorem dL_goesOn_33 : decode cL_goesOn 33 = .ok (.aload_n 3, 1) := by decide +kernel
theorem dL_goesOn_34 : decode cL_goesOn 34 = .ok (.bipush 8, 2) := by decide +kernel
theorem dL_goesOn_36 : decode cL_goesOn 36 = .ok (.iload 6, 2) := by decide +kernel
theorem dL_goesOn_38 : decode cL_goesOn 38 = .ok (.imul, 1) := by decide +kernel
theorem dL_goesOn_39 : decode cL_goesOn 39 = .ok (.iconst 1, 1) := by decide +kernel
theorem dL_goesOn_40 : decode cL_goesOn 40 = .ok (.iastore, 1) := by decide +kernel
theorem dL_goesOn_41 : decode cL_goesOn 41 = .ok (.aload_n 3, 1) := by decide +kernel
theorem dL_goesOn_42 : decode cL_goesOn 42 = .ok (.bipush 8, 2) := by decide +kernel
theorem dL_goesOn_44 : decode cL_goesOn 44 = .ok (.iload 6, 2) := by decide +kernel
theorem dL_goesOn_46 : decode cL_goesOn 46 = .ok (.imul, 1) := by decide +kernel
theorem dL_goesOn_47 : decode cL_goesOn 47 = .ok (.iconst 4, 1) := by decide +kernel
theorem dL_goesOn_48 : decode cL_goesOn 48 = .ok (.iadd, 1) := by decide +kernel
theorem dL_goesOn_49 : decode cL_goesOn 49 = .ok (.iconst (-1), 1) := by decide +kernel
theorem dL_goesOn_50 : decode cL_goesOn 50 = .ok (.iastore, 1) := by decide +kernel
theorem dL_goesOn_51 : decode cL_goesOn 51 = .ok (.aload 4, 2) := by decide +kernel
theorem dL_goesOn_53 : decode cL_goesOn 53 = .ok (.iload 6, 2) := by decide +kernel
theorem dL_goesOn_55 : decode cL_goesOn 55 = .ok (.invokestatic 103, 3) := by decide +kernel
theorem dL_goesOn_58 : decode cL_goesOn 58 = .ok (.return_, 1) := by decide +kernel
theorem dL_hears_0 : decode cL_hears 0 = .ok (.iconst 0, 1) := by decide +kernel
theorem dL_hears_1 : decode cL_hears 1 = .ok (.istore 5, 2) := by decide +kernel
theorem dL_hears_3 : decode cL_hears 3 = .ok (.bipush 8, 2) := by decide +kernel
theorem dL_hears_5 : decode cL_hears 5 = .ok (.iload 4, 2) := by decide +kernel
theorem dL_hears_7 : decode cL_hears 7 = .ok (.imul, 1) := by decide +kernel
theorem dL_hears_8 : decode cL_hears 8 = .ok (.istore 6, 2) := by decide +kernel
theorem dL_hears_10 : decode cL_hears 10 = .ok (.iload 6, 2) := by decide +kernel
theorem dL_hears_12 : decode cL_hears 12 = .ok (.bipush 8, 2) := by decide +kernel
theorem dL_hears_14 : decode cL_hears 14 = .ok (.iload 4, 2) := by decide +kernel
theorem dL_hears_16 : decode cL_hears 16 = .ok (.imul, 1) := by decide +kernel
theorem dL_hears_17 : decode cL_hears 17 = .ok (.bipush 8, 2) := by decide +kernel
theorem dL_hears_19 : decode cL_hears 19 = .ok (.iadd, 1) := by decide +kernel
theorem dL_hears_20 : decode cL_hears 20 = .ok (.if_icmp .ge 77, 3) := by decide +kernel
theorem dL_hears_23 : decode cL_hears 23 = .ok (.aload_n 0, 1) := by decide +kernel
theorem dL_hears_24 : decode cL_hears 24 = .ok (.iload 6, 2) := by decide +kernel
theorem dL_hears_26 : decode cL_hears 26 = .ok (.iaload, 1) := by decide +kernel
theorem dL_hears_27 : decode cL_hears 27 = .ok (.ifCond .lt 26, 3) := by decide +kernel
theorem dL_hears_30 : decode cL_hears 30 = .ok (.aload_n 2, 1) := by decide +kernel
theorem dL_hears_31 : decode cL_hears 31 = .ok (.iload 6, 2) := by decide +kernel
theorem dL_hears_33 : decode cL_hears 33 = .ok (.iaload, 1) := by decide +kernel
theorem dL_hears_34 : decode cL_hears 34 = .ok (.ldc 123, 2) := by decide +kernel
theorem dL_hears_36 : decode cL_hears 36 = .ok (.if_icmp .ge 17, 3) := by decide +kernel
theorem dL_hears_39 : decode cL_hears 39 = .ok (.aload_n 1, 1) := by decide +kernel
theorem dL_hears_40 : decode cL_hears 40 = .ok (.iload 6, 2) := by decide +kernel
theorem dL_hears_42 : decode cL_hears 42 = .ok (.iaload, 1) := by decide +kernel
theorem dL_hears_43 : decode cL_hears 43 = .ok (.aload_n 3, 1) := by decide +kernel
theorem dL_hears_44 : decode cL_hears 44 = .ok (.iconst 0, 1) := by decide +kernel
theorem dL_hears_45 : decode cL_hears 45 = .ok (.iaload, 1) := by decide +kernel
theorem dL_hears_46 : decode cL_hears 46 = .ok (.if_icmp .gt 7, 3) := by decide +kernel
theorem dL_hears_49 : decode cL_hears 49 = .ok (.iconst 1, 1) := by decide +kernel
theorem dL_hears_50 : decode cL_hears 50 = .ok (.goto 4, 3) := by decide +kernel
theorem dL_hears_53 : decode cL_hears 53 = .ok (.iconst 0, 1) := by decide +kernel
theorem dL_hears_54 : decode cL_hears 54 = .ok (.istore 7, 2) := by decide +kernel
theorem dL_hears_56 : decode cL_hears 56 = .ok (.aload_n 2, 1) := by decide +kernel
theorem dL_hears_57 : decode cL_hears 57 = .ok (.iload 6, 2) := by decide +kernel
theorem dL_hears_59 : decode cL_hears 59 = .ok (.dup2, 1) := by decide +kernel
theorem dL_hears_60 : decode cL_hears 60 = .ok (.iaload, 1) := by decide +kernel
theorem dL_hears_61 : decode cL_hears 61 = .ok (.iload 7, 2) := by decide +kernel
theorem dL_hears_63 : decode cL_hears 63 = .ok (.ifCond .eq 8, 3) := by decide +kernel
theorem dL_hears_66 : decode cL_hears 66 = .ok (.ldc 123, 2) := by decide +kernel
theorem dL_hears_68 : decode cL_hears 68 = .ok (.goto 4, 3) := by decide +kernel
theorem dL_hears_71 : decode cL_hears 71 = .ok (.iconst 0, 1) := by decide +kernel
theorem dL_hears_72 : decode cL_hears 72 = .ok (.iadd, 1) := by decide +kernel
theorem dL_hears_73 : decode cL_hears 73 = .ok (.iastore, 1) := by decide +kernel
theorem dL_hears_74 : decode cL_hears 74 = .ok (.iload 5, 2) := by decide +kernel
theorem dL_hears_76 : decode cL_hears 76 = .ok (.ifCond .ne 8, 3) := by decide +kernel
theorem dL_hears_79 : decode cL_hears 79 = .ok (.iload 7, 2) := by decide +kernel
theorem dL_hears_81 : decode cL_hears 81 = .ok (.ifCond .eq 7, 3) := by decide +kernel
theorem dL_hears_84 : decode cL_hears 84 = .ok (.iconst 1, 1) := by decide +kernel
theorem dL_hears_85 : decode cL_hears 85 = .ok (.goto 4, 3) := by decide +kernel
theorem dL_hears_88 : decode cL_hears 88 = .ok (.iconst 0, 1) := by decide +kernel
theorem dL_hears_89 : decode cL_hears 89 = .ok (.istore 5, 2) := by decide +kernel
theorem dL_hears_91 : decode cL_hears 91 = .ok (.iinc 6 1, 3) := by decide +kernel
theorem dL_hears_94 : decode cL_hears 94 = .ok (.goto (-84), 3) := by decide +kernel
theorem dL_hears_97 : decode cL_hears 97 = .ok (.iload 5, 2) := by decide +kernel
theorem dL_hears_99 : decode cL_hears 99 = .ok (.ireturn, 1) := by decide +kernel
theorem dL_ticks_0 : decode cL_ticks 0 = .ok (.bipush 8, 2) := by decide +kernel
theorem dL_ticks_2 : decode cL_ticks 2 = .ok (.iload 12, 2) := by decide +kernel
theorem dL_ticks_4 : decode cL_ticks 4 = .ok (.imul, 1) := by decide +kernel
theorem dL_ticks_5 : decode cL_ticks 5 = .ok (.istore 13, 2) := by decide +kernel
theorem dL_ticks_7 : decode cL_ticks 7 = .ok (.aload 6, 2) := by decide +kernel
theorem dL_ticks_9 : decode cL_ticks 9 = .ok (.iload 13, 2) := by decide +kernel
theorem dL_ticks_11 : decode cL_ticks 11 = .ok (.iaload, 1) := by decide +kernel
theorem dL_ticks_12 : decode cL_ticks 12 = .ok (.iconst 1, 1) := by decide +kernel
theorem dL_ticks_13 : decode cL_ticks 13 = .ok (.if_icmp .ne 185, 3) := by decide +kernel
theorem dL_ticks_16 : decode cL_ticks 16 = .ok (.aload 7, 2) := by decide +kernel
theorem dL_ticks_18 : decode cL_ticks 18 = .ok (.aload 8, 2) := by decide +kernel
theorem dL_ticks_20 : decode cL_ticks 20 = .ok (.aload 9, 2) := by decide +kernel
theorem dL_ticks_22 : decode cL_ticks 22 = .ok (.aload 10, 2) := by decide +kernel
theorem dL_ticks_24 : decode cL_ticks 24 = .ok (.iload 12, 2) := by decide +kernel
theorem dL_ticks_26 : decode cL_ticks 26 = .ok (.invokestatic 124, 3) := by decide +kernel
theorem dL_ticks_29 : decode cL_ticks 29 = .ok (.ifCond .eq 71, 3) := by decide +kernel
theorem dL_ticks_32 : decode cL_ticks 32 = .ok (.iconst 0, 1) := by decide +kernel
theorem dL_ticks_33 : decode cL_ticks 33 = .ok (.istore 14, 2) := by decide +kernel
theorem dL_ticks_35 : decode cL_ticks 35 = .ok (.iconst 0, 1) := by decide +kernel
theorem dL_ticks_36 : decode cL_ticks 36 = .ok (.istore 15, 2) := by decide +kernel
theorem dL_ticks_38 : decode cL_ticks 38 = .ok (.iload 15, 2) := by decide +kernel
theorem dL_ticks_40 : decode cL_ticks 40 = .ok (.bipush 8, 2) := by decide +kernel
theorem dL_ticks_42 : decode cL_ticks 42 = .ok (.if_icmp .ge 37, 3) := by decide +kernel
theorem dL_ticks_45 : decode cL_ticks 45 = .ok (.aload 10, 2) := by decide +kernel
theorem dL_ticks_47 : decode cL_ticks 47 = .ok (.bipush 32, 2) := by decide +kernel
theorem dL_ticks_49 : decode cL_ticks 49 = .ok (.iload 15, 2) := by decide +kernel
theorem dL_ticks_51 : decode cL_ticks 51 = .ok (.iadd, 1) := by decide +kernel
theorem dL_ticks_52 : decode cL_ticks 52 = .ok (.iaload, 1) := by decide +kernel
theorem dL_ticks_53 : decode cL_ticks 53 = .ok (.iload 14, 2) := by decide +kernel
theorem dL_ticks_55 : decode cL_ticks 55 = .ok (.if_icmp .le 14, 3) := by decide +kernel
theorem dL_ticks_58 : decode cL_ticks 58 = .ok (.aload 10, 2) := by decide +kernel
theorem dL_ticks_60 : decode cL_ticks 60 = .ok (.bipush 32, 2) := by decide +kernel
theorem dL_ticks_62 : decode cL_ticks 62 = .ok (.iload 15, 2) := by decide +kernel
theorem dL_ticks_64 : decode cL_ticks 64 = .ok (.iadd, 1) := by decide +kernel
theorem dL_ticks_65 : decode cL_ticks 65 = .ok (.iaload, 1) := by decide +kernel
theorem dL_ticks_66 : decode cL_ticks 66 = .ok (.goto 5, 3) := by decide +kernel
theorem dL_ticks_69 : decode cL_ticks 69 = .ok (.iload 14, 2) := by decide +kernel
theorem dL_ticks_71 : decode cL_ticks 71 = .ok (.istore 14, 2) := by decide +kernel
theorem dL_ticks_73 : decode cL_ticks 73 = .ok (.iinc 15 1, 3) := by decide +kernel
theorem dL_ticks_76 : decode cL_ticks 76 = .ok (.goto (-38), 3) := by decide +kernel
theorem dL_ticks_79 : decode cL_ticks 79 = .ok (.aload 6, 2) := by decide +kernel
theorem dL_ticks_81 : decode cL_ticks 81 = .ok (.iload 13, 2) := by decide +kernel
theorem dL_ticks_83 : decode cL_ticks 83 = .ok (.iconst 2, 1) := by decide +kernel
theorem dL_ticks_84 : decode cL_ticks 84 = .ok (.iastore, 1) := by decide +kernel
theorem dL_ticks_85 : decode cL_ticks 85 = .ok (.aload 6, 2) := by decide +kernel
theorem dL_ticks_87 : decode cL_ticks 87 = .ok (.iload 13, 2) := by decide +kernel
theorem dL_ticks_89 : decode cL_ticks 89 = .ok (.iconst 3, 1) := by decide +kernel
theorem dL_ticks_90 : decode cL_ticks 90 = .ok (.iadd, 1) := by decide +kernel
theorem dL_ticks_91 : decode cL_ticks 91 = .ok (.aload 10, 2) := by decide +kernel
theorem dL_ticks_93 : decode cL_ticks 93 = .ok (.iconst 0, 1) := by decide +kernel
theorem dL_ticks_94 : decode cL_ticks 94 = .ok (.iaload, 1) := by decide +kernel
theorem dL_ticks_95 : decode cL_ticks 95 = .ok (.iload 14, 2) := by decide +kernel
theorem dL_ticks_97 : decode cL_ticks 97 = .ok (.iadd, 1) := by decide +kernel
theorem dL_ticks_98 : decode cL_ticks 98 = .ok (.iastore, 1) := by decide +kernel
theorem dL_ticks_99 : decode cL_ticks 99 = .ok (.return_, 1) := by decide +kernel
theorem dL_ticks_100 : decode cL_ticks 100 = .ok (.aload 6, 2) := by decide +kernel
theorem dL_ticks_102 : decode cL_ticks 102 = .ok (.iload 13, 2) := by decide +kernel
theorem dL_ticks_104 : decode cL_ticks 104 = .ok (.iconst 1, 1) := by decide +kernel
theorem dL_ticks_105 : decode cL_ticks 105 = .ok (.iadd, 1) := by decide +kernel
theorem dL_ticks_106 : decode cL_ticks 106 = .ok (.iaload, 1) := by decide +kernel
theorem dL_ticks_107 : decode cL_ticks 107 = .ok (.istore 14, 2) := by decide +kernel
theorem dL_ticks_109 : decode cL_ticks 109 = .ok (.aload 6, 2) := by decide +kernel
theorem dL_ticks_111 : decode cL_ticks 111 = .ok (.iload 13, 2) := by decide +kernel
theorem dL_ticks_113 : decode cL_ticks 113 = .ok (.iconst 2, 1) := by decide +kernel
theorem dL_ticks_114 : decode cL_ticks 114 = .ok (.iadd, 1) := by decide +kernel
theorem dL_ticks_115 : decode cL_ticks 115 = .ok (.dup2, 1) := by decide +kernel
theorem dL_ticks_116 : decode cL_ticks 116 = .ok (.iaload, 1) := by decide +kernel
theorem dL_ticks_117 : decode cL_ticks 117 = .ok (.aload 6, 2) := by decide +kernel
theorem dL_ticks_119 : decode cL_ticks 119 = .ok (.iload 13, 2) := by decide +kernel
theorem dL_ticks_121 : decode cL_ticks 121 = .ok (.iconst 5, 1) := by decide +kernel
theorem dL_ticks_122 : decode cL_ticks 122 = .ok (.iadd, 1) := by decide +kernel
theorem dL_ticks_123 : decode cL_ticks 123 = .ok (.iaload, 1) := by decide +kernel
theorem dL_ticks_124 : decode cL_ticks 124 = .ok (.isub, 1) := by decide +kernel
theorem dL_ticks_125 : decode cL_ticks 125 = .ok (.iastore, 1) := by decide +kernel
theorem dL_ticks_126 : decode cL_ticks 126 = .ok (.aload 6, 2) := by decide +kernel
theorem dL_ticks_128 : decode cL_ticks 128 = .ok (.iload 13, 2) := by decide +kernel
theorem dL_ticks_130 : decode cL_ticks 130 = .ok (.iconst 2, 1) := by decide +kernel
theorem dL_ticks_131 : decode cL_ticks 131 = .ok (.iadd, 1) := by decide +kernel
theorem dL_ticks_132 : decode cL_ticks 132 = .ok (.iaload, 1) := by decide +kernel
theorem dL_ticks_133 : decode cL_ticks 133 = .ok (.aload 10, 2) := by decide +kernel
theorem dL_ticks_135 : decode cL_ticks 135 = .ok (.bipush 12, 2) := by decide +kernel
theorem dL_ticks_137 : decode cL_ticks 137 = .ok (.aload 5, 2) := by decide +kernel
theorem dL_ticks_139 : decode cL_ticks 139 = .ok (.iload 14, 2) := by decide +kernel
theorem dL_ticks_141 : decode cL_ticks 141 = .ok (.iaload, 1) := by decide +kernel
theorem dL_ticks_142 : decode cL_ticks 142 = .ok (.bipush 8, 2) := by decide +kernel
theorem dL_ticks_144 : decode cL_ticks 144 = .ok (.idiv, 1) := by decide +kernel
theorem dL_ticks_145 : decode cL_ticks 145 = .ok (.iconst 4, 1) := by decide +kernel
theorem dL_ticks_146 : decode cL_ticks 146 = .ok (.irem, 1) := by decide +kernel
theorem dL_ticks_147 : decode cL_ticks 147 = .ok (.iadd, 1) := by decide +kernel
theorem dL_ticks_148 : decode cL_ticks 148 = .ok (.iaload, 1) := by decide +kernel
theorem dL_ticks_149 : decode cL_ticks 149 = .ok (.bipush 10, 2) := by decide +kernel
theorem dL_ticks_151 : decode cL_ticks 151 = .ok (.aload 5, 2) := by decide +kernel
theorem dL_ticks_153 : decode cL_ticks 153 = .ok (.iload 14, 2) := by decide +kernel
theorem dL_ticks_155 : decode cL_ticks 155 = .ok (.iaload, 1) := by decide +kernel
theorem dL_ticks_156 : decode cL_ticks 156 = .ok (.bipush 32, 2) := by decide +kernel
theorem dL_ticks_158 : decode cL_ticks 158 = .ok (.idiv, 1) := by decide +kernel
theorem dL_ticks_159 : decode cL_ticks 159 = .ok (.iconst 4, 1) := by decide +kernel
theorem dL_ticks_160 : decode cL_ticks 160 = .ok (.irem, 1) := by decide +kernel
theorem dL_ticks_161 : decode cL_ticks 161 = .ok (.iadd, 1) := by decide +kernel
theorem dL_ticks_162 : decode cL_ticks 162 = .ok (.imul, 1) := by decide +kernel
theorem dL_ticks_163 : decode cL_ticks 163 = .ok (.bipush 10, 2) := by decide +kernel
theorem dL_ticks_165 : decode cL_ticks 165 = .ok (.idiv, 1) := by decide +kernel
theorem dL_ticks_166 : decode cL_ticks 166 = .ok (.if_icmp .ge 29, 3) := by decide +kernel
theorem dL_ticks_169 : decode cL_ticks 169 = .ok (.aload_n 0, 1) := by decide +kernel
theorem dL_ticks_170 : decode cL_ticks 170 = .ok (.aload_n 1, 1) := by decide +kernel
theorem dL_ticks_171 : decode cL_ticks 171 = .ok (.aload_n 2, 1) := by decide +kernel
theorem dL_ticks_172 : decode cL_ticks 172 = .ok (.aload 10, 2) := by decide +kernel
theorem dL_ticks_174 : decode cL_ticks 174 = .ok (.aload 11, 2) := by decide +kernel
theorem dL_ticks_176 : decode cL_ticks 176 = .ok (.iload 14, 2) := by decide +kernel
theorem dL_ticks_178 : decode cL_ticks 178 = .ok (.invokestatic 128, 3) := by decide +kernel
theorem dL_ticks_181 : decode cL_ticks 181 = .ok (.pop, 1) := by decide +kernel
theorem dL_ticks_182 : decode cL_ticks 182 = .ok (.aload 5, 2) := by decide +kernel
theorem dL_ticks_184 : decode cL_ticks 184 = .ok (.aload 6, 2) := by decide +kernel
theorem dL_ticks_186 : decode cL_ticks 186 = .ok (.aload 7, 2) := by decide +kernel
theorem dL_ticks_188 : decode cL_ticks 188 = .ok (.aload 10, 2) := by decide +kernel
theorem dL_ticks_190 : decode cL_ticks 190 = .ok (.iload 12, 2) := by decide +kernel
theorem dL_ticks_192 : decode cL_ticks 192 = .ok (.invokestatic 120, 3) := by decide +kernel
theorem dL_ticks_195 : decode cL_ticks 195 = .ok (.goto 413, 3) := by decide +kernel
theorem dL_ticks_198 : decode cL_ticks 198 = .ok (.aload 6, 2) := by decide +kernel
theorem dL_ticks_200 : decode cL_ticks 200 = .ok (.iload 13, 2) := by decide +kernel
theorem dL_ticks_202 : decode cL_ticks 202 = .ok (.iaload, 1) := by decide +kernel
theorem dL_ticks_203 : decode cL_ticks 203 = .ok (.iconst 2, 1) := by decide +kernel
theorem dL_ticks_204 : decode cL_ticks 204 = .ok (.if_icmp .ne 294, 3) := by decide +kernel
theorem dL_ticks_207 : decode cL_ticks 207 = .ok (.aload 7, 2) := by decide +kernel
theorem dL_ticks_209 : decode cL_ticks 209 = .ok (.aload 8, 2) := by decide +kernel
theorem dL_ticks_211 : decode cL_ticks 211 = .ok (.aload 9, 2) := by decide +kernel
theorem dL_ticks_213 : decode cL_ticks 213 = .ok (.aload 10, 2) := by decide +kernel
theorem dL_ticks_215 : decode cL_ticks 215 = .ok (.iload 12, 2) := by decide +kernel
theorem dL_ticks_217 : decode cL_ticks 217 = .ok (.invokestatic 124, 3) := by decide +kernel
theorem dL_ticks_220 : decode cL_ticks 220 = .ok (.pop, 1) := by decide +kernel
theorem dL_ticks_221 : decode cL_ticks 221 = .ok (.aload 10, 2) := by decide +kernel
theorem dL_ticks_223 : decode cL_ticks 223 = .ok (.iconst 0, 1) := by decide +kernel
theorem dL_ticks_224 : decode cL_ticks 224 = .ok (.iaload, 1) := by decide +kernel
theorem dL_ticks_225 : decode cL_ticks 225 = .ok (.aload 6, 2) := by decide +kernel
theorem dL_ticks_227 : decode cL_ticks 227 = .ok (.iload 13, 2) := by decide +kernel
theorem dL_ticks_229 : decode cL_ticks 229 = .ok (.iconst 3, 1) := by decide +kernel
theorem dL_ticks_230 : decode cL_ticks 230 = .ok (.iadd, 1) := by decide +kernel
theorem dL_ticks_231 : decode cL_ticks 231 = .ok (.iaload, 1) := by decide +kernel
theorem dL_ticks_232 : decode cL_ticks 232 = .ok (.if_icmp .ge 4, 3) := by decide +kernel
theorem dL_ticks_235 : decode cL_ticks 235 = .ok (.return_, 1) := by decide +kernel
theorem dL_ticks_236 : decode cL_ticks 236 = .ok (.aload_n 1, 1) := by decide +kernel
theorem dL_ticks_237 : decode cL_ticks 237 = .ok (.aload_n 0, 1) := by decide +kernel
theorem dL_ticks_238 : decode cL_ticks 238 = .ok (.aload_n 2, 1) := by decide +kernel
theorem dL_ticks_239 : decode cL_ticks 239 = .ok (.aload 10, 2) := by decide +kernel
theorem dL_ticks_241 : decode cL_ticks 241 = .ok (.aload 6, 2) := by decide +kernel
theorem dL_ticks_243 : decode cL_ticks 243 = .ok (.iload 13, 2) := by decide +kernel
theorem dL_ticks_245 : decode cL_ticks 245 = .ok (.iconst 1, 1) := by decide +kernel
theorem dL_ticks_246 : decode cL_ticks 246 = .ok (.iadd, 1) := by decide +kernel
theorem dL_ticks_247 : decode cL_ticks 247 = .ok (.iaload, 1) := by decide +kernel
theorem dL_ticks_248 : decode cL_ticks 248 = .ok (.invokestatic 132, 3) := by decide +kernel
theorem dL_ticks_251 : decode cL_ticks 251 = .ok (.iaload, 1) := by decide +kernel
theorem dL_ticks_252 : decode cL_ticks 252 = .ok (.sipush 128, 3) := by decide +kernel
theorem dL_ticks_255 : decode cL_ticks 255 = .ok (.irem, 1) := by decide +kernel
theorem dL_ticks_256 : decode cL_ticks 256 = .ok (.istore 14, 2) := by decide +kernel
theorem dL_ticks_258 : decode cL_ticks 258 = .ok (.iconst (-1), 1) := by decide +kernel
theorem dL_ticks_259 : decode cL_ticks 259 = .ok (.istore 15, 2) := by decide +kernel
theorem dL_ticks_261 : decode cL_ticks 261 = .ok (.bipush 7, 2) := by decide +kernel
theorem dL_ticks_263 : decode cL_ticks 263 = .ok (.istore 16, 2) := by decide +kernel
theorem dL_ticks_265 : decode cL_ticks 265 = .ok (.iload 16, 2) := by decide +kernel
theorem dL_ticks_267 : decode cL_ticks 267 = .ok (.ifCond .lt 151, 3) := by decide +kernel
theorem dL_ticks_270 : decode cL_ticks 270 = .ok (.iload 13, 2) := by decide +kernel
theorem dL_ticks_272 : decode cL_ticks 272 = .ok (.iload 16, 2) := by decide +kernel
theorem dL_ticks_274 : decode cL_ticks 274 = .ok (.iadd, 1) := by decide +kernel
theorem dL_ticks_275 : decode cL_ticks 275 = .ok (.istore 17, 2) := by decide +kernel
theorem dL_ticks_277 : decode cL_ticks 277 = .ok (.aload 7, 2) := by decide +kernel
theorem dL_ticks_279 : decode cL_ticks 279 = .ok (.iload 17, 2) := by decide +kernel
theorem dL_ticks_281 : decode cL_ticks 281 = .ok (.iaload, 1) := by decide +kernel
theorem dL_ticks_282 : decode cL_ticks 282 = .ok (.ifCond .lt 48, 3) := by decide +kernel
theorem dL_ticks_285 : decode cL_ticks 285 = .ok (.aload 9, 2) := by decide +kernel
theorem dL_ticks_287 : decode cL_ticks 287 = .ok (.iload 17, 2) := by decide +kernel
theorem dL_ticks_289 : decode cL_ticks 289 = .ok (.iaload, 1) := by decide +kernel
theorem dL_ticks_290 : decode cL_ticks 290 = .ok (.ldc 135, 2) := by decide +kernel
theorem dL_ticks_292 : decode cL_ticks 292 = .ok (.if_icmp .le 38, 3) := by decide +kernel
theorem dL_ticks_295 : decode cL_ticks 295 = .ok (.aload 10, 2) := by decide +kernel
theorem dL_ticks_297 : decode cL_ticks 297 = .ok (.bipush 24, 2) := by decide +kernel
theorem dL_ticks_299 : decode cL_ticks 299 = .ok (.iload 16, 2) := by decide +kernel
theorem dL_ticks_301 : decode cL_ticks 301 = .ok (.iadd, 1) := by decide +kernel
theorem dL_ticks_302 : decode cL_ticks 302 = .ok (.iaload, 1) := by decide +kernel
theorem dL_ticks_303 : decode cL_ticks 303 = .ok (.aload 10, 2) := by decide +kernel
theorem dL_ticks_305 : decode cL_ticks 305 = .ok (.bipush 40, 2) := by decide +kernel
theorem dL_ticks_307 : decode cL_ticks 307 = .ok (.iload 16, 2) := by decide +kernel
theorem dL_ticks_309 : decode cL_ticks 309 = .ok (.iadd, 1) := by decide +kernel
theorem dL_ticks_310 : decode cL_ticks 310 = .ok (.iaload, 1) := by decide +kernel
theorem dL_ticks_311 : decode cL_ticks 311 = .ok (.isub, 1) := by decide +kernel
theorem dL_ticks_312 : decode cL_ticks 312 = .ok (.iload 14, 2) := by decide +kernel
theorem dL_ticks_314 : decode cL_ticks 314 = .ok (.aload 9, 2) := by decide +kernel
theorem dL_ticks_316 : decode cL_ticks 316 = .ok (.iload 17, 2) := by decide +kernel
theorem dL_ticks_318 : decode cL_ticks 318 = .ok (.iaload, 1) := by decide +kernel
theorem dL_ticks_319 : decode cL_ticks 319 = .ok (.ldc 123, 2) := by decide +kernel
theorem dL_ticks_321 : decode cL_ticks 321 = .ok (.irem, 1) := by decide +kernel
theorem dL_ticks_322 : decode cL_ticks 322 = .ok (.imul, 1) := by decide +kernel
theorem dL_ticks_323 : decode cL_ticks 323 = .ok (.if_icmp .lt 7, 3) := by decide +kernel
theorem dL_ticks_326 : decode cL_ticks 326 = .ok (.iconst 1, 1) := by decide +kernel
theorem dL_ticks_327 : decode cL_ticks 327 = .ok (.goto 4, 3) := by decide +kernel
theorem dL_ticks_330 : decode cL_ticks 330 = .ok (.iconst 0, 1) := by decide +kernel
theorem dL_ticks_331 : decode cL_ticks 331 = .ok (.istore 18, 2) := by decide +kernel
theorem dL_ticks_333 : decode cL_ticks 333 = .ok (.iload 18, 2) := by decide +kernel
theorem dL_ticks_335 : decode cL_ticks 335 = .ok (.ifCond .eq 60, 3) := by decide +kernel
theorem dL_ticks_338 : decode cL_ticks 338 = .ok (.iload 15, 2) := by decide +kernel
theorem dL_ticks_340 : decode cL_ticks 340 = .ok (.ifCond .lt 51, 3) := by decide +kernel
theorem dL_ticks_343 : decode cL_ticks 343 = .ok (.aload 9, 2) := by decide +kernel
theorem dL_ticks_345 : decode cL_ticks 345 = .ok (.iload 17, 2) := by decide +kernel
theorem dL_ticks_347 : decode cL_ticks 347 = .ok (.iaload, 1) := by decide +kernel
theorem dL_ticks_348 : decode cL_ticks 348 = .ok (.aload 9, 2) := by decide +kernel
theorem dL_ticks_350 : decode cL_ticks 350 = .ok (.iload 13, 2) := by decide +kernel
theorem dL_ticks_352 : decode cL_ticks 352 = .ok (.iload 15, 2) := by decide +kernel
theorem dL_ticks_354 : decode cL_ticks 354 = .ok (.iadd, 1) := by decide +kernel
theorem dL_ticks_355 : decode cL_ticks 355 = .ok (.iaload, 1) := by decide +kernel
theorem dL_ticks_356 : decode cL_ticks 356 = .ok (.if_icmp .gt 35, 3) := by decide +kernel
theorem dL_ticks_359 : decode cL_ticks 359 = .ok (.aload 9, 2) := by decide +kernel
theorem dL_ticks_361 : decode cL_ticks 361 = .ok (.iload 17, 2) := by decide +kernel
theorem dL_ticks_363 : decode cL_ticks 363 = .ok (.iaload, 1) := by decide +kernel
theorem dL_ticks_364 : decode cL_ticks 364 = .ok (.aload 9, 2) := by decide +kernel
theorem dL_ticks_366 : decode cL_ticks 366 = .ok (.iload 13, 2) := by decide +kernel
theorem dL_ticks_368 : decode cL_ticks 368 = .ok (.iload 15, 2) := by decide +kernel
theorem dL_ticks_370 : decode cL_ticks 370 = .ok (.iadd, 1) := by decide +kernel
theorem dL_ticks_371 : decode cL_ticks 371 = .ok (.iaload, 1) := by decide +kernel
theorem dL_ticks_372 : decode cL_ticks 372 = .ok (.if_icmp .ne 23, 3) := by decide +kernel
theorem dL_ticks_375 : decode cL_ticks 375 = .ok (.aload 7, 2) := by decide +kernel
theorem dL_ticks_377 : decode cL_ticks 377 = .ok (.iload 17, 2) := by decide +kernel
theorem dL_ticks_379 : decode cL_ticks 379 = .ok (.iaload, 1) := by decide +kernel
theorem dL_ticks_380 : decode cL_ticks 380 = .ok (.aload 7, 2) := by decide +kernel
theorem dL_ticks_382 : decode cL_ticks 382 = .ok (.iload 13, 2) := by decide +kernel
theorem dL_ticks_384 : decode cL_ticks 384 = .ok (.iload 15, 2) := by decide +kernel
theorem dL_ticks_386 : decode cL_ticks 386 = .ok (.iadd, 1) := by decide +kernel
theorem dL_ticks_387 : decode cL_ticks 387 = .ok (.iaload, 1) := by decide +kernel
theorem dL_ticks_388 : decode cL_ticks 388 = .ok (.if_icmp .gt 7, 3) := by decide +kernel
theorem dL_ticks_391 : decode cL_ticks 391 = .ok (.iconst 1, 1) := by decide +kernel
theorem dL_ticks_392 : decode cL_ticks 392 = .ok (.goto 4, 3) := by decide +kernel
theorem dL_ticks_395 : decode cL_ticks 395 = .ok (.iconst 0, 1) := by decide +kernel
theorem dL_ticks_396 : decode cL_ticks 396 = .ok (.istore 19, 2) := by decide +kernel
theorem dL_ticks_398 : decode cL_ticks 398 = .ok (.iload 19, 2) := by decide +kernel
theorem dL_ticks_400 : decode cL_ticks 400 = .ok (.ifCond .eq 8, 3) := by decide +kernel
theorem dL_ticks_403 : decode cL_ticks 403 = .ok (.iload 16, 2) := by decide +kernel
theorem dL_ticks_405 : decode cL_ticks 405 = .ok (.goto 5, 3) := by decide +kernel
theorem dL_ticks_408 : decode cL_ticks 408 = .ok (.iload 15, 2) := by decide +kernel
theorem dL_ticks_410 : decode cL_ticks 410 = .ok (.istore 15, 2) := by decide +kernel
theorem dL_ticks_412 : decode cL_ticks 412 = .ok (.iinc 16 (-1), 3) := by decide +kernel
theorem dL_ticks_415 : decode cL_ticks 415 = .ok (.goto (-150), 3) := by decide +kernel
theorem dL_ticks_418 : decode cL_ticks 418 = .ok (.aload 6, 2) := by decide +kernel
theorem dL_ticks_420 : decode cL_ticks 420 = .ok (.iload 13, 2) := by decide +kernel
theorem dL_ticks_422 : decode cL_ticks 422 = .ok (.iload 15, 2) := by decide +kernel
theorem dL_ticks_424 : decode cL_ticks 424 = .ok (.ifCond .ge 7, 3) := by decide +kernel
theorem dL_ticks_427 : decode cL_ticks 427 = .ok (.iconst 1, 1) := by decide +kernel
theorem dL_ticks_428 : decode cL_ticks 428 = .ok (.goto 4, 3) := by decide +kernel
theorem dL_ticks_431 : decode cL_ticks 431 = .ok (.iconst 3, 1) := by decide +kernel
theorem dL_ticks_432 : decode cL_ticks 432 = .ok (.iastore, 1) := by decide +kernel
theorem dL_ticks_433 : decode cL_ticks 433 = .ok (.aload 6, 2) := by decide +kernel
theorem dL_ticks_435 : decode cL_ticks 435 = .ok (.iload 13, 2) := by decide +kernel
theorem dL_ticks_437 : decode cL_ticks 437 = .ok (.iconst 2, 1) := by decide +kernel
theorem dL_ticks_438 : decode cL_ticks 438 = .ok (.iadd, 1) := by decide +kernel
theorem dL_ticks_439 : decode cL_ticks 439 = .ok (.iload 15, 2) := by decide +kernel
theorem dL_ticks_441 : decode cL_ticks 441 = .ok (.ifCond .ge 13, 3) := by decide +kernel
theorem dL_ticks_444 : decode cL_ticks 444 = .ok (.aload 6, 2) := by decide +kernel
theorem dL_ticks_446 : decode cL_ticks 446 = .ok (.iload 13, 2) := by decide +kernel
theorem dL_ticks_448 : decode cL_ticks 448 = .ok (.iconst 2, 1) := by decide +kernel
theorem dL_ticks_449 : decode cL_ticks 449 = .ok (.iadd, 1) := by decide +kernel
theorem dL_ticks_450 : decode cL_ticks 450 = .ok (.iaload, 1) := by decide +kernel
theorem dL_ticks_451 : decode cL_ticks 451 = .ok (.goto 14, 3) := by decide +kernel
theorem dL_ticks_454 : decode cL_ticks 454 = .ok (.aload 9, 2) := by decide +kernel
theorem dL_ticks_456 : decode cL_ticks 456 = .ok (.iload 13, 2) := by decide +kernel
theorem dL_ticks_458 : decode cL_ticks 458 = .ok (.iload 15, 2) := by decide +kernel
theorem dL_ticks_460 : decode cL_ticks 460 = .ok (.iadd, 1) := by decide +kernel
theorem dL_ticks_461 : decode cL_ticks 461 = .ok (.iaload, 1) := by decide +kernel
theorem dL_ticks_462 : decode cL_ticks 462 = .ok (.ldc 123, 2) := by decide +kernel
theorem dL_ticks_464 : decode cL_ticks 464 = .ok (.irem, 1) := by decide +kernel
theorem dL_ticks_465 : decode cL_ticks 465 = .ok (.iastore, 1) := by decide +kernel
theorem dL_ticks_466 : decode cL_ticks 466 = .ok (.aload 6, 2) := by decide +kernel
theorem dL_ticks_468 : decode cL_ticks 468 = .ok (.iload 13, 2) := by decide +kernel
theorem dL_ticks_470 : decode cL_ticks 470 = .ok (.iconst 3, 1) := by decide +kernel
theorem dL_ticks_471 : decode cL_ticks 471 = .ok (.iadd, 1) := by decide +kernel
theorem dL_ticks_472 : decode cL_ticks 472 = .ok (.aload 10, 2) := by decide +kernel
theorem dL_ticks_474 : decode cL_ticks 474 = .ok (.iconst 0, 1) := by decide +kernel
theorem dL_ticks_475 : decode cL_ticks 475 = .ok (.iaload, 1) := by decide +kernel
theorem dL_ticks_476 : decode cL_ticks 476 = .ok (.iconst 3, 1) := by decide +kernel
theorem dL_ticks_477 : decode cL_ticks 477 = .ok (.iadd, 1) := by decide +kernel
theorem dL_ticks_478 : decode cL_ticks 478 = .ok (.iastore, 1) := by decide +kernel
theorem dL_ticks_479 : decode cL_ticks 479 = .ok (.aload 6, 2) := by decide +kernel
theorem dL_ticks_481 : decode cL_ticks 481 = .ok (.iload 13, 2) := by decide +kernel
theorem dL_ticks_483 : decode cL_ticks 483 = .ok (.iconst 4, 1) := by decide +kernel
theorem dL_ticks_484 : decode cL_ticks 484 = .ok (.iadd, 1) := by decide +kernel
theorem dL_ticks_485 : decode cL_ticks 485 = .ok (.iload 15, 2) := by decide +kernel
theorem dL_ticks_487 : decode cL_ticks 487 = .ok (.iastore, 1) := by decide +kernel
theorem dL_ticks_488 : decode cL_ticks 488 = .ok (.aload 7, 2) := by decide +kernel
theorem dL_ticks_490 : decode cL_ticks 490 = .ok (.iload 12, 2) := by decide +kernel
theorem dL_ticks_492 : decode cL_ticks 492 = .ok (.invokestatic 103, 3) := by decide +kernel
theorem dL_ticks_495 : decode cL_ticks 495 = .ok (.goto 113, 3) := by decide +kernel
theorem dL_ticks_498 : decode cL_ticks 498 = .ok (.aload 6, 2) := by decide +kernel
theorem dL_ticks_500 : decode cL_ticks 500 = .ok (.iload 13, 2) := by decide +kernel
theorem dL_ticks_502 : decode cL_ticks 502 = .ok (.iaload, 1) := by decide +kernel
theorem dL_ticks_503 : decode cL_ticks 503 = .ok (.iconst 3, 1) := by decide +kernel
theorem dL_ticks_504 : decode cL_ticks 504 = .ok (.if_icmp .ne 104, 3) := by decide +kernel
theorem dL_ticks_507 : decode cL_ticks 507 = .ok (.aload 10, 2) := by decide +kernel
theorem dL_ticks_509 : decode cL_ticks 509 = .ok (.iconst 0, 1) := by decide +kernel
theorem dL_ticks_510 : decode cL_ticks 510 = .ok (.iaload, 1) := by decide +kernel
theorem dL_ticks_511 : decode cL_ticks 511 = .ok (.aload 6, 2) := by decide +kernel
theorem dL_ticks_513 : decode cL_ticks 513 = .ok (.iload 13, 2) := by decide +kernel
theorem dL_ticks_515 : decode cL_ticks 515 = .ok (.iconst 3, 1) := by decide +kernel
theorem dL_ticks_516 : decode cL_ticks 516 = .ok (.iadd, 1) := by decide +kernel
theorem dL_ticks_517 : decode cL_ticks 517 = .ok (.iaload, 1) := by decide +kernel
theorem dL_ticks_518 : decode cL_ticks 518 = .ok (.if_icmp .lt 90, 3) := by decide +kernel
theorem dL_ticks_521 : decode cL_ticks 521 = .ok (.aload 6, 2) := by decide +kernel
theorem dL_ticks_523 : decode cL_ticks 523 = .ok (.iload 13, 2) := by decide +kernel
theorem dL_ticks_525 : decode cL_ticks 525 = .ok (.iconst 4, 1) := by decide +kernel
theorem dL_ticks_526 : decode cL_ticks 526 = .ok (.iadd, 1) := by decide +kernel
theorem dL_ticks_527 : decode cL_ticks 527 = .ok (.iaload, 1) := by decide +kernel
theorem dL_ticks_528 : decode cL_ticks 528 = .ok (.istore 14, 2) := by decide +kernel
theorem dL_ticks_530 : decode cL_ticks 530 = .ok (.aload_n 0, 1) := by decide +kernel
theorem dL_ticks_531 : decode cL_ticks 531 = .ok (.aload_n 1, 1) := by decide +kernel
theorem dL_ticks_532 : decode cL_ticks 532 = .ok (.aload_n 2, 1) := by decide +kernel
theorem dL_ticks_533 : decode cL_ticks 533 = .ok (.aload_n 3, 1) := by decide +kernel
theorem dL_ticks_534 : decode cL_ticks 534 = .ok (.aload 4, 2) := by decide +kernel
theorem dL_ticks_536 : decode cL_ticks 536 = .ok (.aload 6, 2) := by decide +kernel
theorem dL_ticks_538 : decode cL_ticks 538 = .ok (.aload 10, 2) := by decide +kernel
theorem dL_ticks_540 : decode cL_ticks 540 = .ok (.aload 11, 2) := by decide +kernel
theorem dL_ticks_542 : decode cL_ticks 542 = .ok (.iload 12, 2) := by decide +kernel
theorem dL_ticks_544 : decode cL_ticks 544 = .ok (.iconst 1, 1) := by decide +kernel
theorem dL_ticks_545 : decode cL_ticks 545 = .ok (.iconst 0, 1) := by decide +kernel
theorem dL_ticks_546 : decode cL_ticks 546 = .ok (.invokestatic 136, 3) := by decide +kernel
theorem dL_ticks_549 : decode cL_ticks 549 = .ok (.istore 15, 2) := by decide +kernel
theorem dL_ticks_551 : decode cL_ticks 551 = .ok (.aload 10, 2) := by decide +kernel
theorem dL_ticks_553 : decode cL_ticks 553 = .ok (.bipush 24, 2) := by decide +kernel
theorem dL_ticks_555 : decode cL_ticks 555 = .ok (.iload 14, 2) := by decide +kernel
theorem dL_ticks_557 : decode cL_ticks 557 = .ok (.iadd, 1) := by decide +kernel
theorem dL_ticks_558 : decode cL_ticks 558 = .ok (.iaload, 1) := by decide +kernel
theorem dL_ticks_559 : decode cL_ticks 559 = .ok (.aload 10, 2) := by decide +kernel
theorem dL_ticks_561 : decode cL_ticks 561 = .ok (.bipush 40, 2) := by decide +kernel
theorem dL_ticks_563 : decode cL_ticks 563 = .ok (.iload 14, 2) := by decide +kernel
theorem dL_ticks_565 : decode cL_ticks 565 = .ok (.iadd, 1) := by decide +kernel
theorem dL_ticks_566 : decode cL_ticks 566 = .ok (.iaload, 1) := by decide +kernel
theorem dL_ticks_567 : decode cL_ticks 567 = .ok (.isub, 1) := by decide +kernel
theorem dL_ticks_568 : decode cL_ticks 568 = .ok (.iload 15, 2) := by decide +kernel
theorem dL_ticks_570 : decode cL_ticks 570 = .ok (.if_icmp .lt 23, 3) := by decide +kernel
theorem dL_ticks_573 : decode cL_ticks 573 = .ok (.aload_n 0, 1) := by decide +kernel
theorem dL_ticks_574 : decode cL_ticks 574 = .ok (.aload_n 1, 1) := by decide +kernel
theorem dL_ticks_575 : decode cL_ticks 575 = .ok (.aload_n 2, 1) := by decide +kernel
theorem dL_ticks_576 : decode cL_ticks 576 = .ok (.aload_n 3, 1) := by decide +kernel
theorem dL_ticks_577 : decode cL_ticks 577 = .ok (.aload 4, 2) := by decide +kernel
theorem dL_ticks_579 : decode cL_ticks 579 = .ok (.aload 6, 2) := by decide +kernel
theorem dL_ticks_581 : decode cL_ticks 581 = .ok (.aload 10, 2) := by decide +kernel
theorem dL_ticks_583 : decode cL_ticks 583 = .ok (.aload 11, 2) := by decide +kernel
theorem dL_ticks_585 : decode cL_ticks 585 = .ok (.iload 12, 2) := by decide +kernel
theorem dL_ticks_587 : decode cL_ticks 587 = .ok (.iconst 1, 1) := by decide +kernel
theorem dL_ticks_588 : decode cL_ticks 588 = .ok (.iconst 1, 1) := by decide +kernel
theorem dL_ticks_589 : decode cL_ticks 589 = .ok (.invokestatic 136, 3) := by decide +kernel
theorem dL_ticks_592 : decode cL_ticks 592 = .ok (.pop, 1) := by decide +kernel
theorem dL_ticks_593 : decode cL_ticks 593 = .ok (.aload_n 0, 1) := by decide +kernel
theorem dL_ticks_594 : decode cL_ticks 594 = .ok (.aload_n 2, 1) := by decide +kernel
theorem dL_ticks_595 : decode cL_ticks 595 = .ok (.aload 5, 2) := by decide +kernel
theorem dL_ticks_597 : decode cL_ticks 597 = .ok (.aload 6, 2) := by decide +kernel
theorem dL_ticks_599 : decode cL_ticks 599 = .ok (.aload 7, 2) := by decide +kernel
theorem dL_ticks_601 : decode cL_ticks 601 = .ok (.aload 10, 2) := by decide +kernel
theorem dL_ticks_603 : decode cL_ticks 603 = .ok (.iload 12, 2) := by decide +kernel
theorem dL_ticks_605 : decode cL_ticks 605 = .ok (.invokestatic 140, 3) := by decide +kernel
theorem dL_ticks_608 : decode cL_ticks 608 = .ok (.return_, 1) := by decide +kernel
theorem dL_passes_0 : decode cL_passes 0 = .ok (.aload 10, 2) := by decide +kernel
theorem dL_passes_2 : decode cL_passes 2 = .ok (.iconst 0, 1) := by decide +kernel
theorem dL_passes_3 : decode cL_passes 3 = .ok (.dup2, 1) := by decide +kernel
theorem dL_passes_4 : decode cL_passes 4 = .ok (.iaload, 1) := by decide +kernel
theorem dL_passes_5 : decode cL_passes 5 = .ok (.iconst 1, 1) := by decide +kernel
theorem dL_passes_6 : decode cL_passes 6 = .ok (.iadd, 1) := by decide +kernel
theorem dL_passes_7 : decode cL_passes 7 = .ok (.iastore, 1) := by decide +kernel
theorem dL_passes_8 : decode cL_passes 8 = .ok (.iconst 0, 1) := by decide +kernel
theorem dL_passes_9 : decode cL_passes 9 = .ok (.istore 13, 2) := by decide +kernel
theorem dL_passes_11 : decode cL_passes 11 = .ok (.iload 13, 2) := by decide +kernel
theorem dL_passes_13 : decode cL_passes 13 = .ok (.iconst 3, 1) := by decide +kernel
theorem dL_passes_14 : decode cL_passes 14 = .ok (.if_icmp .ge 49, 3) := by decide +kernel
theorem dL_passes_17 : decode cL_passes 17 = .ok (.aload 6, 2) := by decide +kernel
theorem dL_passes_19 : decode cL_passes 19 = .ok (.bipush 8, 2) := by decide +kernel
theorem dL_passes_21 : decode cL_passes 21 = .ok (.iload 13, 2) := by decide +kernel
theorem dL_passes_23 : decode cL_passes 23 = .ok (.imul, 1) := by decide +kernel
theorem dL_passes_24 : decode cL_passes 24 = .ok (.bipush 6, 2) := by decide +kernel
theorem dL_passes_26 : decode cL_passes 26 = .ok (.iadd, 1) := by decide +kernel
theorem dL_passes_27 : decode cL_passes 27 = .ok (.iaload, 1) := by decide +kernel
theorem dL_passes_28 : decode cL_passes 28 = .ok (.iconst 1, 1) := by decide +kernel
theorem dL_passes_29 : decode cL_passes 29 = .ok (.if_icmp .ne 28, 3) := by decide +kernel
theorem dL_passes_32 : decode cL_passes 32 = .ok (.aload_n 0, 1) := by decide +kernel
theorem dL_passes_33 : decode cL_passes 33 = .ok (.aload_n 1, 1) := by decide +kernel
theorem dL_passes_34 : decode cL_passes 34 = .ok (.aload_n 2, 1) := by decide +kernel
theorem dL_passes_35 : decode cL_passes 35 = .ok (.aload_n 3, 1) := by decide +kernel
theorem dL_passes_36 : decode cL_passes 36 = .ok (.aload 4, 2) := by decide +kernel
theorem dL_passes_38 : decode cL_passes 38 = .ok (.aload 5, 2) := by decide +kernel
theorem dL_passes_40 : decode cL_passes 40 = .ok (.aload 6, 2) := by decide +kernel
theorem dL_passes_42 : decode cL_passes 42 = .ok (.aload 7, 2) := by decide +kernel
theorem dL_passes_44 : decode cL_passes 44 = .ok (.aload 8, 2) := by decide +kernel
theorem dL_passes_46 : decode cL_passes 46 = .ok (.aload 9, 2) := by decide +kernel
theorem dL_passes_48 : decode cL_passes 48 = .ok (.aload 10, 2) := by decide +kernel
theorem dL_passes_50 : decode cL_passes 50 = .ok (.aload 11, 2) := by decide +kernel
theorem dL_passes_52 : decode cL_passes 52 = .ok (.iload 13, 2) := by decide +kernel
theorem dL_passes_54 : decode cL_passes 54 = .ok (.invokestatic 144, 3) := by decide +kernel
theorem dL_passes_57 : decode cL_passes 57 = .ok (.iinc 13 1, 3) := by decide +kernel
theorem dL_passes_60 : decode cL_passes 60 = .ok (.goto (-49), 3) := by decide +kernel
theorem dL_passes_63 : decode cL_passes 63 = .ok (.iconst 0, 1) := by decide +kernel
theorem dL_passes_64 : decode cL_passes 64 = .ok (.istore 13, 2) := by decide +kernel
theorem dL_passes_66 : decode cL_passes 66 = .ok (.iload 13, 2) := by decide +kernel
theorem dL_passes_68 : decode cL_passes 68 = .ok (.aload 10, 2) := by decide +kernel
theorem dL_passes_70 : decode cL_passes 70 = .ok (.bipush 6, 2) := by decide +kernel
theorem dL_passes_72 : decode cL_passes 72 = .ok (.iaload, 1) := by decide +kernel
theorem dL_passes_73 : decode cL_passes 73 = .ok (.if_icmp .ge 143, 3) := by decide +kernel
theorem dL_passes_76 : decode cL_passes 76 = .ok (.aload 12, 2) := by decide +kernel
theorem dL_passes_78 : decode cL_passes 78 = .ok (.iconst 4, 1) := by decide +kernel
theorem dL_passes_79 : decode cL_passes 79 = .ok (.iload 13, 2) := by decide +kernel
theorem dL_passes_81 : decode cL_passes 81 = .ok (.imul, 1) := by decide +kernel
theorem dL_passes_82 : decode cL_passes 82 = .ok (.iconst 1, 1) := by decide +kernel
theorem dL_passes_83 : decode cL_passes 83 = .ok (.iadd, 1) := by decide +kernel
theorem dL_passes_84 : decode cL_passes 84 = .ok (.iaload, 1) := by decide +kernel
theorem dL_passes_85 : decode cL_passes 85 = .ok (.aload 10, 2) := by decide +kernel
theorem dL_passes_87 : decode cL_passes 87 = .ok (.iconst 0, 1) := by decide +kernel
theorem dL_passes_88 : decode cL_passes 88 = .ok (.iaload, 1) := by decide +kernel
theorem dL_passes_89 : decode cL_passes 89 = .ok (.if_icmp .ne 121, 3) := by decide +kernel
theorem dL_passes_92 : decode cL_passes 92 = .ok (.iconst 0, 1) := by decide +kernel
theorem dL_passes_93 : decode cL_passes 93 = .ok (.istore 14, 2) := by decide +kernel
theorem dL_passes_95 : decode cL_passes 95 = .ok (.iconst 0, 1) := by decide +kernel
theorem dL_passes_96 : decode cL_passes 96 = .ok (.istore 15, 2) := by decide +kernel
theorem dL_passes_98 : decode cL_passes 98 = .ok (.iload 15, 2) := by decide +kernel
theorem dL_passes_100 : decode cL_passes 100 = .ok (.aload 10, 2) := by decide +kernel
theorem dL_passes_102 : decode cL_passes 102 = .ok (.iconst 4, 1) := by decide +kernel
theorem dL_passes_103 : decode cL_passes 103 = .ok (.iaload, 1) := by decide +kernel
theorem dL_passes_104 : decode cL_passes 104 = .ok (.if_icmp .ge 95, 3) := by decide +kernel
theorem dL_passes_107 : decode cL_passes 107 = .ok (.aload_n 0, 1) := by decide +kernel
theorem dL_passes_108 : decode cL_passes 108 = .ok (.iload 15, 2) := by decide +kernel
theorem dL_passes_110 : decode cL_passes 110 = .ok (.invokestatic 95, 3) := by decide +kernel
theorem dL_passes_113 : decode cL_passes 113 = .ok (.iconst 3, 1) := by decide +kernel
theorem dL_passes_114 : decode cL_passes 114 = .ok (.if_icmp .ne 40, 3) := by decide +kernel
theorem dL_passes_117 : decode cL_passes 117 = .ok (.aload_n 3, 1) := by decide +kernel
theorem dL_passes_118 : decode cL_passes 118 = .ok (.iload 15, 2) := by decide +kernel
theorem dL_passes_120 : decode cL_passes 120 = .ok (.iaload, 1) := by decide +kernel
theorem dL_passes_121 : decode cL_passes 121 = .ok (.bipush 16, 2) := by decide +kernel
theorem dL_passes_123 : decode cL_passes 123 = .ok (.irem, 1) := by decide +kernel
theorem dL_passes_124 : decode cL_passes 124 = .ok (.iconst 1, 1) := by decide +kernel
theorem dL_passes_125 : decode cL_passes 125 = .ok (.isub, 1) := by decide +kernel
theorem dL_passes_126 : decode cL_passes 126 = .ok (.aload 12, 2) := by decide +kernel
theorem dL_passes_128 : decode cL_passes 128 = .ok (.iconst 4, 1) := by decide +kernel
theorem dL_passes_129 : decode cL_passes 129 = .ok (.iload 13, 2) := by decide +kernel
theorem dL_passes_131 : decode cL_passes 131 = .ok (.imul, 1) := by decide +kernel
theorem dL_passes_132 : decode cL_passes 132 = .ok (.iaload, 1) := by decide +kernel
theorem dL_passes_133 : decode cL_passes 133 = .ok (.if_icmp .ne 21, 3) := by decide +kernel
theorem dL_passes_136 : decode cL_passes 136 = .ok (.iload 14, 2) := by decide +kernel
theorem dL_passes_138 : decode cL_passes 138 = .ok (.aload 12, 2) := by decide +kernel
theorem dL_passes_140 : decode cL_passes 140 = .ok (.iconst 4, 1) := by decide +kernel
theorem dL_passes_141 : decode cL_passes 141 = .ok (.iload 13, 2) := by decide +kernel
theorem dL_passes_143 : decode cL_passes 143 = .ok (.imul, 1) := by decide +kernel
theorem dL_passes_144 : decode cL_passes 144 = .ok (.iconst 2, 1) := by decide +kernel
theorem dL_passes_145 : decode cL_passes 145 = .ok (.iadd, 1) := by decide +kernel
theorem dL_passes_146 : decode cL_passes 146 = .ok (.iaload, 1) := by decide +kernel
theorem dL_passes_147 : decode cL_passes 147 = .ok (.if_icmp .ge 7, 3) := by decide +kernel
theorem dL_passes_150 : decode cL_passes 150 = .ok (.iconst 1, 1) := by decide +kernel
theorem dL_passes_151 : decode cL_passes 151 = .ok (.goto 4, 3) := by decide +kernel
theorem dL_passes_154 : decode cL_passes 154 = .ok (.iconst 0, 1) := by decide +kernel
theorem dL_passes_155 : decode cL_passes 155 = .ok (.istore 16, 2) := by decide +kernel
theorem dL_passes_157 : decode cL_passes 157 = .ok (.aload_n 0, 1) := by decide +kernel
theorem dL_passes_158 : decode cL_passes 158 = .ok (.iload 15, 2) := by decide +kernel
theorem dL_passes_160 : decode cL_passes 160 = .ok (.iload 16, 2) := by decide +kernel
theorem dL_passes_162 : decode cL_passes 162 = .ok (.ifCond .eq 7, 3) := by decide +kernel
theorem dL_passes_165 : decode cL_passes 165 = .ok (.iconst 4, 1) := by decide +kernel
theorem dL_passes_166 : decode cL_passes 166 = .ok (.goto 9, 3) := by decide +kernel
theorem dL_passes_169 : decode cL_passes 169 = .ok (.aload_n 0, 1) := by decide +kernel
theorem dL_passes_170 : decode cL_passes 170 = .ok (.iload 15, 2) := by decide +kernel
theorem dL_passes_172 : decode cL_passes 172 = .ok (.invokestatic 95, 3) := by decide +kernel
theorem dL_passes_175 : decode cL_passes 175 = .ok (.invokestatic 107, 3) := by decide +kernel
theorem dL_passes_178 : decode cL_passes 178 = .ok (.iload 14, 2) := by decide +kernel
theorem dL_passes_180 : decode cL_passes 180 = .ok (.iload 16, 2) := by decide +kernel
theorem dL_passes_182 : decode cL_passes 182 = .ok (.ifCond .eq 7, 3) := by decide +kernel
theorem dL_passes_185 : decode cL_passes 185 = .ok (.iconst 1, 1) := by decide +kernel
theorem dL_passes_186 : decode cL_passes 186 = .ok (.goto 4, 3) := by decide +kernel
theorem dL_passes_189 : decode cL_passes 189 = .ok (.iconst 0, 1) := by decide +kernel
theorem dL_passes_190 : decode cL_passes 190 = .ok (.iadd, 1) := by decide +kernel
theorem dL_passes_191 : decode cL_passes 191 = .ok (.istore 14, 2) := by decide +kernel
theorem dL_passes_193 : decode cL_passes 193 = .ok (.iinc 15 1, 3) := by decide +kernel
theorem dL_passes_196 : decode cL_passes 196 = .ok (.goto (-98), 3) := by decide +kernel
theorem dL_passes_199 : decode cL_passes 199 = .ok (.aload 12, 2) := by decide +kernel
theorem dL_passes_201 : decode cL_passes 201 = .ok (.iconst 4, 1) := by decide +kernel
theorem dL_passes_202 : decode cL_passes 202 = .ok (.iload 13, 2) := by decide +kernel
theorem dL_passes_204 : decode cL_passes 204 = .ok (.imul, 1) := by decide +kernel
theorem dL_passes_205 : decode cL_passes 205 = .ok (.iconst 3, 1) := by decide +kernel
theorem dL_passes_206 : decode cL_passes 206 = .ok (.iadd, 1) := by decide +kernel
theorem dL_passes_207 : decode cL_passes 207 = .ok (.iload 14, 2) := by decide +kernel
theorem dL_passes_209 : decode cL_passes 209 = .ok (.iastore, 1) := by decide +kernel
theorem dL_passes_210 : decode cL_passes 210 = .ok (.iinc 13 1, 3) := by decide +kernel
theorem dL_passes_213 : decode cL_passes 213 = .ok (.goto (-147), 3) := by decide +kernel
theorem dL_passes_216 : decode cL_passes 216 = .ok (.return_, 1) := by decide +kernel
theorem dL_isToSell_0 : decode cL_isToSell 0 = .ok (.aload_n 0, 1) := by decide +kernel
theorem dL_isToSell_1 : decode cL_isToSell 1 = .ok (.iload_n 1, 1) := by decide +kernel
theorem dL_isToSell_2 : decode cL_isToSell 2 = .ok (.invokestatic 95, 3) := by decide +kernel
theorem dL_isToSell_5 : decode cL_isToSell 5 = .ok (.ifCond .eq 13, 3) := by decide +kernel
theorem dL_isToSell_8 : decode cL_isToSell 8 = .ok (.aload_n 0, 1) := by decide +kernel
theorem dL_isToSell_9 : decode cL_isToSell 9 = .ok (.iload_n 1, 1) := by decide +kernel
theorem dL_isToSell_10 : decode cL_isToSell 10 = .ok (.invokestatic 95, 3) := by decide +kernel
theorem dL_isToSell_13 : decode cL_isToSell 13 = .ok (.bipush 6, 2) := by decide +kernel
theorem dL_isToSell_15 : decode cL_isToSell 15 = .ok (.if_icmp .ne 7, 3) := by decide +kernel
theorem dL_isToSell_18 : decode cL_isToSell 18 = .ok (.iconst 1, 1) := by decide +kernel
theorem dL_isToSell_19 : decode cL_isToSell 19 = .ok (.goto 4, 3) := by decide +kernel
theorem dL_isToSell_22 : decode cL_isToSell 22 = .ok (.iconst 0, 1) := by decide +kernel
theorem dL_isToSell_23 : decode cL_isToSell 23 = .ok (.ireturn, 1) := by decide +kernel
theorem dL_opens_0 : decode cL_opens 0 = .ok (.aload 5, 2) := by decide +kernel
theorem dL_opens_2 : decode cL_opens 2 = .ok (.iconst 2, 1) := by decide +kernel
theorem dL_opens_3 : decode cL_opens 3 = .ok (.iconst 1, 1) := by decide +kernel
theorem dL_opens_4 : decode cL_opens 4 = .ok (.iastore, 1) := by decide +kernel
theorem dL_opens_5 : decode cL_opens 5 = .ok (.aload 5, 2) := by decide +kernel
theorem dL_opens_7 : decode cL_opens 7 = .ok (.iconst 5, 1) := by decide +kernel
theorem dL_opens_8 : decode cL_opens 8 = .ok (.iconst 0, 1) := by decide +kernel
theorem dL_opens_9 : decode cL_opens 9 = .ok (.iastore, 1) := by decide +kernel
theorem dL_opens_10 : decode cL_opens 10 = .ok (.iconst 0, 1) := by decide +kernel
theorem dL_opens_11 : decode cL_opens 11 = .ok (.istore 7, 2) := by decide +kernel
theorem dL_opens_13 : decode cL_opens 13 = .ok (.iload 7, 2) := by decide +kernel
theorem dL_opens_15 : decode cL_opens 15 = .ok (.aload 5, 2) := by decide +kernel
theorem dL_opens_17 : decode cL_opens 17 = .ok (.iconst 4, 1) := by decide +kernel
theorem dL_opens_18 : decode cL_opens 18 = .ok (.iaload, 1) := by decide +kernel
theorem dL_opens_19 : decode cL_opens 19 = .ok (.if_icmp .ge 14, 3) := by decide +kernel
theorem dL_opens_22 : decode cL_opens 22 = .ok (.aload_n 1, 1) := by decide +kernel
theorem dL_opens_23 : decode cL_opens 23 = .ok (.iload 7, 2) := by decide +kernel
theorem dL_opens_25 : decode cL_opens 25 = .ok (.iconst (-1), 1) := by decide +kernel
theorem dL_opens_26 : decode cL_opens 26 = .ok (.iastore, 1) := by decide +kernel
theorem dL_opens_27 : decode cL_opens 27 = .ok (.iinc 7 1, 3) := by decide +kernel
theorem dL_opens_30 : decode cL_opens 30 = .ok (.goto (-17), 3) := by decide +kernel
theorem dL_opens_33 : decode cL_opens 33 = .ok (.iconst 1, 1) := by decide +kernel
theorem dL_opens_34 : decode cL_opens 34 = .ok (.istore 7, 2) := by decide +kernel
theorem dL_opens_36 : decode cL_opens 36 = .ok (.iload 7, 2) := by decide +kernel
theorem dL_opens_38 : decode cL_opens 38 = .ok (.ifCond .lt 196, 3) := by decide +kernel
theorem dL_opens_41 : decode cL_opens 41 = .ok (.iconst 0, 1) := by decide +kernel
theorem dL_opens_42 : decode cL_opens 42 = .ok (.istore 8, 2) := by decide +kernel
theorem dL_opens_44 : decode cL_opens 44 = .ok (.iconst 0, 1) := by decide +kernel
theorem dL_opens_45 : decode cL_opens 45 = .ok (.istore 9, 2) := by decide +kernel
theorem dL_opens_47 : decode cL_opens 47 = .ok (.iload 9, 2) := by decide +kernel
theorem dL_opens_49 : decode cL_opens 49 = .ok (.aload 5, 2) := by decide +kernel
theorem dL_opens_51 : decode cL_opens 51 = .ok (.iconst 4, 1) := by decide +kernel
theorem dL_opens_52 : decode cL_opens 52 = .ok (.iaload, 1) := by decide +kernel
theorem dL_opens_53 : decode cL_opens 53 = .ok (.if_icmp .ge 54, 3) := by decide +kernel
theorem dL_opens_56 : decode cL_opens 56 = .ok (.iload 8, 2) := by decide +kernel
theorem dL_opens_58 : decode cL_opens 58 = .ok (.aload_n 0, 1) := by decide +kernel
theorem dL_opens_59 : decode cL_opens 59 = .ok (.iload 9, 2) := by decide +kernel
theorem dL_opens_61 : decode cL_opens 61 = .ok (.invokestatic 148, 3) := by decide +kernel
theorem dL_opens_64 : decode cL_opens 64 = .ok (.ifCond .eq 33, 3) := by decide +kernel
theorem dL_opens_67 : decode cL_opens 67 = .ok (.aload 6, 2) := by decide +kernel
theorem dL_opens_69 : decode cL_opens 69 = .ok (.bipush 8, 2) := by decide +kernel
theorem dL_opens_71 : decode cL_opens 71 = .ok (.aload_n 0, 1) := by decide +kernel
theorem dL_opens_72 : decode cL_opens 72 = .ok (.iload 9, 2) := by decide +kernel
theorem dL_opens_74 : decode cL_opens 74 = .ok (.iaload, 1) := by decide +kernel
theorem dL_opens_75 : decode cL_opens 75 = .ok (.bipush 8, 2) := by decide +kernel
theorem dL_opens_77 : decode cL_opens 77 = .ok (.irem, 1) := by decide +kernel
theorem dL_opens_78 : decode cL_opens 78 = .ok (.iadd, 1) := by decide +kernel
theorem dL_opens_79 : decode cL_opens 79 = .ok (.iaload, 1) := by decide +kernel
theorem dL_opens_80 : decode cL_opens 80 = .ok (.iload 7, 2) := by decide +kernel
theorem dL_opens_82 : decode cL_opens 82 = .ok (.if_icmp .ne 15, 3) := by decide +kernel
theorem dL_opens_85 : decode cL_opens 85 = .ok (.iconst 1, 1) := by decide +kernel
theorem dL_opens_86 : decode cL_opens 86 = .ok (.aload_n 0, 1) := by decide +kernel
theorem dL_opens_87 : decode cL_opens 87 = .ok (.iload 9, 2) := by decide +kernel
theorem dL_opens_89 : decode cL_opens 89 = .ok (.iaload, 1) := by decide +kernel
theorem dL_opens_90 : decode cL_opens 90 = .ok (.bipush 8, 2) := by decide +kernel
theorem dL_opens_92 : decode cL_opens 92 = .ok (.irem, 1) := by decide +kernel
theorem dL_opens_93 : decode cL_opens 93 = .ok (.ishl, 1) := by decide +kernel
theorem dL_opens_94 : decode cL_opens 94 = .ok (.goto 4, 3) := by decide +kernel
theorem dL_opens_97 : decode cL_opens 97 = .ok (.iconst 0, 1) := by decide +kernel
theorem dL_opens_98 : decode cL_opens 98 = .ok (.ior, 1) := by decide +kernel
theorem dL_opens_99 : decode cL_opens 99 = .ok (.istore 8, 2) := by decide +kernel
theorem dL_opens_101 : decode cL_opens 101 = .ok (.iinc 9 1, 3) := by decide +kernel
theorem dL_opens_104 : decode cL_opens 104 = .ok (.goto (-57), 3) := by decide +kernel
theorem dL_opens_107 : decode cL_opens 107 = .ok (.iload 8, 2) := by decide +kernel
theorem dL_opens_109 : decode cL_opens 109 = .ok (.ifCond .eq 119, 3) := by decide +kernel
theorem dL_opens_112 : decode cL_opens 112 = .ok (.iconst 0, 1) := by decide +kernel
theorem dL_opens_113 : decode cL_opens 113 = .ok (.istore 9, 2) := by decide +kernel
theorem dL_opens_115 : decode cL_opens 115 = .ok (.iconst 0, 1) := by decide +kernel
theorem dL_opens_116 : decode cL_opens 116 = .ok (.istore 10, 2) := by decide +kernel
theorem dL_opens_118 : decode cL_opens 118 = .ok (.iload 10, 2) := by decide +kernel
theorem dL_opens_120 : decode cL_opens 120 = .ok (.bipush 8, 2) := by decide +kernel
theorem dL_opens_122 : decode cL_opens 122 = .ok (.if_icmp .ge 21, 3) := by decide +kernel
theorem dL_opens_125 : decode cL_opens 125 = .ok (.iload 9, 2) := by decide +kernel
theorem dL_opens_127 : decode cL_opens 127 = .ok (.iload 8, 2) := by decide +kernel
theorem dL_opens_129 : decode cL_opens 129 = .ok (.iload 10, 2) := by decide +kernel
theorem dL_opens_131 : decode cL_opens 131 = .ok (.ishr, 1) := by decide +kernel
theorem dL_opens_132 : decode cL_opens 132 = .ok (.iconst 1, 1) := by decide +kernel
theorem dL_opens_133 : decode cL_opens 133 = .ok (.iand, 1) := by decide +kernel
theorem dL_opens_134 : decode cL_opens 134 = .ok (.iadd, 1) := by decide +kernel
theorem dL_opens_135 : decode cL_opens 135 = .ok (.istore 9, 2) := by decide +kernel
theorem dL_opens_137 : decode cL_opens 137 = .ok (.iinc 10 1, 3) := by decide +kernel
theorem dL_opens_140 : decode cL_opens 140 = .ok (.goto (-22), 3) := by decide +kernel
theorem dL_opens_143 : decode cL_opens 143 = .ok (.aload 5, 2) := by decide +kernel
theorem dL_opens_145 : decode cL_opens 145 = .ok (.iconst 3, 1) := by decide +kernel
theorem dL_opens_146 : decode cL_opens 146 = .ok (.aload 5, 2) := by decide +kernel
theorem dL_opens_148 : decode cL_opens 148 = .ok (.iconst 3, 1) := by decide +kernel
theorem dL_opens_149 : decode cL_opens 149 = .ok (.iaload, 1) := by decide +kernel
theorem dL_opens_150 : decode cL_opens 150 = .ok (.ldc 152, 2) := by decide +kernel
theorem dL_opens_152 : decode cL_opens 152 = .ok (.imul, 1) := by decide +kernel
theorem dL_opens_153 : decode cL_opens 153 = .ok (.sipush 12345, 3) := by decide +kernel
theorem dL_opens_156 : decode cL_opens 156 = .ok (.iadd, 1) := by decide +kernel
theorem dL_opens_157 : decode cL_opens 157 = .ok (.iastore, 1) := by decide +kernel
theorem dL_opens_158 : decode cL_opens 158 = .ok (.aload 5, 2) := by decide +kernel
theorem dL_opens_160 : decode cL_opens 160 = .ok (.iconst 3, 1) := by decide +kernel
theorem dL_opens_161 : decode cL_opens 161 = .ok (.iaload, 1) := by decide +kernel
theorem dL_opens_162 : decode cL_opens 162 = .ok (.bipush 16, 2) := by decide +kernel
theorem dL_opens_164 : decode cL_opens 164 = .ok (.iushr, 1) := by decide +kernel
theorem dL_opens_165 : decode cL_opens 165 = .ok (.iload 9, 2) := by decide +kernel
theorem dL_opens_167 : decode cL_opens 167 = .ok (.irem, 1) := by decide +kernel
theorem dL_opens_168 : decode cL_opens 168 = .ok (.istore 10, 2) := by decide +kernel
theorem dL_opens_170 : decode cL_opens 170 = .ok (.iconst 0, 1) := by decide +kernel
theorem dL_opens_171 : decode cL_opens 171 = .ok (.istore 11, 2) := by decide +kernel
theorem dL_opens_173 : decode cL_opens 173 = .ok (.iload 8, 2) := by decide +kernel
theorem dL_opens_175 : decode cL_opens 175 = .ok (.iload 11, 2) := by decide +kernel
theorem dL_opens_177 : decode cL_opens 177 = .ok (.ishr, 1) := by decide +kernel
theorem dL_opens_178 : decode cL_opens 178 = .ok (.iconst 1, 1) := by decide +kernel
theorem dL_opens_179 : decode cL_opens 179 = .ok (.iand, 1) := by decide +kernel
theorem dL_opens_180 : decode cL_opens 180 = .ok (.ifCond .eq 8, 3) := by decide +kernel
theorem dL_opens_183 : decode cL_opens 183 = .ok (.iload 10, 2) := by decide +kernel
theorem dL_opens_185 : decode cL_opens 185 = .ok (.ifCond .le 21, 3) := by decide +kernel
theorem dL_opens_188 : decode cL_opens 188 = .ok (.iload 10, 2) := by decide +kernel
theorem dL_opens_190 : decode cL_opens 190 = .ok (.iload 8, 2) := by decide +kernel
theorem dL_opens_192 : decode cL_opens 192 = .ok (.iload 11, 2) := by decide +kernel
theorem dL_opens_194 : decode cL_opens 194 = .ok (.ishr, 1) := by decide +kernel
theorem dL_opens_195 : decode cL_opens 195 = .ok (.iconst 1, 1) := by decide +kernel
theorem dL_opens_196 : decode cL_opens 196 = .ok (.iand, 1) := by decide +kernel
theorem dL_opens_197 : decode cL_opens 197 = .ok (.isub, 1) := by decide +kernel
theorem dL_opens_198 : decode cL_opens 198 = .ok (.istore 10, 2) := by decide +kernel
theorem dL_opens_200 : decode cL_opens 200 = .ok (.iinc 11 1, 3) := by decide +kernel
theorem dL_opens_203 : decode cL_opens 203 = .ok (.goto (-30), 3) := by decide +kernel
theorem dL_opens_206 : decode cL_opens 206 = .ok (.iload 8, 2) := by decide +kernel
theorem dL_opens_208 : decode cL_opens 208 = .ok (.iconst 1, 1) := by decide +kernel
theorem dL_opens_209 : decode cL_opens 209 = .ok (.iload 11, 2) := by decide +kernel
theorem dL_opens_211 : decode cL_opens 211 = .ok (.ishl, 1) := by decide +kernel
theorem dL_opens_212 : decode cL_opens 212 = .ok (.isub, 1) := by decide +kernel
theorem dL_opens_213 : decode cL_opens 213 = .ok (.istore 8, 2) := by decide +kernel
theorem dL_opens_215 : decode cL_opens 215 = .ok (.aload_n 0, 1) := by decide +kernel
theorem dL_opens_216 : decode cL_opens 216 = .ok (.aload_n 1, 1) := by decide +kernel
theorem dL_opens_217 : decode cL_opens 217 = .ok (.aload_n 2, 1) := by decide +kernel
theorem dL_opens_218 : decode cL_opens 218 = .ok (.aload 5, 2) := by decide +kernel
theorem dL_opens_220 : decode cL_opens 220 = .ok (.iload 11, 2) := by decide +kernel
theorem dL_opens_222 : decode cL_opens 222 = .ok (.invokestatic 153, 3) := by decide +kernel
theorem dL_opens_225 : decode cL_opens 225 = .ok (.goto (-118), 3) := by decide +kernel
theorem dL_opens_228 : decode cL_opens 228 = .ok (.iinc 7 (-1), 3) := by decide +kernel
theorem dL_opens_231 : decode cL_opens 231 = .ok (.goto (-195), 3) := by decide +kernel
theorem dL_opens_234 : decode cL_opens 234 = .ok (.iconst 0, 1) := by decide +kernel
theorem dL_opens_235 : decode cL_opens 235 = .ok (.istore 7, 2) := by decide +kernel
theorem dL_opens_237 : decode cL_opens 237 = .ok (.iload 7, 2) := by decide +kernel
theorem dL_opens_239 : decode cL_opens 239 = .ok (.iconst 3, 1) := by decide +kernel
theorem dL_opens_240 : decode cL_opens 240 = .ok (.if_icmp .ge 20, 3) := by decide +kernel
theorem dL_opens_243 : decode cL_opens 243 = .ok (.aload_n 2, 1) := by decide +kernel
theorem dL_opens_244 : decode cL_opens 244 = .ok (.aload_n 3, 1) := by decide +kernel
theorem dL_opens_245 : decode cL_opens 245 = .ok (.aload 4, 2) := by decide +kernel
theorem dL_opens_247 : decode cL_opens 247 = .ok (.aload 5, 2) := by decide +kernel
theorem dL_opens_249 : decode cL_opens 249 = .ok (.iload 7, 2) := by decide +kernel
theorem dL_opens_251 : decode cL_opens 251 = .ok (.invokestatic 111, 3) := by decide +kernel
theorem dL_opens_254 : decode cL_opens 254 = .ok (.iinc 7 1, 3) := by decide +kernel
theorem dL_opens_257 : decode cL_opens 257 = .ok (.goto (-20), 3) := by decide +kernel
theorem dL_opens_260 : decode cL_opens 260 = .ok (.aload 5, 2) := by decide +kernel
theorem dL_opens_262 : decode cL_opens 262 = .ok (.iconst 5, 1) := by decide +kernel
theorem dL_opens_263 : decode cL_opens 263 = .ok (.iaload, 1) := by decide +kernel
theorem dL_opens_264 : decode cL_opens 264 = .ok (.ireturn, 1) := by decide +kernel
theorem dL_lots_0 : decode cL_lots 0 = .ok (.iconst (-1), 1) := by decide +kernel
theorem dL_lots_1 : decode cL_lots 1 = .ok (.istore 5, 2) := by decide +kernel
theorem dL_lots_3 : decode cL_lots 3 = .ok (.iconst 1, 1) := by decide +kernel
theorem dL_lots_4 : decode cL_lots 4 = .ok (.istore 6, 2) := by decide +kernel
theorem dL_lots_6 : decode cL_lots 6 = .ok (.iload 6, 2) := by decide +kernel
theorem dL_lots_8 : decode cL_lots 8 = .ok (.ifCond .eq 307, 3) := by decide +kernel
theorem dL_lots_11 : decode cL_lots 11 = .ok (.sipush 1000, 3) := by decide +kernel
theorem dL_lots_14 : decode cL_lots 14 = .ok (.istore 7, 2) := by decide +kernel
theorem dL_lots_16 : decode cL_lots 16 = .ok (.iconst 0, 1) := by decide +kernel
theorem dL_lots_17 : decode cL_lots 17 = .ok (.istore 8, 2) := by decide +kernel
theorem dL_lots_19 : decode cL_lots 19 = .ok (.iload 8, 2) := by decide +kernel
theorem dL_lots_21 : decode cL_lots 21 = .ok (.aload_n 3, 1) := by decide +kernel
theorem dL_lots_22 : decode cL_lots 22 = .ok (.iconst 4, 1) := by decide +kernel
theorem dL_lots_23 : decode cL_lots 23 = .ok (.iaload, 1) := by decide +kernel
theorem dL_lots_24 : decode cL_lots 24 = .ok (.if_icmp .ge 95, 3) := by decide +kernel
theorem dL_lots_27 : decode cL_lots 27 = .ok (.aload_n 0, 1) := by decide +kernel
theorem dL_lots_28 : decode cL_lots 28 = .ok (.iload 8, 2) := by decide +kernel
theorem dL_lots_30 : decode cL_lots 30 = .ok (.iaload, 1) := by decide +kernel
theorem dL_lots_31 : decode cL_lots 31 = .ok (.bipush 8, 2) := by decide +kernel
theorem dL_lots_33 : decode cL_lots 33 = .ok (.idiv, 1) := by decide +kernel
theorem dL_lots_34 : decode cL_lots 34 = .ok (.iconst 4, 1) := by decide +kernel
theorem dL_lots_35 : decode cL_lots 35 = .ok (.irem, 1) := by decide +kernel
theorem dL_lots_36 : decode cL_lots 36 = .ok (.bipush 100, 2) := by decide +kernel
theorem dL_lots_38 : decode cL_lots 38 = .ok (.imul, 1) := by decide +kernel
theorem dL_lots_39 : decode cL_lots 39 = .ok (.aload_n 0, 1) := by decide +kernel
theorem dL_lots_40 : decode cL_lots 40 = .ok (.iload 8, 2) := by decide +kernel
theorem dL_lots_42 : decode cL_lots 42 = .ok (.iaload, 1) := by decide +kernel
theorem dL_lots_43 : decode cL_lots 43 = .ok (.bipush 32, 2) := by decide +kernel
theorem dL_lots_45 : decode cL_lots 45 = .ok (.idiv, 1) := by decide +kernel
theorem dL_lots_46 : decode cL_lots 46 = .ok (.iconst 4, 1) := by decide +kernel
theorem dL_lots_47 : decode cL_lots 47 = .ok (.irem, 1) := by decide +kernel
theorem dL_lots_48 : decode cL_lots 48 = .ok (.bipush 10, 2) := by decide +kernel
theorem dL_lots_50 : decode cL_lots 50 = .ok (.imul, 1) := by decide +kernel
theorem dL_lots_51 : decode cL_lots 51 = .ok (.iadd, 1) := by decide +kernel
theorem dL_lots_52 : decode cL_lots 52 = .ok (.bipush 9, 2) := by decide +kernel
theorem dL_lots_54 : decode cL_lots 54 = .ok (.iadd, 1) := by decide +kernel
theorem dL_lots_55 : decode cL_lots 55 = .ok (.aload_n 0, 1) := by decide +kernel
theorem dL_lots_56 : decode cL_lots 56 = .ok (.iload 8, 2) := by decide +kernel
theorem dL_lots_58 : decode cL_lots 58 = .ok (.iaload, 1) := by decide +kernel
theorem dL_lots_59 : decode cL_lots 59 = .ok (.sipush 128, 3) := by decide +kernel
theorem dL_lots_62 : decode cL_lots 62 = .ok (.idiv, 1) := by decide +kernel
theorem dL_lots_63 : decode cL_lots 63 = .ok (.bipush 16, 2) := by decide +kernel
theorem dL_lots_65 : decode cL_lots 65 = .ok (.irem, 1) := by decide +kernel
theorem dL_lots_66 : decode cL_lots 66 = .ok (.isub, 1) := by decide +kernel
theorem dL_lots_67 : decode cL_lots 67 = .ok (.istore 9, 2) := by decide +kernel
theorem dL_lots_69 : decode cL_lots 69 = .ok (.aload_n 0, 1) := by decide +kernel
theorem dL_lots_70 : decode cL_lots 70 = .ok (.iload 8, 2) := by decide +kernel
theorem dL_lots_72 : decode cL_lots 72 = .ok (.invokestatic 148, 3) := by decide +kernel
theorem dL_lots_75 : decode cL_lots 75 = .ok (.ifCond .eq 34, 3) := by decide +kernel
theorem dL_lots_78 : decode cL_lots 78 = .ok (.aload_n 0, 1) := by decide +kernel
theorem dL_lots_79 : decode cL_lots 79 = .ok (.iload 8, 2) := by decide +kernel
theorem dL_lots_81 : decode cL_lots 81 = .ok (.iaload, 1) := by decide +kernel
theorem dL_lots_82 : decode cL_lots 82 = .ok (.bipush 8, 2) := by decide +kernel
theorem dL_lots_84 : decode cL_lots 84 = .ok (.irem, 1) := by decide +kernel
theorem dL_lots_85 : decode cL_lots 85 = .ok (.iload 4, 2) := by decide +kernel
theorem dL_lots_87 : decode cL_lots 87 = .ok (.if_icmp .ne 22, 3) := by decide +kernel
theorem dL_lots_90 : decode cL_lots 90 = .ok (.iload 9, 2) := by decide +kernel
theorem dL_lots_92 : decode cL_lots 92 = .ok (.iload 5, 2) := by decide +kernel
theorem dL_lots_94 : decode cL_lots 94 = .ok (.if_icmp .le 15, 3) := by decide +kernel
theorem dL_lots_97 : decode cL_lots 97 = .ok (.iload 9, 2) := by decide +kernel
theorem dL_lots_99 : decode cL_lots 99 = .ok (.iload 7, 2) := by decide +kernel
theorem dL_lots_101 : decode cL_lots 101 = .ok (.if_icmp .ge 8, 3) := by decide +kernel
theorem dL_lots_104 : decode cL_lots 104 = .ok (.iload 9, 2) := by decide +kernel
theorem dL_lots_106 : decode cL_lots 106 = .ok (.goto 5, 3) := by decide +kernel
theorem dL_lots_109 : decode cL_lots 109 = .ok (.iload 7, 2) := by decide +kernel
theorem dL_lots_111 : decode cL_lots 111 = .ok (.istore 7, 2) := by decide +kernel
theorem dL_lots_113 : decode cL_lots 113 = .ok (.iinc 8 1, 3) := by decide +kernel
theorem dL_lots_116 : decode cL_lots 116 = .ok (.goto (-97), 3) := by decide +kernel
theorem dL_lots_119 : decode cL_lots 119 = .ok (.iload 7, 2) := by decide +kernel
theorem dL_lots_121 : decode cL_lots 121 = .ok (.sipush 1000, 3) := by decide +kernel
theorem dL_lots_124 : decode cL_lots 124 = .ok (.if_icmp .ge 7, 3) := by decide +kernel
theorem dL_lots_127 : decode cL_lots 127 = .ok (.iconst 1, 1) := by decide +kernel
theorem dL_lots_128 : decode cL_lots 128 = .ok (.goto 4, 3) := by decide +kernel
theorem dL_lots_131 : decode cL_lots 131 = .ok (.iconst 0, 1) := by decide +kernel
theorem dL_lots_132 : decode cL_lots 132 = .ok (.istore 6, 2) := by decide +kernel
theorem dL_lots_134 : decode cL_lots 134 = .ok (.iconst 0, 1) := by decide +kernel
theorem dL_lots_135 : decode cL_lots 135 = .ok (.istore 8, 2) := by decide +kernel
theorem dL_lots_137 : decode cL_lots 137 = .ok (.iload 8, 2) := by decide +kernel
theorem dL_lots_139 : decode cL_lots 139 = .ok (.aload_n 3, 1) := by decide +kernel
theorem dL_lots_140 : decode cL_lots 140 = .ok (.iconst 4, 1) := by decide +kernel
theorem dL_lots_141 : decode cL_lots 141 = .ok (.iaload, 1) := by decide +kernel
theorem dL_lots_142 : decode cL_lots 142 = .ok (.if_icmp .ge 98, 3) := by decide +kernel
theorem dL_lots_145 : decode cL_lots 145 = .ok (.iload 6, 2) := by decide +kernel
theorem dL_lots_147 : decode cL_lots 147 = .ok (.ifCond .eq 93, 3) := by decide +kernel
theorem dL_lots_150 : decode cL_lots 150 = .ok (.aload_n 0, 1) := by decide +kernel
theorem dL_lots_151 : decode cL_lots 151 = .ok (.iload 8, 2) := by decide +kernel
