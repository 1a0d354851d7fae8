theorem dL_lots_153 : decode cL_lots 153 = .ok (.iaload, 1) := by decide +kernel
theorem dL_lots_154 : decode cL_lots 154 = .ok (.bipush 8, 2) := by decide +kernel
theorem dL_lots_156 : decode cL_lots 156 = .ok (.idiv, 1) := by decide +kernel
theorem dL_lots_157 : decode cL_lots 157 = .ok (.iconst 4, 1) := by decide +kernel
theorem dL_lots_158 : decode cL_lots 158 = .ok (.irem, 1) := by decide +kernel
theorem dL_lots_159 : decode cL_lots 159 = .ok (.bipush 100, 2) := by decide +kernel
theorem dL_lots_161 : decode cL_lots 161 = .ok (.imul, 1) := by decide +kernel
theorem dL_lots_162 : decode cL_lots 162 = .ok (.aload_n 0, 1) := by decide +kernel
theorem dL_lots_163 : decode cL_lots 163 = .ok (.iload 8, 2) := by decide +kernel
theorem dL_lots_165 : decode cL_lots 165 = .ok (.iaload, 1) := by decide +kernel
theorem dL_lots_166 : decode cL_lots 166 = .ok (.bipush 32, 2) := by decide +kernel
theorem dL_lots_168 : decode cL_lots 168 = .ok (.idiv, 1) := by decide +kernel
theorem dL_lots_169 : decode cL_lots 169 = .ok (.iconst 4, 1) := by decide +kernel
theorem dL_lots_170 : decode cL_lots 170 = .ok (.irem, 1) := by decide +kernel
theorem dL_lots_171 : decode cL_lots 171 = .ok (.bipush 10, 2) := by decide +kernel
theorem dL_lots_173 : decode cL_lots 173 = .ok (.imul, 1) := by decide +kernel
theorem dL_lots_174 : decode cL_lots 174 = .ok (.iadd, 1) := by decide +kernel
theorem dL_lots_175 : decode cL_lots 175 = .ok (.bipush 9, 2) := by decide +kernel
theorem dL_lots_177 : decode cL_lots 177 = .ok (.iadd, 1) := by decide +kernel
theorem dL_lots_178 : decode cL_lots 178 = .ok (.aload_n 0, 1) := by decide +kernel
theorem dL_lots_179 : decode cL_lots 179 = .ok (.iload 8, 2) := by decide +kernel
theorem dL_lots_181 : decode cL_lots 181 = .ok (.iaload, 1) := by decide +kernel
theorem dL_lots_182 : decode cL_lots 182 = .ok (.sipush 128, 3) := by decide +kernel
theorem dL_lots_185 : decode cL_lots 185 = .ok (.idiv, 1) := by decide +kernel
theorem dL_lots_186 : decode cL_lots 186 = .ok (.bipush 16, 2) := by decide +kernel
theorem dL_lots_188 : decode cL_lots 188 = .ok (.irem, 1) := by decide +kernel
theorem dL_lots_189 : decode cL_lots 189 = .ok (.isub, 1) := by decide +kernel
theorem dL_lots_190 : decode cL_lots 190 = .ok (.istore 9, 2) := by decide +kernel
theorem dL_lots_192 : decode cL_lots 192 = .ok (.aload_n 0, 1) := by decide +kernel
theorem dL_lots_193 : decode cL_lots 193 = .ok (.iload 8, 2) := by decide +kernel
theorem dL_lots_195 : decode cL_lots 195 = .ok (.invokestatic 148, 3) := by decide +kernel
theorem dL_lots_198 : decode cL_lots 198 = .ok (.ifCond .eq 36, 3) := by decide +kernel
theorem dL_lots_201 : decode cL_lots 201 = .ok (.aload_n 0, 1) := by decide +kernel
theorem dL_lots_202 : decode cL_lots 202 = .ok (.iload 8, 2) := by decide +kernel
theorem dL_lots_204 : decode cL_lots 204 = .ok (.iaload, 1) := by decide +kernel
theorem dL_lots_205 : decode cL_lots 205 = .ok (.bipush 8, 2) := by decide +kernel
theorem dL_lots_207 : decode cL_lots 207 = .ok (.irem, 1) := by decide +kernel
theorem dL_lots_208 : decode cL_lots 208 = .ok (.iload 4, 2) := by decide +kernel
theorem dL_lots_210 : decode cL_lots 210 = .ok (.if_icmp .ne 24, 3) := by decide +kernel
theorem dL_lots_213 : decode cL_lots 213 = .ok (.iload 9, 2) := by decide +kernel
theorem dL_lots_215 : decode cL_lots 215 = .ok (.iload 7, 2) := by decide +kernel
theorem dL_lots_217 : decode cL_lots 217 = .ok (.if_icmp .ne 17, 3) := by decide +kernel
theorem dL_lots_220 : decode cL_lots 220 = .ok (.aload_n 0, 1) := by decide +kernel
theorem dL_lots_221 : decode cL_lots 221 = .ok (.iload 8, 2) := by decide +kernel
theorem dL_lots_223 : decode cL_lots 223 = .ok (.iconst 2, 1) := by decide +kernel
theorem dL_lots_224 : decode cL_lots 224 = .ok (.invokestatic 107, 3) := by decide +kernel
theorem dL_lots_227 : decode cL_lots 227 = .ok (.aload_n 1, 1) := by decide +kernel
theorem dL_lots_228 : decode cL_lots 228 = .ok (.iload 8, 2) := by decide +kernel
theorem dL_lots_230 : decode cL_lots 230 = .ok (.aload_n 3, 1) := by decide +kernel
theorem dL_lots_231 : decode cL_lots 231 = .ok (.iconst 5, 1) := by decide +kernel
theorem dL_lots_232 : decode cL_lots 232 = .ok (.iaload, 1) := by decide +kernel
theorem dL_lots_233 : decode cL_lots 233 = .ok (.iastore, 1) := by decide +kernel
theorem dL_lots_234 : decode cL_lots 234 = .ok (.iinc 8 1, 3) := by decide +kernel
theorem dL_lots_237 : decode cL_lots 237 = .ok (.goto (-100), 3) := by decide +kernel
theorem dL_lots_240 : decode cL_lots 240 = .ok (.iload 6, 2) := by decide +kernel
theorem dL_lots_242 : decode cL_lots 242 = .ok (.ifCond .eq 66, 3) := by decide +kernel
theorem dL_lots_245 : decode cL_lots 245 = .ok (.aload_n 2, 1) := by decide +kernel
theorem dL_lots_246 : decode cL_lots 246 = .ok (.aload_n 3, 1) := by decide +kernel
theorem dL_lots_247 : decode cL_lots 247 = .ok (.iconst 5, 1) := by decide +kernel
theorem dL_lots_248 : decode cL_lots 248 = .ok (.iaload, 1) := by decide +kernel
theorem dL_lots_249 : decode cL_lots 249 = .ok (.iload 4, 2) := by decide +kernel
theorem dL_lots_251 : decode cL_lots 251 = .ok (.bipush 8, 2) := by decide +kernel
theorem dL_lots_253 : decode cL_lots 253 = .ok (.iload 7, 2) := by decide +kernel
theorem dL_lots_255 : decode cL_lots 255 = .ok (.bipush 100, 2) := by decide +kernel
theorem dL_lots_257 : decode cL_lots 257 = .ok (.idiv, 1) := by decide +kernel
theorem dL_lots_258 : decode cL_lots 258 = .ok (.imul, 1) := by decide +kernel
theorem dL_lots_259 : decode cL_lots 259 = .ok (.iadd, 1) := by decide +kernel
theorem dL_lots_260 : decode cL_lots 260 = .ok (.bipush 32, 2) := by decide +kernel
theorem dL_lots_262 : decode cL_lots 262 = .ok (.iload 7, 2) := by decide +kernel
theorem dL_lots_264 : decode cL_lots 264 = .ok (.bipush 10, 2) := by decide +kernel
theorem dL_lots_266 : decode cL_lots 266 = .ok (.idiv, 1) := by decide +kernel
theorem dL_lots_267 : decode cL_lots 267 = .ok (.bipush 10, 2) := by decide +kernel
theorem dL_lots_269 : decode cL_lots 269 = .ok (.irem, 1) := by decide +kernel
theorem dL_lots_270 : decode cL_lots 270 = .ok (.imul, 1) := by decide +kernel
theorem dL_lots_271 : decode cL_lots 271 = .ok (.iadd, 1) := by decide +kernel
theorem dL_lots_272 : decode cL_lots 272 = .ok (.sipush 128, 3) := by decide +kernel
theorem dL_lots_275 : decode cL_lots 275 = .ok (.bipush 9, 2) := by decide +kernel
theorem dL_lots_277 : decode cL_lots 277 = .ok (.iload 7, 2) := by decide +kernel
theorem dL_lots_279 : decode cL_lots 279 = .ok (.bipush 10, 2) := by decide +kernel
theorem dL_lots_281 : decode cL_lots 281 = .ok (.irem, 1) := by decide +kernel
theorem dL_lots_282 : decode cL_lots 282 = .ok (.isub, 1) := by decide +kernel
theorem dL_lots_283 : decode cL_lots 283 = .ok (.imul, 1) := by decide +kernel
theorem dL_lots_284 : decode cL_lots 284 = .ok (.iadd, 1) := by decide +kernel
theorem dL_lots_285 : decode cL_lots 285 = .ok (.sipush 2048, 3) := by decide +kernel
theorem dL_lots_288 : decode cL_lots 288 = .ok (.aload_n 3, 1) := by decide +kernel
theorem dL_lots_289 : decode cL_lots 289 = .ok (.bipush 16, 2) := by decide +kernel
theorem dL_lots_291 : decode cL_lots 291 = .ok (.iload 7, 2) := by decide +kernel
theorem dL_lots_293 : decode cL_lots 293 = .ok (.bipush 100, 2) := by decide +kernel
theorem dL_lots_295 : decode cL_lots 295 = .ok (.idiv, 1) := by decide +kernel
theorem dL_lots_296 : decode cL_lots 296 = .ok (.iadd, 1) := by decide +kernel
theorem dL_lots_297 : decode cL_lots 297 = .ok (.iaload, 1) := by decide +kernel
theorem dL_lots_298 : decode cL_lots 298 = .ok (.imul, 1) := by decide +kernel
theorem dL_lots_299 : decode cL_lots 299 = .ok (.iadd, 1) := by decide +kernel
theorem dL_lots_300 : decode cL_lots 300 = .ok (.iastore, 1) := by decide +kernel
theorem dL_lots_301 : decode cL_lots 301 = .ok (.aload_n 3, 1) := by decide +kernel
theorem dL_lots_302 : decode cL_lots 302 = .ok (.iconst 5, 1) := by decide +kernel
theorem dL_lots_303 : decode cL_lots 303 = .ok (.dup2, 1) := by decide +kernel
theorem dL_lots_304 : decode cL_lots 304 = .ok (.iaload, 1) := by decide +kernel
theorem dL_lots_305 : decode cL_lots 305 = .ok (.iconst 1, 1) := by decide +kernel
theorem dL_lots_306 : decode cL_lots 306 = .ok (.iadd, 1) := by decide +kernel
theorem dL_lots_307 : decode cL_lots 307 = .ok (.iastore, 1) := by decide +kernel
theorem dL_lots_308 : decode cL_lots 308 = .ok (.iload 7, 2) := by decide +kernel
theorem dL_lots_310 : decode cL_lots 310 = .ok (.istore 5, 2) := by decide +kernel
theorem dL_lots_312 : decode cL_lots 312 = .ok (.goto (-306), 3) := by decide +kernel
theorem dL_lots_315 : decode cL_lots 315 = .ok (.return_, 1) := by decide +kernel
theorem dL_kilos_0 : decode cL_kilos 0 = .ok (.iconst 0, 1) := by decide +kernel
theorem dL_kilos_1 : decode cL_kilos 1 = .ok (.istore 4, 2) := by decide +kernel
theorem dL_kilos_3 : decode cL_kilos 3 = .ok (.iconst 0, 1) := by decide +kernel
theorem dL_kilos_4 : decode cL_kilos 4 = .ok (.istore 5, 2) := by decide +kernel
theorem dL_kilos_6 : decode cL_kilos 6 = .ok (.iload 5, 2) := by decide +kernel
theorem dL_kilos_8 : decode cL_kilos 8 = .ok (.aload_n 2, 1) := by decide +kernel
theorem dL_kilos_9 : decode cL_kilos 9 = .ok (.iconst 4, 1) := by decide +kernel
theorem dL_kilos_10 : decode cL_kilos 10 = .ok (.iaload, 1) := by decide +kernel
theorem dL_kilos_11 : decode cL_kilos 11 = .ok (.if_icmp .ge 94, 3) := by decide +kernel
theorem dL_kilos_14 : decode cL_kilos 14 = .ok (.aload_n 0, 1) := by decide +kernel
theorem dL_kilos_15 : decode cL_kilos 15 = .ok (.iload 5, 2) := by decide +kernel
theorem dL_kilos_17 : decode cL_kilos 17 = .ok (.invokestatic 95, 3) := by decide +kernel
theorem dL_kilos_20 : decode cL_kilos 20 = .ok (.istore 6, 2) := by decide +kernel
theorem dL_kilos_22 : decode cL_kilos 22 = .ok (.iload 6, 2) := by decide +kernel
theorem dL_kilos_24 : decode cL_kilos 24 = .ok (.iconst 3, 1) := by decide +kernel
theorem dL_kilos_25 : decode cL_kilos 25 = .ok (.if_icmp .eq 9, 3) := by decide +kernel
theorem dL_kilos_28 : decode cL_kilos 28 = .ok (.iload 6, 2) := by decide +kernel
theorem dL_kilos_30 : decode cL_kilos 30 = .ok (.iconst 4, 1) := by decide +kernel
theorem dL_kilos_31 : decode cL_kilos 31 = .ok (.if_icmp .ne 7, 3) := by decide +kernel
theorem dL_kilos_34 : decode cL_kilos 34 = .ok (.iconst 1, 1) := by decide +kernel
theorem dL_kilos_35 : decode cL_kilos 35 = .ok (.goto 35, 3) := by decide +kernel
theorem dL_kilos_38 : decode cL_kilos 38 = .ok (.iload 6, 2) := by decide +kernel
theorem dL_kilos_40 : decode cL_kilos 40 = .ok (.iconst 5, 1) := by decide +kernel
theorem dL_kilos_41 : decode cL_kilos 41 = .ok (.if_icmp .ne 7, 3) := by decide +kernel
theorem dL_kilos_44 : decode cL_kilos 44 = .ok (.iconst 2, 1) := by decide +kernel
theorem dL_kilos_45 : decode cL_kilos 45 = .ok (.goto 25, 3) := by decide +kernel
theorem dL_kilos_48 : decode cL_kilos 48 = .ok (.iload 6, 2) := by decide +kernel
theorem dL_kilos_50 : decode cL_kilos 50 = .ok (.bipush 7, 2) := by decide +kernel
theorem dL_kilos_52 : decode cL_kilos 52 = .ok (.if_icmp .ne 7, 3) := by decide +kernel
theorem dL_kilos_55 : decode cL_kilos 55 = .ok (.iconst 3, 1) := by decide +kernel
theorem dL_kilos_56 : decode cL_kilos 56 = .ok (.goto 14, 3) := by decide +kernel
theorem dL_kilos_59 : decode cL_kilos 59 = .ok (.iload 6, 2) := by decide +kernel
theorem dL_kilos_61 : decode cL_kilos 61 = .ok (.iconst 1, 1) := by decide +kernel
theorem dL_kilos_62 : decode cL_kilos 62 = .ok (.if_icmp .ne 7, 3) := by decide +kernel
theorem dL_kilos_65 : decode cL_kilos 65 = .ok (.iconst 4, 1) := by decide +kernel
theorem dL_kilos_66 : decode cL_kilos 66 = .ok (.goto 4, 3) := by decide +kernel
theorem dL_kilos_69 : decode cL_kilos 69 = .ok (.iconst 5, 1) := by decide +kernel
theorem dL_kilos_70 : decode cL_kilos 70 = .ok (.istore 7, 2) := by decide +kernel
theorem dL_kilos_72 : decode cL_kilos 72 = .ok (.iload 4, 2) := by decide +kernel
theorem dL_kilos_74 : decode cL_kilos 74 = .ok (.iload_n 3, 1) := by decide +kernel
theorem dL_kilos_75 : decode cL_kilos 75 = .ok (.ifCond .eq 9, 3) := by decide +kernel
theorem dL_kilos_78 : decode cL_kilos 78 = .ok (.iload 7, 2) := by decide +kernel
theorem dL_kilos_80 : decode cL_kilos 80 = .ok (.iload_n 3, 1) := by decide +kernel
theorem dL_kilos_81 : decode cL_kilos 81 = .ok (.if_icmp .ne 14, 3) := by decide +kernel
theorem dL_kilos_84 : decode cL_kilos 84 = .ok (.aload_n 1, 1) := by decide +kernel
theorem dL_kilos_85 : decode cL_kilos 85 = .ok (.iload 5, 2) := by decide +kernel
theorem dL_kilos_87 : decode cL_kilos 87 = .ok (.iaload, 1) := by decide +kernel
theorem dL_kilos_88 : decode cL_kilos 88 = .ok (.sipush 128, 3) := by decide +kernel
theorem dL_kilos_91 : decode cL_kilos 91 = .ok (.irem, 1) := by decide +kernel
theorem dL_kilos_92 : decode cL_kilos 92 = .ok (.goto 4, 3) := by decide +kernel
theorem dL_kilos_95 : decode cL_kilos 95 = .ok (.iconst 0, 1) := by decide +kernel
theorem dL_kilos_96 : decode cL_kilos 96 = .ok (.iadd, 1) := by decide +kernel
theorem dL_kilos_97 : decode cL_kilos 97 = .ok (.istore 4, 2) := by decide +kernel
theorem dL_kilos_99 : decode cL_kilos 99 = .ok (.iinc 5 1, 3) := by decide +kernel
theorem dL_kilos_102 : decode cL_kilos 102 = .ok (.goto (-96), 3) := by decide +kernel
theorem dL_kilos_105 : decode cL_kilos 105 = .ok (.iload 4, 2) := by decide +kernel
theorem dL_kilos_107 : decode cL_kilos 107 = .ok (.ireturn, 1) := by decide +kernel
theorem dL_isSo_0 : decode cL_isSo 0 = .ok (.aload_n 0, 1) := by decide +kernel
theorem dL_isSo_1 : decode cL_isSo 1 = .ok (.invokevirtual 156, 3) := by decide +kernel
theorem dL_isSo_4 : decode cL_isSo 4 = .ok (.aload 8, 2) := by decide +kernel
theorem dL_isSo_6 : decode cL_isSo 6 = .ok (.iconst 0, 1) := by decide +kernel
theorem dL_isSo_7 : decode cL_isSo 7 = .ok (.iaload, 1) := by decide +kernel
theorem dL_isSo_8 : decode cL_isSo 8 = .ok (.if_icmp .ne 37, 3) := by decide +kernel
theorem dL_isSo_11 : decode cL_isSo 11 = .ok (.aload_n 0, 1) := by decide +kernel
theorem dL_isSo_12 : decode cL_isSo 12 = .ok (.invokevirtual 159, 3) := by decide +kernel
theorem dL_isSo_15 : decode cL_isSo 15 = .ok (.aload 8, 2) := by decide +kernel
theorem dL_isSo_17 : decode cL_isSo 17 = .ok (.iconst 1, 1) := by decide +kernel
theorem dL_isSo_18 : decode cL_isSo 18 = .ok (.iaload, 1) := by decide +kernel
theorem dL_isSo_19 : decode cL_isSo 19 = .ok (.if_icmp .ne 26, 3) := by decide +kernel
theorem dL_isSo_22 : decode cL_isSo 22 = .ok (.aload_n 0, 1) := by decide +kernel
theorem dL_isSo_23 : decode cL_isSo 23 = .ok (.invokevirtual 162, 3) := by decide +kernel
theorem dL_isSo_26 : decode cL_isSo 26 = .ok (.aload 8, 2) := by decide +kernel
theorem dL_isSo_28 : decode cL_isSo 28 = .ok (.iconst 2, 1) := by decide +kernel
theorem dL_isSo_29 : decode cL_isSo 29 = .ok (.iaload, 1) := by decide +kernel
theorem dL_isSo_30 : decode cL_isSo 30 = .ok (.ifCond .le 7, 3) := by decide +kernel
theorem dL_isSo_33 : decode cL_isSo 33 = .ok (.iconst 1, 1) := by decide +kernel
theorem dL_isSo_34 : decode cL_isSo 34 = .ok (.goto 4, 3) := by decide +kernel
theorem dL_isSo_37 : decode cL_isSo 37 = .ok (.iconst 0, 1) := by decide +kernel
theorem dL_isSo_38 : decode cL_isSo 38 = .ok (.if_icmp .ne 7, 3) := by decide +kernel
theorem dL_isSo_41 : decode cL_isSo 41 = .ok (.iconst 1, 1) := by decide +kernel
theorem dL_isSo_42 : decode cL_isSo 42 = .ok (.goto 4, 3) := by decide +kernel
theorem dL_isSo_45 : decode cL_isSo 45 = .ok (.iconst 0, 1) := by decide +kernel
theorem dL_isSo_46 : decode cL_isSo 46 = .ok (.istore 13, 2) := by decide +kernel
theorem dL_isSo_48 : decode cL_isSo 48 = .ok (.iconst 0, 1) := by decide +kernel
theorem dL_isSo_49 : decode cL_isSo 49 = .ok (.istore 14, 2) := by decide +kernel
theorem dL_isSo_51 : decode cL_isSo 51 = .ok (.iload 14, 2) := by decide +kernel
theorem dL_isSo_53 : decode cL_isSo 53 = .ok (.aload 8, 2) := by decide +kernel
theorem dL_isSo_55 : decode cL_isSo 55 = .ok (.iconst 4, 1) := by decide +kernel
theorem dL_isSo_56 : decode cL_isSo 56 = .ok (.iaload, 1) := by decide +kernel
theorem dL_isSo_57 : decode cL_isSo 57 = .ok (.if_icmp .ge 122, 3) := by decide +kernel
theorem dL_isSo_60 : decode cL_isSo 60 = .ok (.iload 13, 2) := by decide +kernel
theorem dL_isSo_62 : decode cL_isSo 62 = .ok (.ifCond .eq 117, 3) := by decide +kernel
theorem dL_isSo_65 : decode cL_isSo 65 = .ok (.aload_n 0, 1) := by decide +kernel
theorem dL_isSo_66 : decode cL_isSo 66 = .ok (.iload 14, 2) := by decide +kernel
theorem dL_isSo_68 : decode cL_isSo 68 = .ok (.iconst 0, 1) := by decide +kernel
theorem dL_isSo_69 : decode cL_isSo 69 = .ok (.invokevirtual 71, 3) := by decide +kernel
theorem dL_isSo_72 : decode cL_isSo 72 = .ok (.aload_n 1, 1) := by decide +kernel
theorem dL_isSo_73 : decode cL_isSo 73 = .ok (.iload 14, 2) := by decide +kernel
theorem dL_isSo_75 : decode cL_isSo 75 = .ok (.invokestatic 95, 3) := by decide +kernel
theorem dL_isSo_78 : decode cL_isSo 78 = .ok (.if_icmp .ne 92, 3) := by decide +kernel
theorem dL_isSo_81 : decode cL_isSo 81 = .ok (.aload_n 0, 1) := by decide +kernel
theorem dL_isSo_82 : decode cL_isSo 82 = .ok (.iload 14, 2) := by decide +kernel
theorem dL_isSo_84 : decode cL_isSo 84 = .ok (.iconst 1, 1) := by decide +kernel
theorem dL_isSo_85 : decode cL_isSo 85 = .ok (.invokevirtual 71, 3) := by decide +kernel
theorem dL_isSo_88 : decode cL_isSo 88 = .ok (.aload_n 1, 1) := by decide +kernel
theorem dL_isSo_89 : decode cL_isSo 89 = .ok (.iload 14, 2) := by decide +kernel
theorem dL_isSo_91 : decode cL_isSo 91 = .ok (.iaload, 1) := by decide +kernel
theorem dL_isSo_92 : decode cL_isSo 92 = .ok (.sipush 128, 3) := by decide +kernel
theorem dL_isSo_95 : decode cL_isSo 95 = .ok (.idiv, 1) := by decide +kernel
theorem dL_isSo_96 : decode cL_isSo 96 = .ok (.bipush 16, 2) := by decide +kernel
theorem dL_isSo_98 : decode cL_isSo 98 = .ok (.irem, 1) := by decide +kernel
theorem dL_isSo_99 : decode cL_isSo 99 = .ok (.if_icmp .ne 71, 3) := by decide +kernel
theorem dL_isSo_102 : decode cL_isSo 102 = .ok (.aload_n 0, 1) := by decide +kernel
theorem dL_isSo_103 : decode cL_isSo 103 = .ok (.iload 14, 2) := by decide +kernel
theorem dL_isSo_105 : decode cL_isSo 105 = .ok (.iconst 2, 1) := by decide +kernel
theorem dL_isSo_106 : decode cL_isSo 106 = .ok (.invokevirtual 71, 3) := by decide +kernel
theorem dL_isSo_109 : decode cL_isSo 109 = .ok (.aload 4, 2) := by decide +kernel
theorem dL_isSo_111 : decode cL_isSo 111 = .ok (.iload 14, 2) := by decide +kernel
theorem dL_isSo_113 : decode cL_isSo 113 = .ok (.iaload, 1) := by decide +kernel
theorem dL_isSo_114 : decode cL_isSo 114 = .ok (.bipush 16, 2) := by decide +kernel
theorem dL_isSo_116 : decode cL_isSo 116 = .ok (.irem, 1) := by decide +kernel
theorem dL_isSo_117 : decode cL_isSo 117 = .ok (.iconst 1, 1) := by decide +kernel
theorem dL_isSo_118 : decode cL_isSo 118 = .ok (.isub, 1) := by decide +kernel
theorem dL_isSo_119 : decode cL_isSo 119 = .ok (.if_icmp .ne 51, 3) := by decide +kernel
theorem dL_isSo_122 : decode cL_isSo 122 = .ok (.aload_n 0, 1) := by decide +kernel
theorem dL_isSo_123 : decode cL_isSo 123 = .ok (.iload 14, 2) := by decide +kernel
theorem dL_isSo_125 : decode cL_isSo 125 = .ok (.iconst 3, 1) := by decide +kernel
theorem dL_isSo_126 : decode cL_isSo 126 = .ok (.invokevirtual 71, 3) := by decide +kernel
theorem dL_isSo_129 : decode cL_isSo 129 = .ok (.aload 4, 2) := by decide +kernel
theorem dL_isSo_131 : decode cL_isSo 131 = .ok (.iload 14, 2) := by decide +kernel
theorem dL_isSo_133 : decode cL_isSo 133 = .ok (.iaload, 1) := by decide +kernel
theorem dL_isSo_134 : decode cL_isSo 134 = .ok (.ifCond .ne 7, 3) := by decide +kernel
theorem dL_isSo_137 : decode cL_isSo 137 = .ok (.iconst (-1), 1) := by decide +kernel
theorem dL_isSo_138 : decode cL_isSo 138 = .ok (.goto 11, 3) := by decide +kernel
theorem dL_isSo_141 : decode cL_isSo 141 = .ok (.aload 4, 2) := by decide +kernel
theorem dL_isSo_143 : decode cL_isSo 143 = .ok (.iload 14, 2) := by decide +kernel
theorem dL_isSo_145 : decode cL_isSo 145 = .ok (.iaload, 1) := by decide +kernel
theorem dL_isSo_146 : decode cL_isSo 146 = .ok (.bipush 16, 2) := by decide +kernel
theorem dL_isSo_148 : decode cL_isSo 148 = .ok (.idiv, 1) := by decide +kernel
theorem dL_isSo_149 : decode cL_isSo 149 = .ok (.if_icmp .ne 21, 3) := by decide +kernel
theorem dL_isSo_152 : decode cL_isSo 152 = .ok (.aload_n 0, 1) := by decide +kernel
theorem dL_isSo_153 : decode cL_isSo 153 = .ok (.iload 14, 2) := by decide +kernel
theorem dL_isSo_155 : decode cL_isSo 155 = .ok (.iconst 4, 1) := by decide +kernel
theorem dL_isSo_156 : decode cL_isSo 156 = .ok (.invokevirtual 71, 3) := by decide +kernel
theorem dL_isSo_159 : decode cL_isSo 159 = .ok (.aload_n 3, 1) := by decide +kernel
theorem dL_isSo_160 : decode cL_isSo 160 = .ok (.iload 14, 2) := by decide +kernel
theorem dL_isSo_162 : decode cL_isSo 162 = .ok (.iaload, 1) := by decide +kernel
theorem dL_isSo_163 : decode cL_isSo 163 = .ok (.if_icmp .ne 7, 3) := by decide +kernel
theorem dL_isSo_166 : decode cL_isSo 166 = .ok (.iconst 1, 1) := by decide +kernel
theorem dL_isSo_167 : decode cL_isSo 167 = .ok (.goto 4, 3) := by decide +kernel
theorem dL_isSo_170 : decode cL_isSo 170 = .ok (.iconst 0, 1) := by decide +kernel
theorem dL_isSo_171 : decode cL_isSo 171 = .ok (.istore 13, 2) := by decide +kernel
theorem dL_isSo_173 : decode cL_isSo 173 = .ok (.iinc 14 1, 3) := by decide +kernel
theorem dL_isSo_176 : decode cL_isSo 176 = .ok (.goto (-125), 3) := by decide +kernel
theorem dL_isSo_179 : decode cL_isSo 179 = .ok (.iconst 0, 1) := by decide +kernel
theorem dL_isSo_180 : decode cL_isSo 180 = .ok (.istore 14, 2) := by decide +kernel
theorem dL_isSo_182 : decode cL_isSo 182 = .ok (.iload 14, 2) := by decide +kernel
theorem dL_isSo_184 : decode cL_isSo 184 = .ok (.aload 8, 2) := by decide +kernel
theorem dL_isSo_186 : decode cL_isSo 186 = .ok (.iconst 5, 1) := by decide +kernel
theorem dL_isSo_187 : decode cL_isSo 187 = .ok (.iaload, 1) := by decide +kernel
theorem dL_isSo_188 : decode cL_isSo 188 = .ok (.if_icmp .ge 141, 3) := by decide +kernel
theorem dL_isSo_191 : decode cL_isSo 191 = .ok (.iload 13, 2) := by decide +kernel
theorem dL_isSo_193 : decode cL_isSo 193 = .ok (.ifCond .eq 136, 3) := by decide +kernel
theorem dL_isSo_196 : decode cL_isSo 196 = .ok (.aload_n 0, 1) := by decide +kernel
theorem dL_isSo_197 : decode cL_isSo 197 = .ok (.iload 14, 2) := by decide +kernel
theorem dL_isSo_199 : decode cL_isSo 199 = .ok (.iconst 0, 1) := by decide +kernel
theorem dL_isSo_200 : decode cL_isSo 200 = .ok (.invokevirtual 73, 3) := by decide +kernel
theorem dL_isSo_203 : decode cL_isSo 203 = .ok (.aload 6, 2) := by decide +kernel
theorem dL_isSo_205 : decode cL_isSo 205 = .ok (.iload 14, 2) := by decide +kernel
theorem dL_isSo_207 : decode cL_isSo 207 = .ok (.iaload, 1) := by decide +kernel
theorem dL_isSo_208 : decode cL_isSo 208 = .ok (.bipush 8, 2) := by decide +kernel
theorem dL_isSo_210 : decode cL_isSo 210 = .ok (.irem, 1) := by decide +kernel
theorem dL_isSo_211 : decode cL_isSo 211 = .ok (.if_icmp .ne 109, 3) := by decide +kernel
theorem dL_isSo_214 : decode cL_isSo 214 = .ok (.aload_n 0, 1) := by decide +kernel
theorem dL_isSo_215 : decode cL_isSo 215 = .ok (.iload 14, 2) := by decide +kernel
theorem dL_isSo_217 : decode cL_isSo 217 = .ok (.iconst 1, 1) := by decide +kernel
theorem dL_isSo_218 : decode cL_isSo 218 = .ok (.invokevirtual 73, 3) := by decide +kernel
theorem dL_isSo_221 : decode cL_isSo 221 = .ok (.aload 6, 2) := by decide +kernel
theorem dL_isSo_223 : decode cL_isSo 223 = .ok (.iload 14, 2) := by decide +kernel
theorem dL_isSo_225 : decode cL_isSo 225 = .ok (.iaload, 1) := by decide +kernel
theorem dL_isSo_226 : decode cL_isSo 226 = .ok (.bipush 8, 2) := by decide +kernel
theorem dL_isSo_228 : decode cL_isSo 228 = .ok (.idiv, 1) := by decide +kernel
theorem dL_isSo_229 : decode cL_isSo 229 = .ok (.iconst 4, 1) := by decide +kernel
theorem dL_isSo_230 : decode cL_isSo 230 = .ok (.irem, 1) := by decide +kernel
theorem dL_isSo_231 : decode cL_isSo 231 = .ok (.if_icmp .ne 89, 3) := by decide +kernel
theorem dL_isSo_234 : decode cL_isSo 234 = .ok (.aload_n 0, 1) := by decide +kernel
theorem dL_isSo_235 : decode cL_isSo 235 = .ok (.iload 14, 2) := by decide +kernel
theorem dL_isSo_237 : decode cL_isSo 237 = .ok (.iconst 2, 1) := by decide +kernel
theorem dL_isSo_238 : decode cL_isSo 238 = .ok (.invokevirtual 73, 3) := by decide +kernel
theorem dL_isSo_241 : decode cL_isSo 241 = .ok (.aload 6, 2) := by decide +kernel
theorem dL_isSo_243 : decode cL_isSo 243 = .ok (.iload 14, 2) := by decide +kernel
theorem dL_isSo_245 : decode cL_isSo 245 = .ok (.iaload, 1) := by decide +kernel
theorem dL_isSo_246 : decode cL_isSo 246 = .ok (.bipush 32, 2) := by decide +kernel
theorem dL_isSo_248 : decode cL_isSo 248 = .ok (.idiv, 1) := by decide +kernel
theorem dL_isSo_249 : decode cL_isSo 249 = .ok (.iconst 4, 1) := by decide +kernel
theorem dL_isSo_250 : decode cL_isSo 250 = .ok (.irem, 1) := by decide +kernel
theorem dL_isSo_251 : decode cL_isSo 251 = .ok (.if_icmp .ne 69, 3) := by decide +kernel
theorem dL_isSo_254 : decode cL_isSo 254 = .ok (.aload_n 0, 1) := by decide +kernel
theorem dL_isSo_255 : decode cL_isSo 255 = .ok (.iload 14, 2) := by decide +kernel
theorem dL_isSo_257 : decode cL_isSo 257 = .ok (.iconst 3, 1) := by decide +kernel
theorem dL_isSo_258 : decode cL_isSo 258 = .ok (.invokevirtual 73, 3) := by decide +kernel
theorem dL_isSo_261 : decode cL_isSo 261 = .ok (.aload 6, 2) := by decide +kernel
theorem dL_isSo_263 : decode cL_isSo 263 = .ok (.iload 14, 2) := by decide +kernel
theorem dL_isSo_265 : decode cL_isSo 265 = .ok (.iaload, 1) := by decide +kernel
theorem dL_isSo_266 : decode cL_isSo 266 = .ok (.sipush 128, 3) := by decide +kernel
theorem dL_isSo_269 : decode cL_isSo 269 = .ok (.idiv, 1) := by decide +kernel
theorem dL_isSo_270 : decode cL_isSo 270 = .ok (.bipush 16, 2) := by decide +kernel
theorem dL_isSo_272 : decode cL_isSo 272 = .ok (.irem, 1) := by decide +kernel
theorem dL_isSo_273 : decode cL_isSo 273 = .ok (.if_icmp .ne 47, 3) := by decide +kernel
theorem dL_isSo_276 : decode cL_isSo 276 = .ok (.aload_n 0, 1) := by decide +kernel
theorem dL_isSo_277 : decode cL_isSo 277 = .ok (.iload 14, 2) := by decide +kernel
theorem dL_isSo_279 : decode cL_isSo 279 = .ok (.iconst 4, 1) := by decide +kernel
theorem dL_isSo_280 : decode cL_isSo 280 = .ok (.invokevirtual 73, 3) := by decide +kernel
theorem dL_isSo_283 : decode cL_isSo 283 = .ok (.aload 6, 2) := by decide +kernel
theorem dL_isSo_285 : decode cL_isSo 285 = .ok (.iload 14, 2) := by decide +kernel
theorem dL_isSo_287 : decode cL_isSo 287 = .ok (.iaload, 1) := by decide +kernel
theorem dL_isSo_288 : decode cL_isSo 288 = .ok (.sipush 2048, 3) := by decide +kernel
theorem dL_isSo_291 : decode cL_isSo 291 = .ok (.idiv, 1) := by decide +kernel
theorem dL_isSo_292 : decode cL_isSo 292 = .ok (.iconst 4, 1) := by decide +kernel
theorem dL_isSo_293 : decode cL_isSo 293 = .ok (.irem, 1) := by decide +kernel
theorem dL_isSo_294 : decode cL_isSo 294 = .ok (.if_icmp .ne 26, 3) := by decide +kernel
theorem dL_isSo_297 : decode cL_isSo 297 = .ok (.aload_n 0, 1) := by decide +kernel
theorem dL_isSo_298 : decode cL_isSo 298 = .ok (.iload 14, 2) := by decide +kernel
theorem dL_isSo_300 : decode cL_isSo 300 = .ok (.iconst 5, 1) := by decide +kernel
theorem dL_isSo_301 : decode cL_isSo 301 = .ok (.invokevirtual 73, 3) := by decide +kernel
theorem dL_isSo_304 : decode cL_isSo 304 = .ok (.aload_n 1, 1) := by decide +kernel
theorem dL_isSo_305 : decode cL_isSo 305 = .ok (.aload_n 3, 1) := by decide +kernel
theorem dL_isSo_306 : decode cL_isSo 306 = .ok (.aload 8, 2) := by decide +kernel
theorem dL_isSo_308 : decode cL_isSo 308 = .ok (.iload 14, 2) := by decide +kernel
theorem dL_isSo_310 : decode cL_isSo 310 = .ok (.invokestatic 116, 3) := by decide +kernel
theorem dL_isSo_313 : decode cL_isSo 313 = .ok (.if_icmp .ne 7, 3) := by decide +kernel
theorem dL_isSo_316 : decode cL_isSo 316 = .ok (.iconst 1, 1) := by decide +kernel
theorem dL_isSo_317 : decode cL_isSo 317 = .ok (.goto 4, 3) := by decide +kernel
theorem dL_isSo_320 : decode cL_isSo 320 = .ok (.iconst 0, 1) := by decide +kernel
theorem dL_isSo_321 : decode cL_isSo 321 = .ok (.istore 13, 2) := by decide +kernel
theorem dL_isSo_323 : decode cL_isSo 323 = .ok (.iinc 14 1, 3) := by decide +kernel
theorem dL_isSo_326 : decode cL_isSo 326 = .ok (.goto (-144), 3) := by decide +kernel
theorem dL_isSo_329 : decode cL_isSo 329 = .ok (.iconst 0, 1) := by decide +kernel
theorem dL_isSo_330 : decode cL_isSo 330 = .ok (.istore 14, 2) := by decide +kernel
theorem dL_isSo_332 : decode cL_isSo 332 = .ok (.iload 14, 2) := by decide +kernel
theorem dL_isSo_334 : decode cL_isSo 334 = .ok (.iconst 3, 1) := by decide +kernel
theorem dL_isSo_335 : decode cL_isSo 335 = .ok (.if_icmp .ge 169, 3) := by decide +kernel
theorem dL_isSo_338 : decode cL_isSo 338 = .ok (.iload 13, 2) := by decide +kernel
theorem dL_isSo_340 : decode cL_isSo 340 = .ok (.ifCond .eq 164, 3) := by decide +kernel
theorem dL_isSo_343 : decode cL_isSo 343 = .ok (.iconst 0, 1) := by decide +kernel
theorem dL_isSo_344 : decode cL_isSo 344 = .ok (.istore 15, 2) := by decide +kernel
theorem dL_isSo_346 : decode cL_isSo 346 = .ok (.iconst 0, 1) := by decide +kernel
theorem dL_isSo_347 : decode cL_isSo 347 = .ok (.istore 16, 2) := by decide +kernel
theorem dL_isSo_349 : decode cL_isSo 349 = .ok (.iload 16, 2) := by decide +kernel
theorem dL_isSo_351 : decode cL_isSo 351 = .ok (.aload 8, 2) := by decide +kernel
theorem dL_isSo_353 : decode cL_isSo 353 = .ok (.iconst 5, 1) := by decide +kernel
theorem dL_isSo_354 : decode cL_isSo 354 = .ok (.iaload, 1) := by decide +kernel
theorem dL_isSo_355 : decode cL_isSo 355 = .ok (.if_icmp .ge 46, 3) := by decide +kernel
theorem dL_isSo_358 : decode cL_isSo 358 = .ok (.iload 15, 2) := by decide +kernel
theorem dL_isSo_360 : decode cL_isSo 360 = .ok (.aload 6, 2) := by decide +kernel
theorem dL_isSo_362 : decode cL_isSo 362 = .ok (.iload 16, 2) := by decide +kernel
theorem dL_isSo_364 : decode cL_isSo 364 = .ok (.iaload, 1) := by decide +kernel
theorem dL_isSo_365 : decode cL_isSo 365 = .ok (.sipush 2048, 3) := by decide +kernel
theorem dL_isSo_368 : decode cL_isSo 368 = .ok (.idiv, 1) := by decide +kernel
theorem dL_isSo_369 : decode cL_isSo 369 = .ok (.iconst 4, 1) := by decide +kernel
theorem dL_isSo_370 : decode cL_isSo 370 = .ok (.irem, 1) := by decide +kernel
theorem dL_isSo_371 : decode cL_isSo 371 = .ok (.iload 14, 2) := by decide +kernel
theorem dL_isSo_373 : decode cL_isSo 373 = .ok (.if_icmp .ne 18, 3) := by decide +kernel
theorem dL_isSo_376 : decode cL_isSo 376 = .ok (.aload 6, 2) := by decide +kernel
theorem dL_isSo_378 : decode cL_isSo 378 = .ok (.iload 16, 2) := by decide +kernel
theorem dL_isSo_380 : decode cL_isSo 380 = .ok (.iaload, 1) := by decide +kernel
theorem dL_isSo_381 : decode cL_isSo 381 = .ok (.sipush 8192, 3) := by decide +kernel
theorem dL_isSo_384 : decode cL_isSo 384 = .ok (.if_icmp .ge 7, 3) := by decide +kernel
theorem dL_isSo_387 : decode cL_isSo 387 = .ok (.iconst 1, 1) := by decide +kernel
theorem dL_isSo_388 : decode cL_isSo 388 = .ok (.goto 4, 3) := by decide +kernel
theorem dL_isSo_391 : decode cL_isSo 391 = .ok (.iconst 0, 1) := by decide +kernel
theorem dL_isSo_392 : decode cL_isSo 392 = .ok (.iadd, 1) := by decide +kernel
theorem dL_isSo_393 : decode cL_isSo 393 = .ok (.istore 15, 2) := by decide +kernel
theorem dL_isSo_395 : decode cL_isSo 395 = .ok (.iinc 16 1, 3) := by decide +kernel
theorem dL_isSo_398 : decode cL_isSo 398 = .ok (.goto (-49), 3) := by decide +kernel
theorem dL_isSo_401 : decode cL_isSo 401 = .ok (.aload_n 0, 1) := by decide +kernel
theorem dL_isSo_402 : decode cL_isSo 402 = .ok (.iload 14, 2) := by decide +kernel
theorem dL_isSo_404 : decode cL_isSo 404 = .ok (.iconst 0, 1) := by decide +kernel
theorem dL_isSo_405 : decode cL_isSo 405 = .ok (.invokevirtual 166, 3) := by decide +kernel
theorem dL_isSo_408 : decode cL_isSo 408 = .ok (.aload 7, 2) := by decide +kernel
theorem dL_isSo_410 : decode cL_isSo 410 = .ok (.bipush 8, 2) := by decide +kernel
theorem dL_isSo_412 : decode cL_isSo 412 = .ok (.iload 14, 2) := by decide +kernel
theorem dL_isSo_414 : decode cL_isSo 414 = .ok (.imul, 1) := by decide +kernel
theorem dL_isSo_415 : decode cL_isSo 415 = .ok (.iaload, 1) := by decide +kernel
theorem dL_isSo_416 : decode cL_isSo 416 = .ok (.if_icmp .ne 79, 3) := by decide +kernel
theorem dL_isSo_419 : decode cL_isSo 419 = .ok (.aload_n 0, 1) := by decide +kernel
theorem dL_isSo_420 : decode cL_isSo 420 = .ok (.iload 14, 2) := by decide +kernel
theorem dL_isSo_422 : decode cL_isSo 422 = .ok (.iconst 1, 1) := by decide +kernel
theorem dL_isSo_423 : decode cL_isSo 423 = .ok (.invokevirtual 166, 3) := by decide +kernel
theorem dL_isSo_426 : decode cL_isSo 426 = .ok (.aload 7, 2) := by decide +kernel
theorem dL_isSo_428 : decode cL_isSo 428 = .ok (.bipush 8, 2) := by decide +kernel
theorem dL_isSo_430 : decode cL_isSo 430 = .ok (.iload 14, 2) := by decide +kernel
theorem dL_isSo_432 : decode cL_isSo 432 = .ok (.imul, 1) := by decide +kernel
theorem dL_isSo_433 : decode cL_isSo 433 = .ok (.iconst 1, 1) := by decide +kernel
theorem dL_isSo_434 : decode cL_isSo 434 = .ok (.iadd, 1) := by decide +kernel
theorem dL_isSo_435 : decode cL_isSo 435 = .ok (.iaload, 1) := by decide +kernel
theorem dL_isSo_436 : decode cL_isSo 436 = .ok (.if_icmp .ne 59, 3) := by decide +kernel
theorem dL_isSo_439 : decode cL_isSo 439 = .ok (.aload_n 0, 1) := by decide +kernel
theorem dL_isSo_440 : decode cL_isSo 440 = .ok (.iload 14, 2) := by decide +kernel
theorem dL_isSo_442 : decode cL_isSo 442 = .ok (.iconst 2, 1) := by decide +kernel
theorem dL_isSo_443 : decode cL_isSo 443 = .ok (.invokevirtual 166, 3) := by decide +kernel
theorem dL_isSo_446 : decode cL_isSo 446 = .ok (.aload 7, 2) := by decide +kernel
theorem dL_isSo_448 : decode cL_isSo 448 = .ok (.bipush 8, 2) := by decide +kernel
theorem dL_isSo_450 : decode cL_isSo 450 = .ok (.iload 14, 2) := by decide +kernel
theorem dL_isSo_452 : decode cL_isSo 452 = .ok (.imul, 1) := by decide +kernel
theorem dL_isSo_453 : decode cL_isSo 453 = .ok (.iconst 2, 1) := by decide +kernel
theorem dL_isSo_454 : decode cL_isSo 454 = .ok (.iadd, 1) := by decide +kernel
theorem dL_isSo_455 : decode cL_isSo 455 = .ok (.iaload, 1) := by decide +kernel
theorem dL_isSo_456 : decode cL_isSo 456 = .ok (.if_icmp .ne 39, 3) := by decide +kernel
theorem dL_isSo_459 : decode cL_isSo 459 = .ok (.aload_n 0, 1) := by decide +kernel
theorem dL_isSo_460 : decode cL_isSo 460 = .ok (.iload 14, 2) := by decide +kernel
theorem dL_isSo_462 : decode cL_isSo 462 = .ok (.iconst 3, 1) := by decide +kernel
theorem dL_isSo_463 : decode cL_isSo 463 = .ok (.invokevirtual 166, 3) := by decide +kernel
theorem dL_isSo_466 : decode cL_isSo 466 = .ok (.aload 7, 2) := by decide +kernel
theorem dL_isSo_468 : decode cL_isSo 468 = .ok (.bipush 8, 2) := by decide +kernel
theorem dL_isSo_470 : decode cL_isSo 470 = .ok (.iload 14, 2) := by decide +kernel
theorem dL_isSo_472 : decode cL_isSo 472 = .ok (.imul, 1) := by decide +kernel
theorem dL_isSo_473 : decode cL_isSo 473 = .ok (.iconst 4, 1) := by decide +kernel
theorem dL_isSo_474 : decode cL_isSo 474 = .ok (.iadd, 1) := by decide +kernel
theorem dL_isSo_475 : decode cL_isSo 475 = .ok (.iaload, 1) := by decide +kernel
theorem dL_isSo_476 : decode cL_isSo 476 = .ok (.if_icmp .ne 19, 3) := by decide +kernel
theorem dL_isSo_479 : decode cL_isSo 479 = .ok (.aload_n 0, 1) := by decide +kernel
theorem dL_isSo_480 : decode cL_isSo 480 = .ok (.iload 14, 2) := by decide +kernel
theorem dL_isSo_482 : decode cL_isSo 482 = .ok (.iconst 4, 1) := by decide +kernel
theorem dL_isSo_483 : decode cL_isSo 483 = .ok (.invokevirtual 166, 3) := by decide +kernel
theorem dL_isSo_486 : decode cL_isSo 486 = .ok (.iload 15, 2) := by decide +kernel
theorem dL_isSo_488 : decode cL_isSo 488 = .ok (.if_icmp .ne 7, 3) := by decide +kernel
theorem dL_isSo_491 : decode cL_isSo 491 = .ok (.iconst 1, 1) := by decide +kernel
theorem dL_isSo_492 : decode cL_isSo 492 = .ok (.goto 4, 3) := by decide +kernel
theorem dL_isSo_495 : decode cL_isSo 495 = .ok (.iconst 0, 1) := by decide +kernel
theorem dL_isSo_496 : decode cL_isSo 496 = .ok (.istore 13, 2) := by decide +kernel
theorem dL_isSo_498 : decode cL_isSo 498 = .ok (.iinc 14 1, 3) := by decide +kernel
theorem dL_isSo_501 : decode cL_isSo 501 = .ok (.goto (-169), 3) := by decide +kernel
theorem dL_isSo_504 : decode cL_isSo 504 = .ok (.iconst 0, 1) := by decide +kernel
theorem dL_isSo_505 : decode cL_isSo 505 = .ok (.istore 14, 2) := by decide +kernel
theorem dL_isSo_507 : decode cL_isSo 507 = .ok (.iload 14, 2) := by decide +kernel
theorem dL_isSo_509 : decode cL_isSo 509 = .ok (.bipush 8, 2) := by decide +kernel
theorem dL_isSo_511 : decode cL_isSo 511 = .ok (.if_icmp .ge 205, 3) := by decide +kernel
theorem dL_isSo_514 : decode cL_isSo 514 = .ok (.iload 13, 2) := by decide +kernel
theorem dL_isSo_516 : decode cL_isSo 516 = .ok (.ifCond .eq 200, 3) := by decide +kernel
theorem dL_isSo_519 : decode cL_isSo 519 = .ok (.iconst 0, 1) := by decide +kernel
theorem dL_isSo_520 : decode cL_isSo 520 = .ok (.istore 15, 2) := by decide +kernel
theorem dL_isSo_522 : decode cL_isSo 522 = .ok (.iconst 0, 1) := by decide +kernel
theorem dL_isSo_523 : decode cL_isSo 523 = .ok (.istore 16, 2) := by decide +kernel
theorem dL_isSo_525 : decode cL_isSo 525 = .ok (.iload 16, 2) := by decide +kernel
theorem dL_isSo_527 : decode cL_isSo 527 = .ok (.aload 8, 2) := by decide +kernel
theorem dL_isSo_529 : decode cL_isSo 529 = .ok (.iconst 4, 1) := by decide +kernel
theorem dL_isSo_530 : decode cL_isSo 530 = .ok (.iaload, 1) := by decide +kernel
theorem dL_isSo_531 : decode cL_isSo 531 = .ok (.if_icmp .ge 34, 3) := by decide +kernel
theorem dL_isSo_534 : decode cL_isSo 534 = .ok (.iload 15, 2) := by decide +kernel
theorem dL_isSo_536 : decode cL_isSo 536 = .ok (.aload 4, 2) := by decide +kernel
theorem dL_isSo_538 : decode cL_isSo 538 = .ok (.iload 16, 2) := by decide +kernel
theorem dL_isSo_540 : decode cL_isSo 540 = .ok (.iaload, 1) := by decide +kernel
theorem dL_isSo_541 : decode cL_isSo 541 = .ok (.bipush 16, 2) := by decide +kernel
theorem dL_isSo_543 : decode cL_isSo 543 = .ok (.irem, 1) := by decide +kernel
theorem dL_isSo_544 : decode cL_isSo 544 = .ok (.iload 14, 2) := by decide +kernel
theorem dL_isSo_546 : decode cL_isSo 546 = .ok (.iconst 1, 1) := by decide +kernel
theorem dL_isSo_547 : decode cL_isSo 547 = .ok (.iadd, 1) := by decide +kernel
theorem dL_isSo_548 : decode cL_isSo 548 = .ok (.if_icmp .ne 7, 3) := by decide +kernel
theorem dL_isSo_551 : decode cL_isSo 551 = .ok (.iconst 1, 1) := by decide +kernel
theorem dL_isSo_552 : decode cL_isSo 552 = .ok (.goto 4, 3) := by decide +kernel
theorem dL_isSo_555 : decode cL_isSo 555 = .ok (.iconst 0, 1) := by decide +kernel
theorem dL_isSo_556 : decode cL_isSo 556 = .ok (.iadd, 1) := by decide +kernel
theorem dL_isSo_557 : decode cL_isSo 557 = .ok (.istore 15, 2) := by decide +kernel
theorem dL_isSo_559 : decode cL_isSo 559 = .ok (.iinc 16 1, 3) := by decide +kernel
theorem dL_isSo_562 : decode cL_isSo 562 = .ok (.goto (-37), 3) := by decide +kernel
theorem dL_isSo_565 : decode cL_isSo 565 = .ok (.aload 9, 2) := by decide +kernel
theorem dL_isSo_567 : decode cL_isSo 567 = .ok (.bipush 32, 2) := by decide +kernel
theorem dL_isSo_569 : decode cL_isSo 569 = .ok (.iconst 4, 1) := by decide +kernel
theorem dL_isSo_570 : decode cL_isSo 570 = .ok (.iload 14, 2) := by decide +kernel
theorem dL_isSo_572 : decode cL_isSo 572 = .ok (.imul, 1) := by decide +kernel
theorem dL_isSo_573 : decode cL_isSo 573 = .ok (.iadd, 1) := by decide +kernel
theorem dL_isSo_574 : decode cL_isSo 574 = .ok (.iaload, 1) := by decide +kernel
theorem dL_isSo_575 : decode cL_isSo 575 = .ok (.aload 9, 2) := by decide +kernel
theorem dL_isSo_577 : decode cL_isSo 577 = .ok (.bipush 33, 2) := by decide +kernel
theorem dL_isSo_579 : decode cL_isSo 579 = .ok (.iconst 4, 1) := by decide +kernel
theorem dL_isSo_580 : decode cL_isSo 580 = .ok (.iload 14, 2) := by decide +kernel
theorem dL_isSo_582 : decode cL_isSo 582 = .ok (.imul, 1) := by decide +kernel
theorem dL_isSo_583 : decode cL_isSo 583 = .ok (.iadd, 1) := by decide +kernel
theorem dL_isSo_584 : decode cL_isSo 584 = .ok (.iaload, 1) := by decide +kernel
theorem dL_isSo_585 : decode cL_isSo 585 = .ok (.iadd, 1) := by decide +kernel
theorem dL_isSo_586 : decode cL_isSo 586 = .ok (.aload 9, 2) := by decide +kernel
theorem dL_isSo_588 : decode cL_isSo 588 = .ok (.bipush 34, 2) := by decide +kernel
theorem dL_isSo_590 : decode cL_isSo 590 = .ok (.iconst 4, 1) := by decide +kernel
theorem dL_isSo_591 : decode cL_isSo 591 = .ok (.iload 14, 2) := by decide +kernel
theorem dL_isSo_593 : decode cL_isSo 593 = .ok (.imul, 1) := by decide +kernel
theorem dL_isSo_594 : decode cL_isSo 594 = .ok (.iadd, 1) := by decide +kernel
theorem dL_isSo_595 : decode cL_isSo 595 = .ok (.iaload, 1) := by decide +kernel
theorem dL_isSo_596 : decode cL_isSo 596 = .ok (.iadd, 1) := by decide +kernel
theorem dL_isSo_597 : decode cL_isSo 597 = .ok (.aload 9, 2) := by decide +kernel
theorem dL_isSo_599 : decode cL_isSo 599 = .ok (.bipush 35, 2) := by decide +kernel
theorem dL_isSo_601 : decode cL_isSo 601 = .ok (.iconst 4, 1) := by decide +kernel
theorem dL_isSo_602 : decode cL_isSo 602 = .ok (.iload 14, 2) := by decide +kernel
theorem dL_isSo_604 : decode cL_isSo 604 = .ok (.imul, 1) := by decide +kernel
theorem dL_isSo_605 : decode cL_isSo 605 = .ok (.iadd, 1) := by decide +kernel
theorem dL_isSo_606 : decode cL_isSo 606 = .ok (.iaload, 1) := by decide +kernel
theorem dL_isSo_607 : decode cL_isSo 607 = .ok (.iadd, 1) := by decide +kernel
theorem dL_isSo_608 : decode cL_isSo 608 = .ok (.istore 16, 2) := by decide +kernel
theorem dL_isSo_610 : decode cL_isSo 610 = .ok (.aload_n 0, 1) := by decide +kernel
theorem dL_isSo_611 : decode cL_isSo 611 = .ok (.iload 14, 2) := by decide +kernel
theorem dL_isSo_613 : decode cL_isSo 613 = .ok (.iconst 0, 1) := by decide +kernel
theorem dL_isSo_614 : decode cL_isSo 614 = .ok (.invokevirtual 169, 3) := by decide +kernel
theorem dL_isSo_617 : decode cL_isSo 617 = .ok (.aload 8, 2) := by decide +kernel
theorem dL_isSo_619 : decode cL_isSo 619 = .ok (.bipush 24, 2) := by decide +kernel
theorem dL_isSo_621 : decode cL_isSo 621 = .ok (.iload 14, 2) := by decide +kernel
theorem dL_isSo_623 : decode cL_isSo 623 = .ok (.iadd, 1) := by decide +kernel
theorem dL_isSo_624 : decode cL_isSo 624 = .ok (.iaload, 1) := by decide +kernel
theorem dL_isSo_625 : decode cL_isSo 625 = .ok (.if_icmp .ne 82, 3) := by decide +kernel
theorem dL_isSo_628 : decode cL_isSo 628 = .ok (.aload_n 0, 1) := by decide +kernel
theorem dL_isSo_629 : decode cL_isSo 629 = .ok (.iload 14, 2) := by decide +kernel
theorem dL_isSo_631 : decode cL_isSo 631 = .ok (.iconst 1, 1) := by decide +kernel
theorem dL_isSo_632 : decode cL_isSo 632 = .ok (.invokevirtual 169, 3) := by decide +kernel
theorem dL_isSo_635 : decode cL_isSo 635 = .ok (.aload 8, 2) := by decide +kernel
theorem dL_isSo_637 : decode cL_isSo 637 = .ok (.bipush 40, 2) := by decide +kernel
theorem dL_isSo_639 : decode cL_isSo 639 = .ok (.iload 14, 2) := by decide +kernel
theorem dL_isSo_641 : decode cL_isSo 641 = .ok (.iadd, 1) := by decide +kernel
theorem dL_isSo_642 : decode cL_isSo 642 = .ok (.iaload, 1) := by decide +kernel
theorem dL_isSo_643 : decode cL_isSo 643 = .ok (.if_icmp .ne 64, 3) := by decide +kernel
theorem dL_isSo_646 : decode cL_isSo 646 = .ok (.aload_n 0, 1) := by decide +kernel
theorem dL_isSo_647 : decode cL_isSo 647 = .ok (.iload 14, 2) := by decide +kernel
theorem dL_isSo_649 : decode cL_isSo 649 = .ok (.iconst 2, 1) := by decide +kernel
theorem dL_isSo_650 : decode cL_isSo 650 = .ok (.invokevirtual 169, 3) := by decide +kernel
theorem dL_isSo_653 : decode cL_isSo 653 = .ok (.iload 15, 2) := by decide +kernel
theorem dL_isSo_655 : decode cL_isSo 655 = .ok (.if_icmp .ne 52, 3) := by decide +kernel
theorem dL_isSo_658 : decode cL_isSo 658 = .ok (.aload_n 0, 1) := by decide +kernel
theorem dL_isSo_659 : decode cL_isSo 659 = .ok (.iload 14, 2) := by decide +kernel
theorem dL_isSo_661 : decode cL_isSo 661 = .ok (.iconst 0, 1) := by decide +kernel
theorem dL_isSo_662 : decode cL_isSo 662 = .ok (.invokevirtual 172, 3) := by decide +kernel
theorem dL_isSo_665 : decode cL_isSo 665 = .ok (.aload 10, 2) := by decide +kernel
theorem dL_isSo_667 : decode cL_isSo 667 = .ok (.bipush 16, 2) := by decide +kernel
theorem dL_isSo_669 : decode cL_isSo 669 = .ok (.iload 14, 2) := by decide +kernel
theorem dL_isSo_671 : decode cL_isSo 671 = .ok (.iadd, 1) := by decide +kernel
theorem dL_isSo_672 : decode cL_isSo 672 = .ok (.iaload, 1) := by decide +kernel
theorem dL_isSo_673 : decode cL_isSo 673 = .ok (.if_icmp .ne 34, 3) := by decide +kernel
theorem dL_isSo_676 : decode cL_isSo 676 = .ok (.aload_n 0, 1) := by decide +kernel
theorem dL_isSo_677 : decode cL_isSo 677 = .ok (.iload 14, 2) := by decide +kernel
theorem dL_isSo_679 : decode cL_isSo 679 = .ok (.iconst 1, 1) := by decide +kernel
theorem dL_isSo_680 : decode cL_isSo 680 = .ok (.invokevirtual 172, 3) := by decide +kernel
theorem dL_isSo_683 : decode cL_isSo 683 = .ok (.aload 10, 2) := by decide +kernel
theorem dL_isSo_685 : decode cL_isSo 685 = .ok (.iload 14, 2) := by decide +kernel
theorem dL_isSo_687 : decode cL_isSo 687 = .ok (.iaload, 1) := by decide +kernel
theorem dL_isSo_688 : decode cL_isSo 688 = .ok (.if_icmp .ne 19, 3) := by decide +kernel
theorem dL_isSo_691 : decode cL_isSo 691 = .ok (.aload_n 0, 1) := by decide +kernel
theorem dL_isSo_692 : decode cL_isSo 692 = .ok (.iload 14, 2) := by decide +kernel
theorem dL_isSo_694 : decode cL_isSo 694 = .ok (.iconst 2, 1) := by decide +kernel
theorem dL_isSo_695 : decode cL_isSo 695 = .ok (.invokevirtual 172, 3) := by decide +kernel
theorem dL_isSo_698 : decode cL_isSo 698 = .ok (.iload 16, 2) := by decide +kernel
theorem dL_isSo_700 : decode cL_isSo 700 = .ok (.if_icmp .ne 7, 3) := by decide +kernel
theorem dL_isSo_703 : decode cL_isSo 703 = .ok (.iconst 1, 1) := by decide +kernel
theorem dL_isSo_704 : decode cL_isSo 704 = .ok (.goto 4, 3) := by decide +kernel
theorem dL_isSo_707 : decode cL_isSo 707 = .ok (.iconst 0, 1) := by decide +kernel
theorem dL_isSo_708 : decode cL_isSo 708 = .ok (.istore 13, 2) := by decide +kernel
theorem dL_isSo_710 : decode cL_isSo 710 = .ok (.iinc 14 1, 3) := by decide +kernel
theorem dL_isSo_713 : decode cL_isSo 713 = .ok (.goto (-206), 3) := by decide +kernel
theorem dL_isSo_716 : decode cL_isSo 716 = .ok (.iconst 0, 1) := by decide +kernel
theorem dL_isSo_717 : decode cL_isSo 717 = .ok (.istore 14, 2) := by decide +kernel
theorem dL_isSo_719 : decode cL_isSo 719 = .ok (.iload 14, 2) := by decide +kernel
theorem dL_isSo_721 : decode cL_isSo 721 = .ok (.bipush 6, 2) := by decide +kernel
theorem dL_isSo_723 : decode cL_isSo 723 = .ok (.if_icmp .ge 64, 3) := by decide +kernel
theorem dL_isSo_726 : decode cL_isSo 726 = .ok (.iload 13, 2) := by decide +kernel
theorem dL_isSo_728 : decode cL_isSo 728 = .ok (.ifCond .eq 59, 3) := by decide +kernel
theorem dL_isSo_731 : decode cL_isSo 731 = .ok (.aload_n 0, 1) := by decide +kernel
theorem dL_isSo_732 : decode cL_isSo 732 = .ok (.iload 14, 2) := by decide +kernel
theorem dL_isSo_734 : decode cL_isSo 734 = .ok (.invokevirtual 175, 3) := by decide +kernel
theorem dL_isSo_737 : decode cL_isSo 737 = .ok (.aload_n 1, 1) := by decide +kernel
theorem dL_isSo_738 : decode cL_isSo 738 = .ok (.aload_n 2, 1) := by decide +kernel
theorem dL_isSo_739 : decode cL_isSo 739 = .ok (.aload 8, 2) := by decide +kernel
theorem dL_isSo_741 : decode cL_isSo 741 = .ok (.iload 14, 2) := by decide +kernel
theorem dL_isSo_743 : decode cL_isSo 743 = .ok (.invokestatic 178, 3) := by decide +kernel
theorem dL_isSo_746 : decode cL_isSo 746 = .ok (.if_icmp .ne 32, 3) := by decide +kernel
theorem dL_isSo_749 : decode cL_isSo 749 = .ok (.iload 12, 2) := by decide +kernel
theorem dL_isSo_751 : decode cL_isSo 751 = .ok (.iconst 3, 1) := by decide +kernel
theorem dL_isSo_752 : decode cL_isSo 752 = .ok (.irem, 1) := by decide +kernel
theorem dL_isSo_753 : decode cL_isSo 753 = .ok (.ifCond .gt 21, 3) := by decide +kernel
theorem dL_isSo_756 : decode cL_isSo 756 = .ok (.aload_n 0, 1) := by decide +kernel
theorem dL_isSo_757 : decode cL_isSo 757 = .ok (.iload 14, 2) := by decide +kernel
theorem dL_isSo_759 : decode cL_isSo 759 = .ok (.invokevirtual 180, 3) := by decide +kernel
theorem dL_isSo_762 : decode cL_isSo 762 = .ok (.aload_n 1, 1) := by decide +kernel
theorem dL_isSo_763 : decode cL_isSo 763 = .ok (.aload_n 2, 1) := by decide +kernel
theorem dL_isSo_764 : decode cL_isSo 764 = .ok (.aload 8, 2) := by decide +kernel
theorem dL_isSo_766 : decode cL_isSo 766 = .ok (.iload 14, 2) := by decide +kernel
theorem dL_isSo_768 : decode cL_isSo 768 = .ok (.invokestatic 178, 3) := by decide +kernel
theorem dL_isSo_771 : decode cL_isSo 771 = .ok (.if_icmp .ne 7, 3) := by decide +kernel
theorem dL_isSo_774 : decode cL_isSo 774 = .ok (.iconst 1, 1) := by decide +kernel
theorem dL_isSo_775 : decode cL_isSo 775 = .ok (.goto 4, 3) := by decide +kernel
theorem dL_isSo_778 : decode cL_isSo 778 = .ok (.iconst 0, 1) := by decide +kernel
theorem dL_isSo_779 : decode cL_isSo 779 = .ok (.istore 13, 2) := by decide +kernel
theorem dL_isSo_781 : decode cL_isSo 781 = .ok (.iinc 14 1, 3) := by decide +kernel
theorem dL_isSo_784 : decode cL_isSo 784 = .ok (.goto (-65), 3) := by decide +kernel
theorem dL_isSo_787 : decode cL_isSo 787 = .ok (.iload 12, 2) := by decide +kernel
theorem dL_isSo_789 : decode cL_isSo 789 = .ok (.iconst 4, 1) := by decide +kernel
theorem dL_isSo_790 : decode cL_isSo 790 = .ok (.irem, 1) := by decide +kernel
theorem dL_isSo_791 : decode cL_isSo 791 = .ok (.istore 14, 2) := by decide +kernel
theorem dL_isSo_793 : decode cL_isSo 793 = .ok (.iload 12, 2) := by decide +kernel
theorem dL_isSo_795 : decode cL_isSo 795 = .ok (.iconst 4, 1) := by decide +kernel
theorem dL_isSo_796 : decode cL_isSo 796 = .ok (.idiv, 1) := by decide +kernel
theorem dL_isSo_797 : decode cL_isSo 797 = .ok (.aload 8, 2) := by decide +kernel
theorem dL_isSo_799 : decode cL_isSo 799 = .ok (.iconst 1, 1) := by decide +kernel
theorem dL_isSo_800 : decode cL_isSo 800 = .ok (.iaload, 1) := by decide +kernel
theorem dL_isSo_801 : decode cL_isSo 801 = .ok (.iconst 1, 1) := by decide +kernel
theorem dL_isSo_802 : decode cL_isSo 802 = .ok (.iadd, 1) := by decide +kernel
theorem dL_isSo_803 : decode cL_isSo 803 = .ok (.irem, 1) := by decide +kernel
theorem dL_isSo_804 : decode cL_isSo 804 = .ok (.istore 15, 2) := by decide +kernel
theorem dL_isSo_806 : decode cL_isSo 806 = .ok (.iconst 0, 1) := by decide +kernel
theorem dL_isSo_807 : decode cL_isSo 807 = .ok (.istore 16, 2) := by decide +kernel
theorem dL_isSo_809 : decode cL_isSo 809 = .ok (.iconst 0, 1) := by decide +kernel
theorem dL_isSo_810 : decode cL_isSo 810 = .ok (.istore 17, 2) := by decide +kernel
theorem dL_isSo_812 : decode cL_isSo 812 = .ok (.iconst 0, 1) := by decide +kernel
theorem dL_isSo_813 : decode cL_isSo 813 = .ok (.istore 18, 2) := by decide +kernel
theorem dL_isSo_815 : decode cL_isSo 815 = .ok (.iload 18, 2) := by decide +kernel
theorem dL_isSo_817 : decode cL_isSo 817 = .ok (.aload 8, 2) := by decide +kernel
theorem dL_isSo_819 : decode cL_isSo 819 = .ok (.iconst 4, 1) := by decide +kernel
theorem dL_isSo_820 : decode cL_isSo 820 = .ok (.iaload, 1) := by decide +kernel
theorem dL_isSo_821 : decode cL_isSo 821 = .ok (.if_icmp .ge 104, 3) := by decide +kernel
theorem dL_isSo_824 : decode cL_isSo 824 = .ok (.aload 4, 2) := by decide +kernel
theorem dL_isSo_826 : decode cL_isSo 826 = .ok (.iload 18, 2) := by decide +kernel
theorem dL_isSo_828 : decode cL_isSo 828 = .ok (.iaload, 1) := by decide +kernel
theorem dL_isSo_829 : decode cL_isSo 829 = .ok (.ifCond .le 34, 3) := by decide +kernel
theorem dL_isSo_832 : decode cL_isSo 832 = .ok (.aload_n 1, 1) := by decide +kernel
theorem dL_isSo_833 : decode cL_isSo 833 = .ok (.iload 18, 2) := by decide +kernel
theorem dL_isSo_835 : decode cL_isSo 835 = .ok (.iaload, 1) := by decide +kernel
theorem dL_isSo_836 : decode cL_isSo 836 = .ok (.bipush 8, 2) := by decide +kernel
theorem dL_isSo_838 : decode cL_isSo 838 = .ok (.idiv, 1) := by decide +kernel
theorem dL_isSo_839 : decode cL_isSo 839 = .ok (.iconst 4, 1) := by decide +kernel
theorem dL_isSo_840 : decode cL_isSo 840 = .ok (.irem, 1) := by decide +kernel
theorem dL_isSo_841 : decode cL_isSo 841 = .ok (.iload 14, 2) := by decide +kernel
theorem dL_isSo_843 : decode cL_isSo 843 = .ok (.if_icmp .ne 20, 3) := by decide +kernel
theorem dL_isSo_846 : decode cL_isSo 846 = .ok (.aload 5, 2) := by decide +kernel
theorem dL_isSo_848 : decode cL_isSo 848 = .ok (.iload 18, 2) := by decide +kernel
theorem dL_isSo_850 : decode cL_isSo 850 = .ok (.iaload, 1) := by decide +kernel
theorem dL_isSo_851 : decode cL_isSo 851 = .ok (.ldc 115, 2) := by decide +kernel
theorem dL_isSo_853 : decode cL_isSo 853 = .ok (.idiv, 1) := by decide +kernel
theorem dL_isSo_854 : decode cL_isSo 854 = .ok (.iload 15, 2) := by decide +kernel
theorem dL_isSo_856 : decode cL_isSo 856 = .ok (.if_icmp .ne 7, 3) := by decide +kernel
theorem dL_isSo_859 : decode cL_isSo 859 = .ok (.iconst 1, 1) := by decide +kernel
theorem dL_isSo_860 : decode cL_isSo 860 = .ok (.goto 4, 3) := by decide +kernel
theorem dL_isSo_863 : decode cL_isSo 863 = .ok (.iconst 0, 1) := by decide +kernel
theorem dL_isSo_864 : decode cL_isSo 864 = .ok (.istore 19, 2) := by decide +kernel
theorem dL_isSo_866 : decode cL_isSo 866 = .ok (.iload 16, 2) := by decide +kernel
theorem dL_isSo_868 : decode cL_isSo 868 = .ok (.iload 19, 2) := by decide +kernel
theorem dL_isSo_870 : decode cL_isSo 870 = .ok (.ifCond .eq 23, 3) := by decide +kernel
theorem dL_isSo_873 : decode cL_isSo 873 = .ok (.aload_n 2, 1) := by decide +kernel
theorem dL_isSo_874 : decode cL_isSo 874 = .ok (.iload 18, 2) := by decide +kernel
theorem dL_isSo_876 : decode cL_isSo 876 = .ok (.iaload, 1) := by decide +kernel
theorem dL_isSo_877 : decode cL_isSo 877 = .ok (.sipush 128, 3) := by decide +kernel
theorem dL_isSo_880 : decode cL_isSo 880 = .ok (.irem, 1) := by decide +kernel
theorem dL_isSo_881 : decode cL_isSo 881 = .ok (.aload 4, 2) := by decide +kernel
theorem dL_isSo_883 : decode cL_isSo 883 = .ok (.iload 18, 2) := by decide +kernel
theorem dL_isSo_885 : decode cL_isSo 885 = .ok (.iaload, 1) := by decide +kernel
theorem dL_isSo_886 : decode cL_isSo 886 = .ok (.bipush 16, 2) := by decide +kernel
theorem dL_isSo_888 : decode cL_isSo 888 = .ok (.idiv, 1) := by decide +kernel
theorem dL_isSo_889 : decode cL_isSo 889 = .ok (.imul, 1) := by decide +kernel
theorem dL_isSo_890 : decode cL_isSo 890 = .ok (.goto 4, 3) := by decide +kernel
theorem dL_isSo_893 : decode cL_isSo 893 = .ok (.iconst 0, 1) := by decide +kernel
theorem dL_isSo_894 : decode cL_isSo 894 = .ok (.iadd, 1) := by decide +kernel
theorem dL_isSo_895 : decode cL_isSo 895 = .ok (.istore 16, 2) := by decide +kernel
theorem dL_isSo_897 : decode cL_isSo 897 = .ok (.iload 17, 2) := by decide +kernel
theorem dL_isSo_899 : decode cL_isSo 899 = .ok (.iload 19, 2) := by decide +kernel
theorem dL_isSo_901 : decode cL_isSo 901 = .ok (.ifCond .eq 14, 3) := by decide +kernel
theorem dL_isSo_904 : decode cL_isSo 904 = .ok (.aload_n 2, 1) := by decide +kernel
theorem dL_isSo_905 : decode cL_isSo 905 = .ok (.iload 18, 2) := by decide +kernel
theorem dL_isSo_907 : decode cL_isSo 907 = .ok (.iaload, 1) := by decide +kernel
theorem dL_isSo_908 : decode cL_isSo 908 = .ok (.sipush 128, 3) := by decide +kernel
theorem dL_isSo_911 : decode cL_isSo 911 = .ok (.irem, 1) := by decide +kernel
theorem dL_isSo_912 : decode cL_isSo 912 = .ok (.goto 4, 3) := by decide +kernel
theorem dL_isSo_915 : decode cL_isSo 915 = .ok (.iconst 0, 1) := by decide +kernel
theorem dL_isSo_916 : decode cL_isSo 916 = .ok (.iadd, 1) := by decide +kernel
theorem dL_isSo_917 : decode cL_isSo 917 = .ok (.istore 17, 2) := by decide +kernel
theorem dL_isSo_919 : decode cL_isSo 919 = .ok (.iinc 18 1, 3) := by decide +kernel
theorem dL_isSo_922 : decode cL_isSo 922 = .ok (.goto (-107), 3) := by decide +kernel
theorem dL_isSo_925 : decode cL_isSo 925 = .ok (.iconst 0, 1) := by decide +kernel
theorem dL_isSo_926 : decode cL_isSo 926 = .ok (.istore 18, 2) := by decide +kernel
theorem dL_isSo_928 : decode cL_isSo 928 = .ok (.iload 18, 2) := by decide +kernel
theorem dL_isSo_930 : decode cL_isSo 930 = .ok (.aload 8, 2) := by decide +kernel
theorem dL_isSo_932 : decode cL_isSo 932 = .ok (.bipush 6, 2) := by decide +kernel
theorem dL_isSo_934 : decode cL_isSo 934 = .ok (.iaload, 1) := by decide +kernel
theorem dL_isSo_935 : decode cL_isSo 935 = .ok (.if_icmp .ge 39, 3) := by decide +kernel
theorem dL_isSo_938 : decode cL_isSo 938 = .ok (.iload 13, 2) := by decide +kernel
theorem dL_isSo_940 : decode cL_isSo 940 = .ok (.ifCond .eq 34, 3) := by decide +kernel
theorem dL_isSo_943 : decode cL_isSo 943 = .ok (.aload_n 0, 1) := by decide +kernel
theorem dL_isSo_944 : decode cL_isSo 944 = .ok (.iload 18, 2) := by decide +kernel
theorem dL_isSo_946 : decode cL_isSo 946 = .ok (.invokevirtual 79, 3) := by decide +kernel
theorem dL_isSo_949 : decode cL_isSo 949 = .ok (.aload 11, 2) := by decide +kernel
theorem dL_isSo_951 : decode cL_isSo 951 = .ok (.iconst 4, 1) := by decide +kernel
theorem dL_isSo_952 : decode cL_isSo 952 = .ok (.iload 18, 2) := by decide +kernel
theorem dL_isSo_954 : decode cL_isSo 954 = .ok (.imul, 1) := by decide +kernel
theorem dL_isSo_955 : decode cL_isSo 955 = .ok (.iconst 3, 1) := by decide +kernel
theorem dL_isSo_956 : decode cL_isSo 956 = .ok (.iadd, 1) := by decide +kernel
theorem dL_isSo_957 : decode cL_isSo 957 = .ok (.iaload, 1) := by decide +kernel
theorem dL_isSo_958 : decode cL_isSo 958 = .ok (.if_icmp .ne 7, 3) := by decide +kernel
theorem dL_isSo_961 : decode cL_isSo 961 = .ok (.iconst 1, 1) := by decide +kernel
theorem dL_isSo_962 : decode cL_isSo 962 = .ok (.goto 4, 3) := by decide +kernel
theorem dL_isSo_965 : decode cL_isSo 965 = .ok (.iconst 0, 1) := by decide +kernel
theorem dL_isSo_966 : decode cL_isSo 966 = .ok (.istore 13, 2) := by decide +kernel
theorem dL_isSo_968 : decode cL_isSo 968 = .ok (.iinc 18 1, 3) := by decide +kernel
theorem dL_isSo_971 : decode cL_isSo 971 = .ok (.goto (-43), 3) := by decide +kernel
theorem dL_isSo_974 : decode cL_isSo 974 = .ok (.iload 13, 2) := by decide +kernel
theorem dL_isSo_976 : decode cL_isSo 976 = .ok (.ifCond .eq 94, 3) := by decide +kernel
theorem dL_isSo_979 : decode cL_isSo 979 = .ok (.aload_n 0, 1) := by decide +kernel
theorem dL_isSo_980 : decode cL_isSo 980 = .ok (.iload 14, 2) := by decide +kernel
theorem dL_isSo_982 : decode cL_isSo 982 = .ok (.iload 15, 2) := by decide +kernel
theorem dL_isSo_984 : decode cL_isSo 984 = .ok (.invokevirtual 76, 3) := by decide +kernel
theorem dL_isSo_987 : decode cL_isSo 987 = .ok (.iload 17, 2) := by decide +kernel
theorem dL_isSo_989 : decode cL_isSo 989 = .ok (.ifCond .ne 7, 3) := by decide +kernel
theorem dL_isSo_992 : decode cL_isSo 992 = .ok (.iconst (-1), 1) := by decide +kernel
theorem dL_isSo_993 : decode cL_isSo 993 = .ok (.goto 8, 3) := by decide +kernel
theorem dL_isSo_996 : decode cL_isSo 996 = .ok (.iload 16, 2) := by decide +kernel
theorem dL_isSo_998 : decode cL_isSo 998 = .ok (.iload 17, 2) := by decide +kernel
theorem dL_isSo_1000 : decode cL_isSo 1000 = .ok (.idiv, 1) := by decide +kernel
theorem dL_isSo_1001 : decode cL_isSo 1001 = .ok (.if_icmp .ne 69, 3) := by decide +kernel
theorem dL_isSo_1004 : decode cL_isSo 1004 = .ok (.aload_n 0, 1) := by decide +kernel
theorem dL_isSo_1005 : decode cL_isSo 1005 = .ok (.bipush 17, 2) := by decide +kernel
theorem dL_isSo_1007 : decode cL_isSo 1007 = .ok (.aload 8, 2) := by decide +kernel
theorem dL_isSo_1009 : decode cL_isSo 1009 = .ok (.iconst 4, 1) := by decide +kernel
theorem dL_isSo_1010 : decode cL_isSo 1010 = .ok (.iaload, 1) := by decide +kernel
theorem dL_isSo_1011 : decode cL_isSo 1011 = .ok (.iconst 0, 1) := by decide +kernel
theorem dL_isSo_1012 : decode cL_isSo 1012 = .ok (.iconst 0, 1) := by decide +kernel
theorem dL_isSo_1013 : decode cL_isSo 1013 = .ok (.iconst 0, 1) := by decide +kernel
theorem dL_isSo_1014 : decode cL_isSo 1014 = .ok (.iconst 0, 1) := by decide +kernel
theorem dL_isSo_1015 : decode cL_isSo 1015 = .ok (.iconst 0, 1) := by decide +kernel
theorem dL_isSo_1016 : decode cL_isSo 1016 = .ok (.invokestatic 183, 3) := by decide +kernel
theorem dL_isSo_1019 : decode cL_isSo 1019 = .ok (.ldc 84, 2) := by decide +kernel
theorem dL_isSo_1021 : decode cL_isSo 1021 = .ok (.if_icmp .ne 49, 3) := by decide +kernel
theorem dL_isSo_1024 : decode cL_isSo 1024 = .ok (.aload_n 0, 1) := by decide +kernel
theorem dL_isSo_1025 : decode cL_isSo 1025 = .ok (.bipush 18, 2) := by decide +kernel
theorem dL_isSo_1027 : decode cL_isSo 1027 = .ok (.aload 8, 2) := by decide +kernel
theorem dL_isSo_1029 : decode cL_isSo 1029 = .ok (.iconst 5, 1) := by decide +kernel
theorem dL_isSo_1030 : decode cL_isSo 1030 = .ok (.iaload, 1) := by decide +kernel
theorem dL_isSo_1031 : decode cL_isSo 1031 = .ok (.iconst 0, 1) := by decide +kernel
theorem dL_isSo_1032 : decode cL_isSo 1032 = .ok (.iconst 0, 1) := by decide +kernel
theorem dL_isSo_1033 : decode cL_isSo 1033 = .ok (.iconst 0, 1) := by decide +kernel
theorem dL_isSo_1034 : decode cL_isSo 1034 = .ok (.iconst 0, 1) := by decide +kernel
theorem dL_isSo_1035 : decode cL_isSo 1035 = .ok (.iconst 0, 1) := by decide +kernel
theorem dL_isSo_1036 : decode cL_isSo 1036 = .ok (.invokestatic 183, 3) := by decide +kernel
theorem dL_isSo_1039 : decode cL_isSo 1039 = .ok (.ldc 84, 2) := by decide +kernel
theorem dL_isSo_1041 : decode cL_isSo 1041 = .ok (.if_icmp .ne 29, 3) := by decide +kernel
theorem dL_isSo_1044 : decode cL_isSo 1044 = .ok (.aload_n 0, 1) := by decide +kernel
theorem dL_isSo_1045 : decode cL_isSo 1045 = .ok (.bipush 19, 2) := by decide +kernel
theorem dL_isSo_1047 : decode cL_isSo 1047 = .ok (.iconst 0, 1) := by decide +kernel
theorem dL_isSo_1048 : decode cL_isSo 1048 = .ok (.aload 8, 2) := by decide +kernel
theorem dL_isSo_1050 : decode cL_isSo 1050 = .ok (.iconst 1, 1) := by decide +kernel
theorem dL_isSo_1051 : decode cL_isSo 1051 = .ok (.iaload, 1) := by decide +kernel
theorem dL_isSo_1052 : decode cL_isSo 1052 = .ok (.iconst 1, 1) := by decide +kernel
theorem dL_isSo_1053 : decode cL_isSo 1053 = .ok (.iadd, 1) := by decide +kernel
theorem dL_isSo_1054 : decode cL_isSo 1054 = .ok (.iconst 0, 1) := by decide +kernel
theorem dL_isSo_1055 : decode cL_isSo 1055 = .ok (.iconst 0, 1) := by decide +kernel
theorem dL_isSo_1056 : decode cL_isSo 1056 = .ok (.iconst 0, 1) := by decide +kernel
theorem dL_isSo_1057 : decode cL_isSo 1057 = .ok (.iconst 0, 1) := by decide +kernel
theorem dL_isSo_1058 : decode cL_isSo 1058 = .ok (.invokestatic 183, 3) := by decide +kernel
theorem dL_isSo_1061 : decode cL_isSo 1061 = .ok (.ldc 87, 2) := by decide +kernel
theorem dL_isSo_1063 : decode cL_isSo 1063 = .ok (.if_icmp .ne 7, 3) := by decide +kernel
theorem dL_isSo_1066 : decode cL_isSo 1066 = .ok (.iconst 1, 1) := by decide +kernel
theorem dL_isSo_1067 : decode cL_isSo 1067 = .ok (.goto 4, 3) := by decide +kernel
theorem dL_isSo_1070 : decode cL_isSo 1070 = .ok (.iconst 0, 1) := by decide +kernel
theorem dL_isSo_1071 : decode cL_isSo 1071 = .ok (.ireturn, 1) := by decide +kernel
theorem dL_isTold_0 : decode cL_isTold 0 = .ok (.iload 10, 2) := by decide +kernel
theorem dL_isTold_2 : decode cL_isTold 2 = .ok (.bipush 9, 2) := by decide +kernel
theorem dL_isTold_4 : decode cL_isTold 4 = .ok (.irem, 1) := by decide +kernel
theorem dL_isTold_5 : decode cL_isTold 5 = .ok (.istore 12, 2) := by decide +kernel
theorem dL_isTold_7 : decode cL_isTold 7 = .ok (.iload 12, 2) := by decide +kernel
theorem dL_isTold_9 : decode cL_isTold 9 = .ok (.bipush 8, 2) := by decide +kernel
theorem dL_isTold_11 : decode cL_isTold 11 = .ok (.if_icmp .ge 7, 3) := by decide +kernel
theorem dL_isTold_14 : decode cL_isTold 14 = .ok (.iconst 1, 1) := by decide +kernel
theorem dL_isTold_15 : decode cL_isTold 15 = .ok (.goto 4, 3) := by decide +kernel
theorem dL_isTold_18 : decode cL_isTold 18 = .ok (.iconst 0, 1) := by decide +kernel
theorem dL_isTold_19 : decode cL_isTold 19 = .ok (.istore 13, 2) := by decide +kernel
theorem dL_isTold_21 : decode cL_isTold 21 = .ok (.iload 9, 2) := by decide +kernel
theorem dL_isTold_23 : decode cL_isTold 23 = .ok (.ifCond .ne 139, 3) := by decide +kernel
theorem dL_isTold_26 : decode cL_isTold 26 = .ok (.iload 11, 2) := by decide +kernel
theorem dL_isTold_28 : decode cL_isTold 28 = .ok (.iconst 4, 1) := by decide +kernel
theorem dL_isTold_29 : decode cL_isTold 29 = .ok (.irem, 1) := by decide +kernel
theorem dL_isTold_30 : decode cL_isTold 30 = .ok (.istore 14, 2) := by decide +kernel
theorem dL_isTold_32 : decode cL_isTold 32 = .ok (.iload 11, 2) := by decide +kernel
theorem dL_isTold_34 : decode cL_isTold 34 = .ok (.iconst 4, 1) := by decide +kernel
theorem dL_isTold_35 : decode cL_isTold 35 = .ok (.idiv, 1) := by decide +kernel
theorem dL_isTold_36 : decode cL_isTold 36 = .ok (.iconst 3, 1) := by decide +kernel
theorem dL_isTold_37 : decode cL_isTold 37 = .ok (.irem, 1) := by decide +kernel
theorem dL_isTold_38 : decode cL_isTold 38 = .ok (.ifCond .ne 13, 3) := by decide +kernel
theorem dL_isTold_41 : decode cL_isTold 41 = .ok (.iload 11, 2) := by decide +kernel
theorem dL_isTold_43 : decode cL_isTold 43 = .ok (.iconst 2, 1) := by decide +kernel
theorem dL_isTold_44 : decode cL_isTold 44 = .ok (.imul, 1) := by decide +kernel
theorem dL_isTold_45 : decode cL_isTold 45 = .ok (.ldc 187, 2) := by decide +kernel
theorem dL_isTold_47 : decode cL_isTold 47 = .ok (.irem, 1) := by decide +kernel
theorem dL_isTold_48 : decode cL_isTold 48 = .ok (.goto 10, 3) := by decide +kernel
theorem dL_isTold_51 : decode cL_isTold 51 = .ok (.iload 11, 2) := by decide +kernel
theorem dL_isTold_53 : decode cL_isTold 53 = .ok (.iconst 4, 1) := by decide +kernel
theorem dL_isTold_54 : decode cL_isTold 54 = .ok (.idiv, 1) := by decide +kernel
theorem dL_isTold_55 : decode cL_isTold 55 = .ok (.bipush 120, 2) := by decide +kernel
theorem dL_isTold_57 : decode cL_isTold 57 = .ok (.irem, 1) := by decide +kernel
theorem dL_isTold_58 : decode cL_isTold 58 = .ok (.istore 15, 2) := by decide +kernel
theorem dL_isTold_60 : decode cL_isTold 60 = .ok (.iload 15, 2) := by decide +kernel
theorem dL_isTold_62 : decode cL_isTold 62 = .ok (.ldc 188, 2) := by decide +kernel
theorem dL_isTold_64 : decode cL_isTold 64 = .ok (.if_icmp .ge 7, 3) := by decide +kernel
theorem dL_isTold_67 : decode cL_isTold 67 = .ok (.iconst 1, 1) := by decide +kernel
theorem dL_isTold_68 : decode cL_isTold 68 = .ok (.goto 4, 3) := by decide +kernel
theorem dL_isTold_71 : decode cL_isTold 71 = .ok (.iconst 0, 1) := by decide +kernel
theorem dL_isTold_72 : decode cL_isTold 72 = .ok (.istore 16, 2) := by decide +kernel
theorem dL_isTold_74 : decode cL_isTold 74 = .ok (.iload 13, 2) := by decide +kernel
theorem dL_isTold_76 : decode cL_isTold 76 = .ok (.ifCond .eq 16, 3) := by decide +kernel
theorem dL_isTold_79 : decode cL_isTold 79 = .ok (.aload 7, 2) := by decide +kernel
theorem dL_isTold_81 : decode cL_isTold 81 = .ok (.iconst 4, 1) := by decide +kernel
theorem dL_isTold_82 : decode cL_isTold 82 = .ok (.iload 12, 2) := by decide +kernel
theorem dL_isTold_84 : decode cL_isTold 84 = .ok (.imul, 1) := by decide +kernel
theorem dL_isTold_85 : decode cL_isTold 85 = .ok (.iload 14, 2) := by decide +kernel
theorem dL_isTold_87 : decode cL_isTold 87 = .ok (.iadd, 1) := by decide +kernel
theorem dL_isTold_88 : decode cL_isTold 88 = .ok (.iaload, 1) := by decide +kernel
theorem dL_isTold_89 : decode cL_isTold 89 = .ok (.goto 4, 3) := by decide +kernel
theorem dL_isTold_92 : decode cL_isTold 92 = .ok (.iconst 0, 1) := by decide +kernel
theorem dL_isTold_93 : decode cL_isTold 93 = .ok (.istore 17, 2) := by decide +kernel
theorem dL_isTold_95 : decode cL_isTold 95 = .ok (.iload 13, 2) := by decide +kernel
theorem dL_isTold_97 : decode cL_isTold 97 = .ok (.ifCond .eq 20, 3) := by decide +kernel
theorem dL_isTold_100 : decode cL_isTold 100 = .ok (.iload 16, 2) := by decide +kernel
theorem dL_isTold_102 : decode cL_isTold 102 = .ok (.ifCond .eq 15, 3) := by decide +kernel
theorem dL_isTold_105 : decode cL_isTold 105 = .ok (.aload 7, 2) := by decide +kernel
theorem dL_isTold_107 : decode cL_isTold 107 = .ok (.iconst 4, 1) := by decide +kernel
theorem dL_isTold_108 : decode cL_isTold 108 = .ok (.iload 12, 2) := by decide +kernel
theorem dL_isTold_110 : decode cL_isTold 110 = .ok (.imul, 1) := by decide +kernel
theorem dL_isTold_111 : decode cL_isTold 111 = .ok (.iload 14, 2) := by decide +kernel
theorem dL_isTold_113 : decode cL_isTold 113 = .ok (.iadd, 1) := by decide +kernel
theorem dL_isTold_114 : decode cL_isTold 114 = .ok (.iload 15, 2) := by decide +kernel
theorem dL_isTold_116 : decode cL_isTold 116 = .ok (.iastore, 1) := by decide +kernel
theorem dL_isTold_117 : decode cL_isTold 117 = .ok (.aload_n 0, 1) := by decide +kernel
theorem dL_isTold_118 : decode cL_isTold 118 = .ok (.iconst 0, 1) := by decide +kernel
theorem dL_isTold_119 : decode cL_isTold 119 = .ok (.iload 12, 2) := by decide +kernel
theorem dL_isTold_121 : decode cL_isTold 121 = .ok (.iload 14, 2) := by decide +kernel
theorem dL_isTold_123 : decode cL_isTold 123 = .ok (.iload 15, 2) := by decide +kernel
theorem dL_isTold_125 : decode cL_isTold 125 = .ok (.iconst 0, 1) := by decide +kernel
theorem dL_isTold_126 : decode cL_isTold 126 = .ok (.iconst 0, 1) := by decide +kernel
theorem dL_isTold_127 : decode cL_isTold 127 = .ok (.iconst 0, 1) := by decide +kernel
theorem dL_isTold_128 : decode cL_isTold 128 = .ok (.invokestatic 183, 3) := by decide +kernel
theorem dL_isTold_131 : decode cL_isTold 131 = .ok (.iload 13, 2) := by decide +kernel
theorem dL_isTold_133 : decode cL_isTold 133 = .ok (.ifCond .ne 8, 3) := by decide +kernel
theorem dL_isTold_136 : decode cL_isTold 136 = .ok (.ldc 84, 2) := by decide +kernel
theorem dL_isTold_138 : decode cL_isTold 138 = .ok (.goto 15, 3) := by decide +kernel
theorem dL_isTold_141 : decode cL_isTold 141 = .ok (.iload 16, 2) := by decide +kernel
theorem dL_isTold_143 : decode cL_isTold 143 = .ok (.ifCond .eq 8, 3) := by decide +kernel
theorem dL_isTold_146 : decode cL_isTold 146 = .ok (.iload 17, 2) := by decide +kernel
theorem dL_isTold_148 : decode cL_isTold 148 = .ok (.goto 5, 3) := by decide +kernel
theorem dL_isTold_151 : decode cL_isTold 151 = .ok (.ldc 87, 2) := by decide +kernel
theorem dL_isTold_153 : decode cL_isTold 153 = .ok (.if_icmp .ne 7, 3) := by decide +kernel
theorem dL_isTold_156 : decode cL_isTold 156 = .ok (.iconst 1, 1) := by decide +kernel
theorem dL_isTold_157 : decode cL_isTold 157 = .ok (.goto 4, 3) := by decide +kernel
theorem dL_isTold_160 : decode cL_isTold 160 = .ok (.iconst 0, 1) := by decide +kernel
theorem dL_isTold_161 : decode cL_isTold 161 = .ok (.ireturn, 1) := by decide +kernel
theorem dL_isTold_162 : decode cL_isTold 162 = .ok (.iload 9, 2) := by decide +kernel
theorem dL_isTold_164 : decode cL_isTold 164 = .ok (.iconst 1, 1) := by decide +kernel
theorem dL_isTold_165 : decode cL_isTold 165 = .ok (.if_icmp .ne 137, 3) := by decide +kernel
theorem dL_isTold_168 : decode cL_isTold 168 = .ok (.iload 11, 2) := by decide +kernel
theorem dL_isTold_170 : decode cL_isTold 170 = .ok (.iconst 2, 1) := by decide +kernel
theorem dL_isTold_171 : decode cL_isTold 171 = .ok (.idiv, 1) := by decide +kernel
theorem dL_isTold_172 : decode cL_isTold 172 = .ok (.iconst 3, 1) := by decide +kernel
theorem dL_isTold_173 : decode cL_isTold 173 = .ok (.irem, 1) := by decide +kernel
theorem dL_isTold_174 : decode cL_isTold 174 = .ok (.ifCond .ne 13, 3) := by decide +kernel
theorem dL_isTold_177 : decode cL_isTold 177 = .ok (.iload 11, 2) := by decide +kernel
theorem dL_isTold_179 : decode cL_isTold 179 = .ok (.iconst 2, 1) := by decide +kernel
theorem dL_isTold_180 : decode cL_isTold 180 = .ok (.imul, 1) := by decide +kernel
theorem dL_isTold_181 : decode cL_isTold 181 = .ok (.ldc 187, 2) := by decide +kernel
theorem dL_isTold_183 : decode cL_isTold 183 = .ok (.irem, 1) := by decide +kernel
theorem dL_isTold_184 : decode cL_isTold 184 = .ok (.goto 10, 3) := by decide +kernel
theorem dL_isTold_187 : decode cL_isTold 187 = .ok (.iload 11, 2) := by decide +kernel
theorem dL_isTold_189 : decode cL_isTold 189 = .ok (.iconst 2, 1) := by decide +kernel
theorem dL_isTold_190 : decode cL_isTold 190 = .ok (.idiv, 1) := by decide +kernel
theorem dL_isTold_191 : decode cL_isTold 191 = .ok (.bipush 90, 2) := by decide +kernel
theorem dL_isTold_193 : decode cL_isTold 193 = .ok (.irem, 1) := by decide +kernel
theorem dL_isTold_194 : decode cL_isTold 194 = .ok (.istore 14, 2) := by decide +kernel
theorem dL_isTold_196 : decode cL_isTold 196 = .ok (.iload 14, 2) := by decide +kernel
theorem dL_isTold_198 : decode cL_isTold 198 = .ok (.ldc 188, 2) := by decide +kernel
theorem dL_isTold_200 : decode cL_isTold 200 = .ok (.if_icmp .ge 7, 3) := by decide +kernel
theorem dL_isTold_203 : decode cL_isTold 203 = .ok (.iconst 1, 1) := by decide +kernel
theorem dL_isTold_204 : decode cL_isTold 204 = .ok (.goto 4, 3) := by decide +kernel
theorem dL_isTold_207 : decode cL_isTold 207 = .ok (.iconst 0, 1) := by decide +kernel
theorem dL_isTold_208 : decode cL_isTold 208 = .ok (.istore 15, 2) := by decide +kernel
theorem dL_isTold_210 : decode cL_isTold 210 = .ok (.iload 13, 2) := by decide +kernel
theorem dL_isTold_212 : decode cL_isTold 212 = .ok (.ifCond .eq 11, 3) := by decide +kernel
theorem dL_isTold_215 : decode cL_isTold 215 = .ok (.aload 8, 2) := by decide +kernel
theorem dL_isTold_217 : decode cL_isTold 217 = .ok (.iload 12, 2) := by decide +kernel
theorem dL_isTold_219 : decode cL_isTold 219 = .ok (.iaload, 1) := by decide +kernel
theorem dL_isTold_220 : decode cL_isTold 220 = .ok (.goto 4, 3) := by decide +kernel
theorem dL_isTold_223 : decode cL_isTold 223 = .ok (.iconst 0, 1) := by decide +kernel
theorem dL_isTold_224 : decode cL_isTold 224 = .ok (.istore 16, 2) := by decide +kernel
theorem dL_isTold_226 : decode cL_isTold 226 = .ok (.iload 13, 2) := by decide +kernel
theorem dL_isTold_228 : decode cL_isTold 228 = .ok (.ifCond .eq 27, 3) := by decide +kernel
theorem dL_isTold_231 : decode cL_isTold 231 = .ok (.iload 15, 2) := by decide +kernel
theorem dL_isTold_233 : decode cL_isTold 233 = .ok (.ifCond .eq 22, 3) := by decide +kernel
theorem dL_isTold_236 : decode cL_isTold 236 = .ok (.aload 8, 2) := by decide +kernel
theorem dL_isTold_238 : decode cL_isTold 238 = .ok (.iload 12, 2) := by decide +kernel
theorem dL_isTold_240 : decode cL_isTold 240 = .ok (.iload 14, 2) := by decide +kernel
theorem dL_isTold_242 : decode cL_isTold 242 = .ok (.iastore, 1) := by decide +kernel
theorem dL_isTold_243 : decode cL_isTold 243 = .ok (.aload 8, 2) := by decide +kernel
theorem dL_isTold_245 : decode cL_isTold 245 = .ok (.bipush 8, 2) := by decide +kernel
theorem dL_isTold_247 : decode cL_isTold 247 = .ok (.iload 12, 2) := by decide +kernel
theorem dL_isTold_249 : decode cL_isTold 249 = .ok (.iadd, 1) := by decide +kernel
theorem dL_isTold_250 : decode cL_isTold 250 = .ok (.iload 11, 2) := by decide +kernel
theorem dL_isTold_252 : decode cL_isTold 252 = .ok (.iconst 2, 1) := by decide +kernel
theorem dL_isTold_253 : decode cL_isTold 253 = .ok (.irem, 1) := by decide +kernel
theorem dL_isTold_254 : decode cL_isTold 254 = .ok (.iastore, 1) := by decide +kernel
theorem dL_isTold_255 : decode cL_isTold 255 = .ok (.aload_n 0, 1) := by decide +kernel
theorem dL_isTold_256 : decode cL_isTold 256 = .ok (.iconst 1, 1) := by decide +kernel
theorem dL_isTold_257 : decode cL_isTold 257 = .ok (.iload 12, 2) := by decide +kernel
theorem dL_isTold_259 : decode cL_isTold 259 = .ok (.iload 14, 2) := by decide +kernel
theorem dL_isTold_261 : decode cL_isTold 261 = .ok (.iload 11, 2) := by decide +kernel
theorem dL_isTold_263 : decode cL_isTold 263 = .ok (.iconst 2, 1) := by decide +kernel
theorem dL_isTold_264 : decode cL_isTold 264 = .ok (.irem, 1) := by decide +kernel
theorem dL_isTold_265 : decode cL_isTold 265 = .ok (.iconst 0, 1) := by decide +kernel
theorem dL_isTold_266 : decode cL_isTold 266 = .ok (.iconst 0, 1) := by decide +kernel
theorem dL_isTold_267 : decode cL_isTold 267 = .ok (.iconst 0, 1) := by decide +kernel
theorem dL_isTold_268 : decode cL_isTold 268 = .ok (.invokestatic 183, 3) := by decide +kernel
theorem dL_isTold_271 : decode cL_isTold 271 = .ok (.iload 13, 2) := by decide +kernel
theorem dL_isTold_273 : decode cL_isTold 273 = .ok (.ifCond .ne 8, 3) := by decide +kernel
theorem dL_isTold_276 : decode cL_isTold 276 = .ok (.ldc 84, 2) := by decide +kernel
theorem dL_isTold_278 : decode cL_isTold 278 = .ok (.goto 15, 3) := by decide +kernel
theorem dL_isTold_281 : decode cL_isTold 281 = .ok (.iload 15, 2) := by decide +kernel
theorem dL_isTold_283 : decode cL_isTold 283 = .ok (.ifCond .eq 8, 3) := by decide +kernel
theorem dL_isTold_286 : decode cL_isTold 286 = .ok (.iload 16, 2) := by decide +kernel
theorem dL_isTold_288 : decode cL_isTold 288 = .ok (.goto 5, 3) := by decide +kernel
theorem dL_isTold_291 : decode cL_isTold 291 = .ok (.ldc 87, 2) := by decide +kernel
theorem dL_isTold_293 : decode cL_isTold 293 = .ok (.if_icmp .ne 7, 3) := by decide +kernel
theorem dL_isTold_296 : decode cL_isTold 296 = .ok (.iconst 1, 1) := by decide +kernel
theorem dL_isTold_297 : decode cL_isTold 297 = .ok (.goto 4, 3) := by decide +kernel
theorem dL_isTold_300 : decode cL_isTold 300 = .ok (.iconst 0, 1) := by decide +kernel
theorem dL_isTold_301 : decode cL_isTold 301 = .ok (.ireturn, 1) := by decide +kernel
theorem dL_isTold_302 : decode cL_isTold 302 = .ok (.iload 9, 2) := by decide +kernel
theorem dL_isTold_304 : decode cL_isTold 304 = .ok (.iconst 2, 1) := by decide +kernel
theorem dL_isTold_305 : decode cL_isTold 305 = .ok (.if_icmp .ne 216, 3) := by decide +kernel
theorem dL_isTold_308 : decode cL_isTold 308 = .ok (.iload 10, 2) := by decide +kernel
theorem dL_isTold_310 : decode cL_isTold 310 = .ok (.iconst 5, 1) := by decide +kernel
theorem dL_isTold_311 : decode cL_isTold 311 = .ok (.irem, 1) := by decide +kernel
theorem dL_isTold_312 : decode cL_isTold 312 = .ok (.istore 14, 2) := by decide +kernel
theorem dL_isTold_314 : decode cL_isTold 314 = .ok (.iload 11, 2) := by decide +kernel
theorem dL_isTold_316 : decode cL_isTold 316 = .ok (.iconst 5, 1) := by decide +kernel
theorem dL_isTold_317 : decode cL_isTold 317 = .ok (.irem, 1) := by decide +kernel
theorem dL_isTold_318 : decode cL_isTold 318 = .ok (.ifCond .ne 12, 3) := by decide +kernel
theorem dL_isTold_321 : decode cL_isTold 321 = .ok (.iload 11, 2) := by decide +kernel
theorem dL_isTold_323 : decode cL_isTold 323 = .ok (.sipush 10002, 3) := by decide +kernel
theorem dL_isTold_326 : decode cL_isTold 326 = .ok (.irem, 1) := by decide +kernel
theorem dL_isTold_327 : decode cL_isTold 327 = .ok (.goto 12, 3) := by decide +kernel
theorem dL_isTold_330 : decode cL_isTold 330 = .ok (.bipush 100, 2) := by decide +kernel
theorem dL_isTold_332 : decode cL_isTold 332 = .ok (.iload 11, 2) := by decide +kernel
theorem dL_isTold_334 : decode cL_isTold 334 = .ok (.sipush 200, 3) := by decide +kernel
theorem dL_isTold_337 : decode cL_isTold 337 = .ok (.irem, 1) := by decide +kernel
theorem dL_isTold_338 : decode cL_isTold 338 = .ok (.iadd, 1) := by decide +kernel
theorem dL_isTold_339 : decode cL_isTold 339 = .ok (.istore 15, 2) := by decide +kernel
theorem dL_isTold_341 : decode cL_isTold 341 = .ok (.iload 11, 2) := by decide +kernel
theorem dL_isTold_343 : decode cL_isTold 343 = .ok (.bipush 7, 2) := by decide +kernel
theorem dL_isTold_345 : decode cL_isTold 345 = .ok (.idiv, 1) := by decide +kernel
theorem dL_isTold_346 : decode cL_isTold 346 = .ok (.iconst 5, 1) := by decide +kernel
theorem dL_isTold_347 : decode cL_isTold 347 = .ok (.irem, 1) := by decide +kernel
theorem dL_isTold_348 : decode cL_isTold 348 = .ok (.ifCond .ne 15, 3) := by decide +kernel
theorem dL_isTold_351 : decode cL_isTold 351 = .ok (.iload 11, 2) := by decide +kernel
theorem dL_isTold_353 : decode cL_isTold 353 = .ok (.bipush 7, 2) := by decide +kernel
theorem dL_isTold_355 : decode cL_isTold 355 = .ok (.idiv, 1) := by decide +kernel
theorem dL_isTold_356 : decode cL_isTold 356 = .ok (.sipush 10002, 3) := by decide +kernel
theorem dL_isTold_359 : decode cL_isTold 359 = .ok (.irem, 1) := by decide +kernel
theorem dL_isTold_360 : decode cL_isTold 360 = .ok (.goto 14, 3) := by decide +kernel
theorem dL_isTold_363 : decode cL_isTold 363 = .ok (.bipush 60, 2) := by decide +kernel
theorem dL_isTold_365 : decode cL_isTold 365 = .ok (.iload 11, 2) := by decide +kernel
theorem dL_isTold_367 : decode cL_isTold 367 = .ok (.bipush 7, 2) := by decide +kernel
theorem dL_isTold_369 : decode cL_isTold 369 = .ok (.idiv, 1) := by decide +kernel
theorem dL_isTold_370 : decode cL_isTold 370 = .ok (.bipush 60, 2) := by decide +kernel
theorem dL_isTold_372 : decode cL_isTold 372 = .ok (.irem, 1) := by decide +kernel
theorem dL_isTold_373 : decode cL_isTold 373 = .ok (.iadd, 1) := by decide +kernel
theorem dL_isTold_374 : decode cL_isTold 374 = .ok (.istore 16, 2) := by decide +kernel
theorem dL_isTold_376 : decode cL_isTold 376 = .ok (.iload 10, 2) := by decide +kernel
theorem dL_isTold_378 : decode cL_isTold 378 = .ok (.iconst 5, 1) := by decide +kernel
theorem dL_isTold_379 : decode cL_isTold 379 = .ok (.idiv, 1) := by decide +kernel
theorem dL_isTold_380 : decode cL_isTold 380 = .ok (.iconst 4, 1) := by decide +kernel
theorem dL_isTold_381 : decode cL_isTold 381 = .ok (.irem, 1) := by decide +kernel
theorem dL_isTold_382 : decode cL_isTold 382 = .ok (.istore 17, 2) := by decide +kernel
theorem dL_isTold_384 : decode cL_isTold 384 = .ok (.iload 14, 2) := by decide +kernel
theorem dL_isTold_386 : decode cL_isTold 386 = .ok (.iconst 4, 1) := by decide +kernel
theorem dL_isTold_387 : decode cL_isTold 387 = .ok (.if_icmp .ge 13, 3) := by decide +kernel
theorem dL_isTold_390 : decode cL_isTold 390 = .ok (.iload 17, 2) := by decide +kernel
theorem dL_isTold_392 : decode cL_isTold 392 = .ok (.iconst 3, 1) := by decide +kernel
theorem dL_isTold_393 : decode cL_isTold 393 = .ok (.if_icmp .ge 7, 3) := by decide +kernel
theorem dL_isTold_396 : decode cL_isTold 396 = .ok (.iconst 1, 1) := by decide +kernel
theorem dL_isTold_397 : decode cL_isTold 397 = .ok (.goto 4, 3) := by decide +kernel
theorem dL_isTold_400 : decode cL_isTold 400 = .ok (.iconst 0, 1) := by decide +kernel
theorem dL_isTold_401 : decode cL_isTold 401 = .ok (.istore 18, 2) := by decide +kernel
theorem dL_isTold_403 : decode cL_isTold 403 = .ok (.iload 15, 2) := by decide +kernel
theorem dL_isTold_405 : decode cL_isTold 405 = .ok (.ifCond .le 28, 3) := by decide +kernel
theorem dL_isTold_408 : decode cL_isTold 408 = .ok (.iload 15, 2) := by decide +kernel
theorem dL_isTold_410 : decode cL_isTold 410 = .ok (.sipush 10001, 3) := by decide +kernel
theorem dL_isTold_413 : decode cL_isTold 413 = .ok (.if_icmp .ge 20, 3) := by decide +kernel
theorem dL_isTold_416 : decode cL_isTold 416 = .ok (.iload 16, 2) := by decide +kernel
theorem dL_isTold_418 : decode cL_isTold 418 = .ok (.ifCond .le 15, 3) := by decide +kernel
theorem dL_isTold_421 : decode cL_isTold 421 = .ok (.iload 16, 2) := by decide +kernel
theorem dL_isTold_423 : decode cL_isTold 423 = .ok (.sipush 10001, 3) := by decide +kernel
theorem dL_isTold_426 : decode cL_isTold 426 = .ok (.if_icmp .ge 7, 3) := by decide +kernel
theorem dL_isTold_429 : decode cL_isTold 429 = .ok (.iconst 1, 1) := by decide +kernel
theorem dL_isTold_430 : decode cL_isTold 430 = .ok (.goto 4, 3) := by decide +kernel
theorem dL_isTold_433 : decode cL_isTold 433 = .ok (.iconst 0, 1) := by decide +kernel
theorem dL_isTold_434 : decode cL_isTold 434 = .ok (.istore 19, 2) := by decide +kernel
theorem dL_isTold_436 : decode cL_isTold 436 = .ok (.iload 18, 2) := by decide +kernel
theorem dL_isTold_438 : decode cL_isTold 438 = .ok (.ifCond .eq 38, 3) := by decide +kernel
theorem dL_isTold_441 : decode cL_isTold 441 = .ok (.iload 19, 2) := by decide +kernel
theorem dL_isTold_443 : decode cL_isTold 443 = .ok (.ifCond .eq 33, 3) := by decide +kernel
theorem dL_isTold_446 : decode cL_isTold 446 = .ok (.aload 6, 2) := by decide +kernel
theorem dL_isTold_448 : decode cL_isTold 448 = .ok (.bipush 8, 2) := by decide +kernel
theorem dL_isTold_450 : decode cL_isTold 450 = .ok (.iload 14, 2) := by decide +kernel
theorem dL_isTold_452 : decode cL_isTold 452 = .ok (.iadd, 1) := by decide +kernel
theorem dL_isTold_453 : decode cL_isTold 453 = .ok (.iload 15, 2) := by decide +kernel
theorem dL_isTold_455 : decode cL_isTold 455 = .ok (.iastore, 1) := by decide +kernel
theorem dL_isTold_456 : decode cL_isTold 456 = .ok (.aload 6, 2) := by decide +kernel
theorem dL_isTold_458 : decode cL_isTold 458 = .ok (.bipush 12, 2) := by decide +kernel
theorem dL_isTold_460 : decode cL_isTold 460 = .ok (.iload 14, 2) := by decide +kernel
theorem dL_isTold_462 : decode cL_isTold 462 = .ok (.iadd, 1) := by decide +kernel
theorem dL_isTold_463 : decode cL_isTold 463 = .ok (.iload 16, 2) := by decide +kernel
theorem dL_isTold_465 : decode cL_isTold 465 = .ok (.iastore, 1) := by decide +kernel
theorem dL_isTold_466 : decode cL_isTold 466 = .ok (.aload 6, 2) := by decide +kernel
theorem dL_isTold_468 : decode cL_isTold 468 = .ok (.bipush 16, 2) := by decide +kernel
theorem dL_isTold_470 : decode cL_isTold 470 = .ok (.iload 14, 2) := by decide +kernel
theorem dL_isTold_472 : decode cL_isTold 472 = .ok (.iadd, 1) := by decide +kernel
theorem dL_isTold_473 : decode cL_isTold 473 = .ok (.iload 17, 2) := by decide +kernel
theorem dL_isTold_475 : decode cL_isTold 475 = .ok (.iastore, 1) := by decide +kernel
theorem dL_isTold_476 : decode cL_isTold 476 = .ok (.aload_n 0, 1) := by decide +kernel
theorem dL_isTold_477 : decode cL_isTold 477 = .ok (.iconst 2, 1) := by decide +kernel
theorem dL_isTold_478 : decode cL_isTold 478 = .ok (.iload 14, 2) := by decide +kernel
theorem dL_isTold_480 : decode cL_isTold 480 = .ok (.iload 15, 2) := by decide +kernel
theorem dL_isTold_482 : decode cL_isTold 482 = .ok (.iload 16, 2) := by decide +kernel
theorem dL_isTold_484 : decode cL_isTold 484 = .ok (.iload 17, 2) := by decide +kernel
theorem dL_isTold_486 : decode cL_isTold 486 = .ok (.iconst 0, 1) := by decide +kernel
theorem dL_isTold_487 : decode cL_isTold 487 = .ok (.iconst 0, 1) := by decide +kernel
theorem dL_isTold_488 : decode cL_isTold 488 = .ok (.invokestatic 183, 3) := by decide +kernel
theorem dL_isTold_491 : decode cL_isTold 491 = .ok (.iload 18, 2) := by decide +kernel
theorem dL_isTold_493 : decode cL_isTold 493 = .ok (.ifCond .ne 8, 3) := by decide +kernel
theorem dL_isTold_496 : decode cL_isTold 496 = .ok (.ldc 84, 2) := by decide +kernel
theorem dL_isTold_498 : decode cL_isTold 498 = .ok (.goto 14, 3) := by decide +kernel
theorem dL_isTold_501 : decode cL_isTold 501 = .ok (.iload 19, 2) := by decide +kernel
theorem dL_isTold_503 : decode cL_isTold 503 = .ok (.ifCond .eq 7, 3) := by decide +kernel
theorem dL_isTold_506 : decode cL_isTold 506 = .ok (.iconst 0, 1) := by decide +kernel
theorem dL_isTold_507 : decode cL_isTold 507 = .ok (.goto 5, 3) := by decide +kernel
theorem dL_isTold_510 : decode cL_isTold 510 = .ok (.ldc 87, 2) := by decide +kernel
theorem dL_isTold_512 : decode cL_isTold 512 = .ok (.if_icmp .ne 7, 3) := by decide +kernel
theorem dL_isTold_515 : decode cL_isTold 515 = .ok (.iconst 1, 1) := by decide +kernel
theorem dL_isTold_516 : decode cL_isTold 516 = .ok (.goto 4, 3) := by decide +kernel
theorem dL_isTold_519 : decode cL_isTold 519 = .ok (.iconst 0, 1) := by decide +kernel
theorem dL_isTold_520 : decode cL_isTold 520 = .ok (.ireturn, 1) := by decide +kernel
theorem dL_isTold_521 : decode cL_isTold 521 = .ok (.iload 9, 2) := by decide +kernel
theorem dL_isTold_523 : decode cL_isTold 523 = .ok (.iconst 3, 1) := by decide +kernel
theorem dL_isTold_524 : decode cL_isTold 524 = .ok (.if_icmp .ne 149, 3) := by decide +kernel
theorem dL_isTold_527 : decode cL_isTold 527 = .ok (.iload 10, 2) := by decide +kernel
theorem dL_isTold_529 : decode cL_isTold 529 = .ok (.iconst 4, 1) := by decide +kernel
theorem dL_isTold_530 : decode cL_isTold 530 = .ok (.irem, 1) := by decide +kernel
theorem dL_isTold_531 : decode cL_isTold 531 = .ok (.istore 14, 2) := by decide +kernel
theorem dL_isTold_533 : decode cL_isTold 533 = .ok (.iload 11, 2) := by decide +kernel
theorem dL_isTold_535 : decode cL_isTold 535 = .ok (.iconst 5, 1) := by decide +kernel
theorem dL_isTold_536 : decode cL_isTold 536 = .ok (.irem, 1) := by decide +kernel
theorem dL_isTold_537 : decode cL_isTold 537 = .ok (.ifCond .ne 12, 3) := by decide +kernel
theorem dL_isTold_540 : decode cL_isTold 540 = .ok (.iload 11, 2) := by decide +kernel
theorem dL_isTold_542 : decode cL_isTold 542 = .ok (.sipush 502, 3) := by decide +kernel
theorem dL_isTold_545 : decode cL_isTold 545 = .ok (.irem, 1) := by decide +kernel
theorem dL_isTold_546 : decode cL_isTold 546 = .ok (.goto 10, 3) := by decide +kernel
theorem dL_isTold_549 : decode cL_isTold 549 = .ok (.iconst 1, 1) := by decide +kernel
theorem dL_isTold_550 : decode cL_isTold 550 = .ok (.iload 11, 2) := by decide +kernel
theorem dL_isTold_552 : decode cL_isTold 552 = .ok (.bipush 20, 2) := by decide +kernel
theorem dL_isTold_554 : decode cL_isTold 554 = .ok (.irem, 1) := by decide +kernel
theorem dL_isTold_555 : decode cL_isTold 555 = .ok (.iadd, 1) := by decide +kernel
theorem dL_isTold_556 : decode cL_isTold 556 = .ok (.istore 15, 2) := by decide +kernel
theorem dL_isTold_558 : decode cL_isTold 558 = .ok (.iload 15, 2) := by decide +kernel
theorem dL_isTold_560 : decode cL_isTold 560 = .ok (.ifCond .le 15, 3) := by decide +kernel
theorem dL_isTold_563 : decode cL_isTold 563 = .ok (.iload 15, 2) := by decide +kernel
theorem dL_isTold_565 : decode cL_isTold 565 = .ok (.sipush 501, 3) := by decide +kernel
theorem dL_isTold_568 : decode cL_isTold 568 = .ok (.if_icmp .ge 7, 3) := by decide +kernel
theorem dL_isTold_571 : decode cL_isTold 571 = .ok (.iconst 1, 1) := by decide +kernel
theorem dL_isTold_572 : decode cL_isTold 572 = .ok (.goto 4, 3) := by decide +kernel
theorem dL_isTold_575 : decode cL_isTold 575 = .ok (.iconst 0, 1) := by decide +kernel
theorem dL_isTold_576 : decode cL_isTold 576 = .ok (.istore 16, 2) := by decide +kernel
theorem dL_isTold_578 : decode cL_isTold 578 = .ok (.iload 14, 2) := by decide +kernel
theorem dL_isTold_580 : decode cL_isTold 580 = .ok (.iconst 3, 1) := by decide +kernel
theorem dL_isTold_581 : decode cL_isTold 581 = .ok (.if_icmp .ge 16, 3) := by decide +kernel
theorem dL_isTold_584 : decode cL_isTold 584 = .ok (.aload 5, 2) := by decide +kernel
theorem dL_isTold_586 : decode cL_isTold 586 = .ok (.bipush 8, 2) := by decide +kernel
theorem dL_isTold_588 : decode cL_isTold 588 = .ok (.iload 14, 2) := by decide +kernel
theorem dL_isTold_590 : decode cL_isTold 590 = .ok (.imul, 1) := by decide +kernel
theorem dL_isTold_591 : decode cL_isTold 591 = .ok (.iconst 5, 1) := by decide +kernel
theorem dL_isTold_592 : decode cL_isTold 592 = .ok (.iadd, 1) := by decide +kernel
theorem dL_isTold_593 : decode cL_isTold 593 = .ok (.iaload, 1) := by decide +kernel
theorem dL_isTold_594 : decode cL_isTold 594 = .ok (.goto 4, 3) := by decide +kernel
theorem dL_isTold_597 : decode cL_isTold 597 = .ok (.iconst 0, 1) := by decide +kernel
theorem dL_isTold_598 : decode cL_isTold 598 = .ok (.istore 17, 2) := by decide +kernel
theorem dL_isTold_600 : decode cL_isTold 600 = .ok (.aload 5, 2) := by decide +kernel
theorem dL_isTold_602 : decode cL_isTold 602 = .ok (.iload 14, 2) := by decide +kernel
theorem dL_isTold_604 : decode cL_isTold 604 = .ok (.iconst 3, 1) := by decide +kernel
theorem dL_isTold_605 : decode cL_isTold 605 = .ok (.if_icmp .ge 18, 3) := by decide +kernel
theorem dL_isTold_608 : decode cL_isTold 608 = .ok (.iload 16, 2) := by decide +kernel
theorem dL_isTold_610 : decode cL_isTold 610 = .ok (.ifCond .eq 13, 3) := by decide +kernel
theorem dL_isTold_613 : decode cL_isTold 613 = .ok (.bipush 8, 2) := by decide +kernel
theorem dL_isTold_615 : decode cL_isTold 615 = .ok (.iload 14, 2) := by decide +kernel
theorem dL_isTold_617 : decode cL_isTold 617 = .ok (.imul, 1) := by decide +kernel
theorem dL_isTold_618 : decode cL_isTold 618 = .ok (.iconst 5, 1) := by decide +kernel
theorem dL_isTold_619 : decode cL_isTold 619 = .ok (.iadd, 1) := by decide +kernel
theorem dL_isTold_620 : decode cL_isTold 620 = .ok (.goto 5, 3) := by decide +kernel
theorem dL_isTold_623 : decode cL_isTold 623 = .ok (.bipush 7, 2) := by decide +kernel
theorem dL_isTold_625 : decode cL_isTold 625 = .ok (.iload 15, 2) := by decide +kernel
theorem dL_isTold_627 : decode cL_isTold 627 = .ok (.iastore, 1) := by decide +kernel
theorem dL_isTold_628 : decode cL_isTold 628 = .ok (.aload_n 0, 1) := by decide +kernel
theorem dL_isTold_629 : decode cL_isTold 629 = .ok (.iconst 3, 1) := by decide +kernel
theorem dL_isTold_630 : decode cL_isTold 630 = .ok (.iload 14, 2) := by decide +kernel
theorem dL_isTold_632 : decode cL_isTold 632 = .ok (.iload 15, 2) := by decide +kernel
theorem dL_isTold_634 : decode cL_isTold 634 = .ok (.iconst 0, 1) := by decide +kernel
theorem dL_isTold_635 : decode cL_isTold 635 = .ok (.iconst 0, 1) := by decide +kernel
theorem dL_isTold_636 : decode cL_isTold 636 = .ok (.iconst 0, 1) := by decide +kernel
theorem dL_isTold_637 : decode cL_isTold 637 = .ok (.iconst 0, 1) := by decide +kernel
theorem dL_isTold_638 : decode cL_isTold 638 = .ok (.invokestatic 183, 3) := by decide +kernel
theorem dL_isTold_641 : decode cL_isTold 641 = .ok (.iload 14, 2) := by decide +kernel
theorem dL_isTold_643 : decode cL_isTold 643 = .ok (.iconst 3, 1) := by decide +kernel
theorem dL_isTold_644 : decode cL_isTold 644 = .ok (.if_icmp .ne 8, 3) := by decide +kernel
theorem dL_isTold_647 : decode cL_isTold 647 = .ok (.ldc 84, 2) := by decide +kernel
theorem dL_isTold_649 : decode cL_isTold 649 = .ok (.goto 15, 3) := by decide +kernel
theorem dL_isTold_652 : decode cL_isTold 652 = .ok (.iload 16, 2) := by decide +kernel
theorem dL_isTold_654 : decode cL_isTold 654 = .ok (.ifCond .eq 8, 3) := by decide +kernel
theorem dL_isTold_657 : decode cL_isTold 657 = .ok (.iload 17, 2) := by decide +kernel
theorem dL_isTold_659 : decode cL_isTold 659 = .ok (.goto 5, 3) := by decide +kernel
theorem dL_isTold_662 : decode cL_isTold 662 = .ok (.ldc 87, 2) := by decide +kernel
theorem dL_isTold_664 : decode cL_isTold 664 = .ok (.if_icmp .ne 7, 3) := by decide +kernel
theorem dL_isTold_667 : decode cL_isTold 667 = .ok (.iconst 1, 1) := by decide +kernel
theorem dL_isTold_668 : decode cL_isTold 668 = .ok (.goto 4, 3) := by decide +kernel
theorem dL_isTold_671 : decode cL_isTold 671 = .ok (.iconst 0, 1) := by decide +kernel
theorem dL_isTold_672 : decode cL_isTold 672 = .ok (.ireturn, 1) := by decide +kernel
theorem dL_isTold_673 : decode cL_isTold 673 = .ok (.iload 9, 2) := by decide +kernel
theorem dL_isTold_675 : decode cL_isTold 675 = .ok (.iconst 4, 1) := by decide +kernel
theorem dL_isTold_676 : decode cL_isTold 676 = .ok (.if_icmp .ne 179, 3) := by decide +kernel
theorem dL_isTold_679 : decode cL_isTold 679 = .ok (.iload 11, 2) := by decide +kernel
theorem dL_isTold_681 : decode cL_isTold 681 = .ok (.iconst 4, 1) := by decide +kernel
theorem dL_isTold_682 : decode cL_isTold 682 = .ok (.irem, 1) := by decide +kernel
theorem dL_isTold_683 : decode cL_isTold 683 = .ok (.ifCond .ne 12, 3) := by decide +kernel
theorem dL_isTold_686 : decode cL_isTold 686 = .ok (.iload 11, 2) := by decide +kernel
theorem dL_isTold_688 : decode cL_isTold 688 = .ok (.sipush 1700, 3) := by decide +kernel
theorem dL_isTold_691 : decode cL_isTold 691 = .ok (.imul, 1) := by decide +kernel
theorem dL_isTold_692 : decode cL_isTold 692 = .ok (.goto 9, 3) := by decide +kernel
theorem dL_isTold_695 : decode cL_isTold 695 = .ok (.iload 11, 2) := by decide +kernel
theorem dL_isTold_697 : decode cL_isTold 697 = .ok (.sipush 30000, 3) := by decide +kernel
theorem dL_isTold_700 : decode cL_isTold 700 = .ok (.irem, 1) := by decide +kernel
theorem dL_isTold_701 : decode cL_isTold 701 = .ok (.istore 14, 2) := by decide +kernel
theorem dL_isTold_703 : decode cL_isTold 703 = .ok (.iload 10, 2) := by decide +kernel
theorem dL_isTold_705 : decode cL_isTold 705 = .ok (.bipush 9, 2) := by decide +kernel
theorem dL_isTold_707 : decode cL_isTold 707 = .ok (.idiv, 1) := by decide +kernel
theorem dL_isTold_708 : decode cL_isTold 708 = .ok (.iconst 5, 1) := by decide +kernel
theorem dL_isTold_709 : decode cL_isTold 709 = .ok (.irem, 1) := by decide +kernel
theorem dL_isTold_710 : decode cL_isTold 710 = .ok (.ifCond .ne 14, 3) := by decide +kernel
theorem dL_isTold_713 : decode cL_isTold 713 = .ok (.iload 10, 2) := by decide +kernel
theorem dL_isTold_715 : decode cL_isTold 715 = .ok (.bipush 45, 2) := by decide +kernel
theorem dL_isTold_717 : decode cL_isTold 717 = .ok (.idiv, 1) := by decide +kernel
theorem dL_isTold_718 : decode cL_isTold 718 = .ok (.bipush 11, 2) := by decide +kernel
theorem dL_isTold_720 : decode cL_isTold 720 = .ok (.irem, 1) := by decide +kernel
theorem dL_isTold_721 : decode cL_isTold 721 = .ok (.goto 12, 3) := by decide +kernel
theorem dL_isTold_724 : decode cL_isTold 724 = .ok (.iconst 1, 1) := by decide +kernel
theorem dL_isTold_725 : decode cL_isTold 725 = .ok (.iload 10, 2) := by decide +kernel
theorem dL_isTold_727 : decode cL_isTold 727 = .ok (.bipush 45, 2) := by decide +kernel
theorem dL_isTold_729 : decode cL_isTold 729 = .ok (.idiv, 1) := by decide +kernel
theorem dL_isTold_730 : decode cL_isTold 730 = .ok (.iconst 3, 1) := by decide +kernel
theorem dL_isTold_731 : decode cL_isTold 731 = .ok (.irem, 1) := by decide +kernel
theorem dL_isTold_732 : decode cL_isTold 732 = .ok (.iadd, 1) := by decide +kernel
theorem dL_isTold_733 : decode cL_isTold 733 = .ok (.istore 15, 2) := by decide +kernel
theorem dL_isTold_735 : decode cL_isTold 735 = .ok (.iload 14, 2) := by decide +kernel
theorem dL_isTold_737 : decode cL_isTold 737 = .ok (.ldc 189, 2) := by decide +kernel
theorem dL_isTold_739 : decode cL_isTold 739 = .ok (.if_icmp .ge 19, 3) := by decide +kernel
theorem dL_isTold_742 : decode cL_isTold 742 = .ok (.iload 15, 2) := by decide +kernel
theorem dL_isTold_744 : decode cL_isTold 744 = .ok (.ifCond .le 14, 3) := by decide +kernel
theorem dL_isTold_747 : decode cL_isTold 747 = .ok (.iload 15, 2) := by decide +kernel
theorem dL_isTold_749 : decode cL_isTold 749 = .ok (.bipush 10, 2) := by decide +kernel
theorem dL_isTold_751 : decode cL_isTold 751 = .ok (.if_icmp .ge 7, 3) := by decide +kernel
theorem dL_isTold_754 : decode cL_isTold 754 = .ok (.iconst 1, 1) := by decide +kernel
theorem dL_isTold_755 : decode cL_isTold 755 = .ok (.goto 4, 3) := by decide +kernel
theorem dL_isTold_758 : decode cL_isTold 758 = .ok (.iconst 0, 1) := by decide +kernel
theorem dL_isTold_759 : decode cL_isTold 759 = .ok (.istore 16, 2) := by decide +kernel
theorem dL_isTold_761 : decode cL_isTold 761 = .ok (.iload 13, 2) := by decide +kernel
theorem dL_isTold_763 : decode cL_isTold 763 = .ok (.ifCond .eq 14, 3) := by decide +kernel
theorem dL_isTold_766 : decode cL_isTold 766 = .ok (.aload 6, 2) := by decide +kernel
theorem dL_isTold_768 : decode cL_isTold 768 = .ok (.bipush 24, 2) := by decide +kernel
theorem dL_isTold_770 : decode cL_isTold 770 = .ok (.iload 12, 2) := by decide +kernel
theorem dL_isTold_772 : decode cL_isTold 772 = .ok (.iadd, 1) := by decide +kernel
theorem dL_isTold_773 : decode cL_isTold 773 = .ok (.iaload, 1) := by decide +kernel
theorem dL_isTold_774 : decode cL_isTold 774 = .ok (.goto 4, 3) := by decide +kernel
theorem dL_isTold_777 : decode cL_isTold 777 = .ok (.iconst 0, 1) := by decide +kernel
theorem dL_isTold_778 : decode cL_isTold 778 = .ok (.istore 17, 2) := by decide +kernel
theorem dL_isTold_780 : decode cL_isTold 780 = .ok (.iload 13, 2) := by decide +kernel
theorem dL_isTold_782 : decode cL_isTold 782 = .ok (.ifCond .eq 28, 3) := by decide +kernel
theorem dL_isTold_785 : decode cL_isTold 785 = .ok (.iload 16, 2) := by decide +kernel
theorem dL_isTold_787 : decode cL_isTold 787 = .ok (.ifCond .eq 23, 3) := by decide +kernel
theorem dL_isTold_790 : decode cL_isTold 790 = .ok (.aload 6, 2) := by decide +kernel
theorem dL_isTold_792 : decode cL_isTold 792 = .ok (.bipush 24, 2) := by decide +kernel
theorem dL_isTold_794 : decode cL_isTold 794 = .ok (.iload 12, 2) := by decide +kernel
theorem dL_isTold_796 : decode cL_isTold 796 = .ok (.iadd, 1) := by decide +kernel
theorem dL_isTold_797 : decode cL_isTold 797 = .ok (.iload 14, 2) := by decide +kernel
theorem dL_isTold_799 : decode cL_isTold 799 = .ok (.iastore, 1) := by decide +kernel
theorem dL_isTold_800 : decode cL_isTold 800 = .ok (.aload 6, 2) := by decide +kernel
theorem dL_isTold_802 : decode cL_isTold 802 = .ok (.bipush 32, 2) := by decide +kernel
theorem dL_isTold_804 : decode cL_isTold 804 = .ok (.iload 12, 2) := by decide +kernel
theorem dL_isTold_806 : decode cL_isTold 806 = .ok (.iadd, 1) := by decide +kernel
theorem dL_isTold_807 : decode cL_isTold 807 = .ok (.iload 15, 2) := by decide +kernel
theorem dL_isTold_809 : decode cL_isTold 809 = .ok (.iastore, 1) := by decide +kernel
theorem dL_isTold_810 : decode cL_isTold 810 = .ok (.aload_n 0, 1) := by decide +kernel
theorem dL_isTold_811 : decode cL_isTold 811 = .ok (.iconst 4, 1) := by decide +kernel
theorem dL_isTold_812 : decode cL_isTold 812 = .ok (.iload 12, 2) := by decide +kernel
theorem dL_isTold_814 : decode cL_isTold 814 = .ok (.iload 14, 2) := by decide +kernel
theorem dL_isTold_816 : decode cL_isTold 816 = .ok (.iload 15, 2) := by decide +kernel
theorem dL_isTold_818 : decode cL_isTold 818 = .ok (.iconst 0, 1) := by decide +kernel
theorem dL_isTold_819 : decode cL_isTold 819 = .ok (.iconst 0, 1) := by decide +kernel
theorem dL_isTold_820 : decode cL_isTold 820 = .ok (.iconst 0, 1) := by decide +kernel
theorem dL_isTold_821 : decode cL_isTold 821 = .ok (.invokestatic 183, 3) := by decide +kernel
theorem dL_isTold_824 : decode cL_isTold 824 = .ok (.iload 13, 2) := by decide +kernel
theorem dL_isTold_826 : decode cL_isTold 826 = .ok (.ifCond .ne 8, 3) := by decide +kernel
theorem dL_isTold_829 : decode cL_isTold 829 = .ok (.ldc 84, 2) := by decide +kernel
theorem dL_isTold_831 : decode cL_isTold 831 = .ok (.goto 15, 3) := by decide +kernel
theorem dL_isTold_834 : decode cL_isTold 834 = .ok (.iload 16, 2) := by decide +kernel
theorem dL_isTold_836 : decode cL_isTold 836 = .ok (.ifCond .eq 8, 3) := by decide +kernel
theorem dL_isTold_839 : decode cL_isTold 839 = .ok (.iload 17, 2) := by decide +kernel
theorem dL_isTold_841 : decode cL_isTold 841 = .ok (.goto 5, 3) := by decide +kernel
theorem dL_isTold_844 : decode cL_isTold 844 = .ok (.ldc 87, 2) := by decide +kernel
theorem dL_isTold_846 : decode cL_isTold 846 = .ok (.if_icmp .ne 7, 3) := by decide +kernel
theorem dL_isTold_849 : decode cL_isTold 849 = .ok (.iconst 1, 1) := by decide +kernel
theorem dL_isTold_850 : decode cL_isTold 850 = .ok (.goto 4, 3) := by decide +kernel
theorem dL_isTold_853 : decode cL_isTold 853 = .ok (.iconst 0, 1) := by decide +kernel
theorem dL_isTold_854 : decode cL_isTold 854 = .ok (.ireturn, 1) := by decide +kernel
theorem dL_isTold_855 : decode cL_isTold 855 = .ok (.iload 9, 2) := by decide +kernel
theorem dL_isTold_857 : decode cL_isTold 857 = .ok (.iconst 5, 1) := by decide +kernel
theorem dL_isTold_858 : decode cL_isTold 858 = .ok (.if_icmp .ne 105, 3) := by decide +kernel
theorem dL_isTold_861 : decode cL_isTold 861 = .ok (.iload 10, 2) := by decide +kernel
theorem dL_isTold_863 : decode cL_isTold 863 = .ok (.iconst 4, 1) := by decide +kernel
theorem dL_isTold_864 : decode cL_isTold 864 = .ok (.irem, 1) := by decide +kernel
theorem dL_isTold_865 : decode cL_isTold 865 = .ok (.istore 14, 2) := by decide +kernel
theorem dL_isTold_867 : decode cL_isTold 867 = .ok (.iload 11, 2) := by decide +kernel
theorem dL_isTold_869 : decode cL_isTold 869 = .ok (.iconst 3, 1) := by decide +kernel
theorem dL_isTold_870 : decode cL_isTold 870 = .ok (.irem, 1) := by decide +kernel
theorem dL_isTold_871 : decode cL_isTold 871 = .ok (.ifCond .le 7, 3) := by decide +kernel
theorem dL_isTold_874 : decode cL_isTold 874 = .ok (.iconst 1, 1) := by decide +kernel
theorem dL_isTold_875 : decode cL_isTold 875 = .ok (.goto 4, 3) := by decide +kernel
theorem dL_isTold_878 : decode cL_isTold 878 = .ok (.iconst 0, 1) := by decide +kernel
theorem dL_isTold_879 : decode cL_isTold 879 = .ok (.istore 15, 2) := by decide +kernel
theorem dL_isTold_881 : decode cL_isTold 881 = .ok (.iload 14, 2) := by decide +kernel
theorem dL_isTold_883 : decode cL_isTold 883 = .ok (.iconst 3, 1) := by decide +kernel
theorem dL_isTold_884 : decode cL_isTold 884 = .ok (.if_icmp .ge 17, 3) := by decide +kernel
theorem dL_isTold_887 : decode cL_isTold 887 = .ok (.aload 5, 2) := by decide +kernel
theorem dL_isTold_889 : decode cL_isTold 889 = .ok (.bipush 8, 2) := by decide +kernel
theorem dL_isTold_891 : decode cL_isTold 891 = .ok (.iload 14, 2) := by decide +kernel
theorem dL_isTold_893 : decode cL_isTold 893 = .ok (.imul, 1) := by decide +kernel
theorem dL_isTold_894 : decode cL_isTold 894 = .ok (.bipush 6, 2) := by decide +kernel
theorem dL_isTold_896 : decode cL_isTold 896 = .ok (.iadd, 1) := by decide +kernel
theorem dL_isTold_897 : decode cL_isTold 897 = .ok (.iaload, 1) := by decide +kernel
theorem dL_isTold_898 : decode cL_isTold 898 = .ok (.goto 4, 3) := by decide +kernel
theorem dL_isTold_901 : decode cL_isTold 901 = .ok (.iconst 0, 1) := by decide +kernel
theorem dL_isTold_902 : decode cL_isTold 902 = .ok (.istore 16, 2) := by decide +kernel
theorem dL_isTold_904 : decode cL_isTold 904 = .ok (.aload 5, 2) := by decide +kernel
theorem dL_isTold_906 : decode cL_isTold 906 = .ok (.iload 14, 2) := by decide +kernel
theorem dL_isTold_908 : decode cL_isTold 908 = .ok (.iconst 3, 1) := by decide +kernel
theorem dL_isTold_909 : decode cL_isTold 909 = .ok (.if_icmp .ge 14, 3) := by decide +kernel
theorem dL_isTold_912 : decode cL_isTold 912 = .ok (.bipush 8, 2) := by decide +kernel
theorem dL_isTold_914 : decode cL_isTold 914 = .ok (.iload 14, 2) := by decide +kernel
theorem dL_isTold_916 : decode cL_isTold 916 = .ok (.imul, 1) := by decide +kernel
theorem dL_isTold_917 : decode cL_isTold 917 = .ok (.bipush 6, 2) := by decide +kernel
theorem dL_isTold_919 : decode cL_isTold 919 = .ok (.iadd, 1) := by decide +kernel
theorem dL_isTold_920 : decode cL_isTold 920 = .ok (.goto 5, 3) := by decide +kernel
theorem dL_isTold_923 : decode cL_isTold 923 = .ok (.bipush 7, 2) := by decide +kernel
theorem dL_isTold_925 : decode cL_isTold 925 = .ok (.iload 15, 2) := by decide +kernel
theorem dL_isTold_927 : decode cL_isTold 927 = .ok (.iastore, 1) := by decide +kernel
theorem dL_isTold_928 : decode cL_isTold 928 = .ok (.aload_n 0, 1) := by decide +kernel
theorem dL_isTold_929 : decode cL_isTold 929 = .ok (.iconst 5, 1) := by decide +kernel
theorem dL_isTold_930 : decode cL_isTold 930 = .ok (.iload 14, 2) := by decide +kernel
theorem dL_isTold_932 : decode cL_isTold 932 = .ok (.iload 15, 2) := by decide +kernel
theorem dL_isTold_934 : decode cL_isTold 934 = .ok (.iconst 0, 1) := by decide +kernel
theorem dL_isTold_935 : decode cL_isTold 935 = .ok (.iconst 0, 1) := by decide +kernel
theorem dL_isTold_936 : decode cL_isTold 936 = .ok (.iconst 0, 1) := by decide +kernel
theorem dL_isTold_937 : decode cL_isTold 937 = .ok (.iconst 0, 1) := by decide +kernel
theorem dL_isTold_938 : decode cL_isTold 938 = .ok (.invokestatic 183, 3) := by decide +kernel
theorem dL_isTold_941 : decode cL_isTold 941 = .ok (.iload 14, 2) := by decide +kernel
theorem dL_isTold_943 : decode cL_isTold 943 = .ok (.iconst 3, 1) := by decide +kernel
theorem dL_isTold_944 : decode cL_isTold 944 = .ok (.if_icmp .ne 8, 3) := by decide +kernel
theorem dL_isTold_947 : decode cL_isTold 947 = .ok (.ldc 84, 2) := by decide +kernel
theorem dL_isTold_949 : decode cL_isTold 949 = .ok (.goto 5, 3) := by decide +kernel
theorem dL_isTold_952 : decode cL_isTold 952 = .ok (.iload 16, 2) := by decide +kernel
theorem dL_isTold_954 : decode cL_isTold 954 = .ok (.if_icmp .ne 7, 3) := by decide +kernel
theorem dL_isTold_957 : decode cL_isTold 957 = .ok (.iconst 1, 1) := by decide +kernel
theorem dL_isTold_958 : decode cL_isTold 958 = .ok (.goto 4, 3) := by decide +kernel
theorem dL_isTold_961 : decode cL_isTold 961 = .ok (.iconst 0, 1) := by decide +kernel
theorem dL_isTold_962 : decode cL_isTold 962 = .ok (.ireturn, 1) := by decide +kernel
theorem dL_isTold_963 : decode cL_isTold 963 = .ok (.iload 9, 2) := by decide +kernel
theorem dL_isTold_965 : decode cL_isTold 965 = .ok (.bipush 6, 2) := by decide +kernel
theorem dL_isTold_967 : decode cL_isTold 967 = .ok (.if_icmp .ne 97, 3) := by decide +kernel
theorem dL_isTold_970 : decode cL_isTold 970 = .ok (.iload 13, 2) := by decide +kernel
theorem dL_isTold_972 : decode cL_isTold 972 = .ok (.ifCond .eq 14, 3) := by decide +kernel
theorem dL_isTold_975 : decode cL_isTold 975 = .ok (.aload 6, 2) := by decide +kernel
theorem dL_isTold_977 : decode cL_isTold 977 = .ok (.bipush 48, 2) := by decide +kernel
theorem dL_isTold_979 : decode cL_isTold 979 = .ok (.iload 12, 2) := by decide +kernel
theorem dL_isTold_981 : decode cL_isTold 981 = .ok (.iadd, 1) := by decide +kernel
theorem dL_isTold_982 : decode cL_isTold 982 = .ok (.iaload, 1) := by decide +kernel
theorem dL_isTold_983 : decode cL_isTold 983 = .ok (.goto 4, 3) := by decide +kernel
theorem dL_isTold_986 : decode cL_isTold 986 = .ok (.iconst 0, 1) := by decide +kernel
theorem dL_isTold_987 : decode cL_isTold 987 = .ok (.istore 14, 2) := by decide +kernel
theorem dL_isTold_989 : decode cL_isTold 989 = .ok (.aload 6, 2) := by decide +kernel
theorem dL_isTold_991 : decode cL_isTold 991 = .ok (.iload 13, 2) := by decide +kernel
theorem dL_isTold_993 : decode cL_isTold 993 = .ok (.ifCond .eq 11, 3) := by decide +kernel
theorem dL_isTold_996 : decode cL_isTold 996 = .ok (.bipush 48, 2) := by decide +kernel
theorem dL_isTold_998 : decode cL_isTold 998 = .ok (.iload 12, 2) := by decide +kernel
theorem dL_isTold_1000 : decode cL_isTold 1000 = .ok (.iadd, 1) := by decide +kernel
theorem dL_isTold_1001 : decode cL_isTold 1001 = .ok (.goto 5, 3) := by decide +kernel
theorem dL_isTold_1004 : decode cL_isTold 1004 = .ok (.bipush 7, 2) := by decide +kernel
theorem dL_isTold_1006 : decode cL_isTold 1006 = .ok (.iload 11, 2) := by decide +kernel
theorem dL_isTold_1008 : decode cL_isTold 1008 = .ok (.iconst 3, 1) := by decide +kernel
theorem dL_isTold_1009 : decode cL_isTold 1009 = .ok (.irem, 1) := by decide +kernel
theorem dL_isTold_1010 : decode cL_isTold 1010 = .ok (.ifCond .le 7, 3) := by decide +kernel
theorem dL_isTold_1013 : decode cL_isTold 1013 = .ok (.iconst 1, 1) := by decide +kernel
theorem dL_isTold_1014 : decode cL_isTold 1014 = .ok (.goto 4, 3) := by decide +kernel
theorem dL_isTold_1017 : decode cL_isTold 1017 = .ok (.iconst 0, 1) := by decide +kernel
theorem dL_isTold_1018 : decode cL_isTold 1018 = .ok (.iastore, 1) := by decide +kernel
theorem dL_isTold_1019 : decode cL_isTold 1019 = .ok (.aload_n 0, 1) := by decide +kernel
theorem dL_isTold_1020 : decode cL_isTold 1020 = .ok (.bipush 6, 2) := by decide +kernel
theorem dL_isTold_1022 : decode cL_isTold 1022 = .ok (.iload 12, 2) := by decide +kernel
theorem dL_isTold_1024 : decode cL_isTold 1024 = .ok (.iload 11, 2) := by decide +kernel
theorem dL_isTold_1026 : decode cL_isTold 1026 = .ok (.iconst 3, 1) := by decide +kernel
theorem dL_isTold_1027 : decode cL_isTold 1027 = .ok (.irem, 1) := by decide +kernel
theorem dL_isTold_1028 : decode cL_isTold 1028 = .ok (.ifCond .le 7, 3) := by decide +kernel
theorem dL_isTold_1031 : decode cL_isTold 1031 = .ok (.iconst 1, 1) := by decide +kernel
theorem dL_isTold_1032 : decode cL_isTold 1032 = .ok (.goto 4, 3) := by decide +kernel
theorem dL_isTold_1035 : decode cL_isTold 1035 = .ok (.iconst 0, 1) := by decide +kernel
theorem dL_isTold_1036 : decode cL_isTold 1036 = .ok (.iconst 0, 1) := by decide +kernel
theorem dL_isTold_1037 : decode cL_isTold 1037 = .ok (.iconst 0, 1) := by decide +kernel
theorem dL_isTold_1038 : decode cL_isTold 1038 = .ok (.iconst 0, 1) := by decide +kernel
theorem dL_isTold_1039 : decode cL_isTold 1039 = .ok (.iconst 0, 1) := by decide +kernel
theorem dL_isTold_1040 : decode cL_isTold 1040 = .ok (.invokestatic 183, 3) := by decide +kernel
theorem dL_isTold_1043 : decode cL_isTold 1043 = .ok (.iload 13, 2) := by decide +kernel
theorem dL_isTold_1045 : decode cL_isTold 1045 = .ok (.ifCond .eq 8, 3) := by decide +kernel
theorem dL_isTold_1048 : decode cL_isTold 1048 = .ok (.iload 14, 2) := by decide +kernel
theorem dL_isTold_1050 : decode cL_isTold 1050 = .ok (.goto 5, 3) := by decide +kernel
theorem dL_isTold_1053 : decode cL_isTold 1053 = .ok (.ldc 84, 2) := by decide +kernel
theorem dL_isTold_1055 : decode cL_isTold 1055 = .ok (.if_icmp .ne 7, 3) := by decide +kernel
theorem dL_isTold_1058 : decode cL_isTold 1058 = .ok (.iconst 1, 1) := by decide +kernel
theorem dL_isTold_1059 : decode cL_isTold 1059 = .ok (.goto 4, 3) := by decide +kernel
theorem dL_isTold_1062 : decode cL_isTold 1062 = .ok (.iconst 0, 1) := by decide +kernel
theorem dL_isTold_1063 : decode cL_isTold 1063 = .ok (.ireturn, 1) := by decide +kernel
theorem dL_isTold_1064 : decode cL_isTold 1064 = .ok (.iload 9, 2) := by decide +kernel
theorem dL_isTold_1066 : decode cL_isTold 1066 = .ok (.bipush 7, 2) := by decide +kernel
theorem dL_isTold_1068 : decode cL_isTold 1068 = .ok (.if_icmp .ne 40, 3) := by decide +kernel
theorem dL_isTold_1071 : decode cL_isTold 1071 = .ok (.aload 6, 2) := by decide +kernel
theorem dL_isTold_1073 : decode cL_isTold 1073 = .ok (.iconst 3, 1) := by decide +kernel
theorem dL_isTold_1074 : decode cL_isTold 1074 = .ok (.iaload, 1) := by decide +kernel
theorem dL_isTold_1075 : decode cL_isTold 1075 = .ok (.istore 14, 2) := by decide +kernel
theorem dL_isTold_1077 : decode cL_isTold 1077 = .ok (.aload 6, 2) := by decide +kernel
theorem dL_isTold_1079 : decode cL_isTold 1079 = .ok (.iconst 3, 1) := by decide +kernel
theorem dL_isTold_1080 : decode cL_isTold 1080 = .ok (.iload 11, 2) := by decide +kernel
theorem dL_isTold_1082 : decode cL_isTold 1082 = .ok (.ldc 190, 2) := by decide +kernel
theorem dL_isTold_1084 : decode cL_isTold 1084 = .ok (.imul, 1) := by decide +kernel
theorem dL_isTold_1085 : decode cL_isTold 1085 = .ok (.iload 10, 2) := by decide +kernel
theorem dL_isTold_1087 : decode cL_isTold 1087 = .ok (.isub, 1) := by decide +kernel
theorem dL_isTold_1088 : decode cL_isTold 1088 = .ok (.iastore, 1) := by decide +kernel
theorem dL_isTold_1089 : decode cL_isTold 1089 = .ok (.aload_n 0, 1) := by decide +kernel
theorem dL_isTold_1090 : decode cL_isTold 1090 = .ok (.aload 6, 2) := by decide +kernel
theorem dL_isTold_1092 : decode cL_isTold 1092 = .ok (.iconst 3, 1) := by decide +kernel
theorem dL_isTold_1093 : decode cL_isTold 1093 = .ok (.iaload, 1) := by decide +kernel
theorem dL_isTold_1094 : decode cL_isTold 1094 = .ok (.invokevirtual 191, 3) := by decide +kernel
theorem dL_isTold_1097 : decode cL_isTold 1097 = .ok (.iload 14, 2) := by decide +kernel
theorem dL_isTold_1099 : decode cL_isTold 1099 = .ok (.if_icmp .ne 7, 3) := by decide +kernel
theorem dL_isTold_1102 : decode cL_isTold 1102 = .ok (.iconst 1, 1) := by decide +kernel
theorem dL_isTold_1103 : decode cL_isTold 1103 = .ok (.goto 4, 3) := by decide +kernel
theorem dL_isTold_1106 : decode cL_isTold 1106 = .ok (.iconst 0, 1) := by decide +kernel
theorem dL_isTold_1107 : decode cL_isTold 1107 = .ok (.ireturn, 1) := by decide +kernel
theorem dL_isTold_1108 : decode cL_isTold 1108 = .ok (.iload 11, 2) := by decide +kernel
theorem dL_isTold_1110 : decode cL_isTold 1110 = .ok (.iconst 3, 1) := by decide +kernel
theorem dL_isTold_1111 : decode cL_isTold 1111 = .ok (.irem, 1) := by decide +kernel
theorem dL_isTold_1112 : decode cL_isTold 1112 = .ok (.ifCond .ne 12, 3) := by decide +kernel
theorem dL_isTold_1115 : decode cL_isTold 1115 = .ok (.iload 11, 2) := by decide +kernel
theorem dL_isTold_1117 : decode cL_isTold 1117 = .ok (.sipush 1701, 3) := by decide +kernel
theorem dL_isTold_1120 : decode cL_isTold 1120 = .ok (.imul, 1) := by decide +kernel
theorem dL_isTold_1121 : decode cL_isTold 1121 = .ok (.goto 9, 3) := by decide +kernel
theorem dL_isTold_1124 : decode cL_isTold 1124 = .ok (.iload 11, 2) := by decide +kernel
theorem dL_isTold_1126 : decode cL_isTold 1126 = .ok (.sipush 4000, 3) := by decide +kernel
theorem dL_isTold_1129 : decode cL_isTold 1129 = .ok (.irem, 1) := by decide +kernel
theorem dL_isTold_1130 : decode cL_isTold 1130 = .ok (.istore 14, 2) := by decide +kernel
theorem dL_isTold_1132 : decode cL_isTold 1132 = .ok (.iload 9, 2) := by decide +kernel
theorem dL_isTold_1134 : decode cL_isTold 1134 = .ok (.bipush 8, 2) := by decide +kernel
theorem dL_isTold_1136 : decode cL_isTold 1136 = .ok (.if_icmp .ne 134, 3) := by decide +kernel
theorem dL_isTold_1139 : decode cL_isTold 1139 = .ok (.iload 14, 2) := by decide +kernel
theorem dL_isTold_1141 : decode cL_isTold 1141 = .ok (.ifCond .le 14, 3) := by decide +kernel
theorem dL_isTold_1144 : decode cL_isTold 1144 = .ok (.iload 14, 2) := by decide +kernel
theorem dL_isTold_1146 : decode cL_isTold 1146 = .ok (.ldc 189, 2) := by decide +kernel
theorem dL_isTold_1148 : decode cL_isTold 1148 = .ok (.if_icmp .ge 7, 3) := by decide +kernel
theorem dL_isTold_1151 : decode cL_isTold 1151 = .ok (.iconst 1, 1) := by decide +kernel
theorem dL_isTold_1152 : decode cL_isTold 1152 = .ok (.goto 4, 3) := by decide +kernel
theorem dL_isTold_1155 : decode cL_isTold 1155 = .ok (.iconst 0, 1) := by decide +kernel
theorem dL_isTold_1156 : decode cL_isTold 1156 = .ok (.istore 15, 2) := by decide +kernel
theorem dL_isTold_1158 : decode cL_isTold 1158 = .ok (.iload 13, 2) := by decide +kernel
theorem dL_isTold_1160 : decode cL_isTold 1160 = .ok (.ifCond .eq 14, 3) := by decide +kernel
theorem dL_isTold_1163 : decode cL_isTold 1163 = .ok (.aload 6, 2) := by decide +kernel
theorem dL_isTold_1165 : decode cL_isTold 1165 = .ok (.bipush 40, 2) := by decide +kernel
theorem dL_isTold_1167 : decode cL_isTold 1167 = .ok (.iload 12, 2) := by decide +kernel
theorem dL_isTold_1169 : decode cL_isTold 1169 = .ok (.iadd, 1) := by decide +kernel
theorem dL_isTold_1170 : decode cL_isTold 1170 = .ok (.iaload, 1) := by decide +kernel
theorem dL_isTold_1171 : decode cL_isTold 1171 = .ok (.goto 4, 3) := by decide +kernel
theorem dL_isTold_1174 : decode cL_isTold 1174 = .ok (.iconst 0, 1) := by decide +kernel
theorem dL_isTold_1175 : decode cL_isTold 1175 = .ok (.istore 16, 2) := by decide +kernel
theorem dL_isTold_1177 : decode cL_isTold 1177 = .ok (.iload 16, 2) := by decide +kernel
theorem dL_isTold_1179 : decode cL_isTold 1179 = .ok (.ifCond .ge 7, 3) := by decide +kernel
theorem dL_isTold_1182 : decode cL_isTold 1182 = .ok (.iconst 0, 1) := by decide +kernel
theorem dL_isTold_1183 : decode cL_isTold 1183 = .ok (.goto 17, 3) := by decide +kernel
theorem dL_isTold_1186 : decode cL_isTold 1186 = .ok (.iload 16, 2) := by decide +kernel
theorem dL_isTold_1188 : decode cL_isTold 1188 = .ok (.iload 14, 2) := by decide +kernel
theorem dL_isTold_1190 : decode cL_isTold 1190 = .ok (.if_icmp .ge 8, 3) := by decide +kernel
theorem dL_isTold_1193 : decode cL_isTold 1193 = .ok (.iload 16, 2) := by decide +kernel
theorem dL_isTold_1195 : decode cL_isTold 1195 = .ok (.goto 5, 3) := by decide +kernel
theorem dL_isTold_1198 : decode cL_isTold 1198 = .ok (.iload 14, 2) := by decide +kernel
theorem dL_isTold_1200 : decode cL_isTold 1200 = .ok (.istore 17, 2) := by decide +kernel
theorem dL_isTold_1202 : decode cL_isTold 1202 = .ok (.iload 13, 2) := by decide +kernel
theorem dL_isTold_1204 : decode cL_isTold 1204 = .ok (.ifCond .eq 21, 3) := by decide +kernel
theorem dL_isTold_1207 : decode cL_isTold 1207 = .ok (.iload 15, 2) := by decide +kernel
theorem dL_isTold_1209 : decode cL_isTold 1209 = .ok (.ifCond .eq 16, 3) := by decide +kernel
theorem dL_isTold_1212 : decode cL_isTold 1212 = .ok (.aload 6, 2) := by decide +kernel
theorem dL_isTold_1214 : decode cL_isTold 1214 = .ok (.bipush 40, 2) := by decide +kernel
theorem dL_isTold_1216 : decode cL_isTold 1216 = .ok (.iload 12, 2) := by decide +kernel
theorem dL_isTold_1218 : decode cL_isTold 1218 = .ok (.iadd, 1) := by decide +kernel
theorem dL_isTold_1219 : decode cL_isTold 1219 = .ok (.dup2, 1) := by decide +kernel
theorem dL_isTold_1220 : decode cL_isTold 1220 = .ok (.iaload, 1) := by decide +kernel
theorem dL_isTold_1221 : decode cL_isTold 1221 = .ok (.iload 17, 2) := by decide +kernel
theorem dL_isTold_1223 : decode cL_isTold 1223 = .ok (.isub, 1) := by decide +kernel
theorem dL_isTold_1224 : decode cL_isTold 1224 = .ok (.iastore, 1) := by decide +kernel
theorem dL_isTold_1225 : decode cL_isTold 1225 = .ok (.aload_n 0, 1) := by decide +kernel
theorem dL_isTold_1226 : decode cL_isTold 1226 = .ok (.bipush 13, 2) := by decide +kernel
theorem dL_isTold_1228 : decode cL_isTold 1228 = .ok (.iload 12, 2) := by decide +kernel
theorem dL_isTold_1230 : decode cL_isTold 1230 = .ok (.iload 14, 2) := by decide +kernel
theorem dL_isTold_1232 : decode cL_isTold 1232 = .ok (.iconst 0, 1) := by decide +kernel
theorem dL_isTold_1233 : decode cL_isTold 1233 = .ok (.iconst 0, 1) := by decide +kernel
theorem dL_isTold_1234 : decode cL_isTold 1234 = .ok (.iconst 0, 1) := by decide +kernel
theorem dL_isTold_1235 : decode cL_isTold 1235 = .ok (.iconst 0, 1) := by decide +kernel
theorem dL_isTold_1236 : decode cL_isTold 1236 = .ok (.invokestatic 183, 3) := by decide +kernel
theorem dL_isTold_1239 : decode cL_isTold 1239 = .ok (.iload 13, 2) := by decide +kernel
theorem dL_isTold_1241 : decode cL_isTold 1241 = .ok (.ifCond .ne 8, 3) := by decide +kernel
theorem dL_isTold_1244 : decode cL_isTold 1244 = .ok (.ldc 84, 2) := by decide +kernel
theorem dL_isTold_1246 : decode cL_isTold 1246 = .ok (.goto 15, 3) := by decide +kernel
theorem dL_isTold_1249 : decode cL_isTold 1249 = .ok (.iload 15, 2) := by decide +kernel
theorem dL_isTold_1251 : decode cL_isTold 1251 = .ok (.ifCond .eq 8, 3) := by decide +kernel
theorem dL_isTold_1254 : decode cL_isTold 1254 = .ok (.iload 17, 2) := by decide +kernel
theorem dL_isTold_1256 : decode cL_isTold 1256 = .ok (.goto 5, 3) := by decide +kernel
theorem dL_isTold_1259 : decode cL_isTold 1259 = .ok (.ldc 87, 2) := by decide +kernel
theorem dL_isTold_1261 : decode cL_isTold 1261 = .ok (.if_icmp .ne 7, 3) := by decide +kernel
theorem dL_isTold_1264 : decode cL_isTold 1264 = .ok (.iconst 1, 1) := by decide +kernel
theorem dL_isTold_1265 : decode cL_isTold 1265 = .ok (.goto 4, 3) := by decide +kernel
theorem dL_isTold_1268 : decode cL_isTold 1268 = .ok (.iconst 0, 1) := by decide +kernel
theorem dL_isTold_1269 : decode cL_isTold 1269 = .ok (.ireturn, 1) := by decide +kernel
theorem dL_isTold_1270 : decode cL_isTold 1270 = .ok (.iload 9, 2) := by decide +kernel
theorem dL_isTold_1272 : decode cL_isTold 1272 = .ok (.bipush 9, 2) := by decide +kernel
theorem dL_isTold_1274 : decode cL_isTold 1274 = .ok (.if_icmp .ne 251, 3) := by decide +kernel
theorem dL_isTold_1277 : decode cL_isTold 1277 = .ok (.iload 11, 2) := by decide +kernel
theorem dL_isTold_1279 : decode cL_isTold 1279 = .ok (.aload 6, 2) := by decide +kernel
theorem dL_isTold_1281 : decode cL_isTold 1281 = .ok (.iconst 4, 1) := by decide +kernel
theorem dL_isTold_1282 : decode cL_isTold 1282 = .ok (.iaload, 1) := by decide +kernel
theorem dL_isTold_1283 : decode cL_isTold 1283 = .ok (.iconst 1, 1) := by decide +kernel
theorem dL_isTold_1284 : decode cL_isTold 1284 = .ok (.iadd, 1) := by decide +kernel
theorem dL_isTold_1285 : decode cL_isTold 1285 = .ok (.irem, 1) := by decide +kernel
theorem dL_isTold_1286 : decode cL_isTold 1286 = .ok (.istore 15, 2) := by decide +kernel
theorem dL_isTold_1288 : decode cL_isTold 1288 = .ok (.iload 13, 2) := by decide +kernel
theorem dL_isTold_1290 : decode cL_isTold 1290 = .ok (.ifCond .eq 16, 3) := by decide +kernel
theorem dL_isTold_1293 : decode cL_isTold 1293 = .ok (.iload 15, 2) := by decide +kernel
theorem dL_isTold_1295 : decode cL_isTold 1295 = .ok (.aload 6, 2) := by decide +kernel
theorem dL_isTold_1297 : decode cL_isTold 1297 = .ok (.iconst 4, 1) := by decide +kernel
theorem dL_isTold_1298 : decode cL_isTold 1298 = .ok (.iaload, 1) := by decide +kernel
theorem dL_isTold_1299 : decode cL_isTold 1299 = .ok (.if_icmp .ge 7, 3) := by decide +kernel
theorem dL_isTold_1302 : decode cL_isTold 1302 = .ok (.iconst 1, 1) := by decide +kernel
theorem dL_isTold_1303 : decode cL_isTold 1303 = .ok (.goto 4, 3) := by decide +kernel
theorem dL_isTold_1306 : decode cL_isTold 1306 = .ok (.iconst 0, 1) := by decide +kernel
theorem dL_isTold_1307 : decode cL_isTold 1307 = .ok (.istore 16, 2) := by decide +kernel
theorem dL_isTold_1309 : decode cL_isTold 1309 = .ok (.iload 16, 2) := by decide +kernel
theorem dL_isTold_1311 : decode cL_isTold 1311 = .ok (.ifCond .eq 49, 3) := by decide +kernel
theorem dL_isTold_1314 : decode cL_isTold 1314 = .ok (.aload 4, 2) := by decide +kernel
theorem dL_isTold_1316 : decode cL_isTold 1316 = .ok (.iload 15, 2) := by decide +kernel
theorem dL_isTold_1318 : decode cL_isTold 1318 = .ok (.iaload, 1) := by decide +kernel
theorem dL_isTold_1319 : decode cL_isTold 1319 = .ok (.bipush 16, 2) := by decide +kernel
theorem dL_isTold_1321 : decode cL_isTold 1321 = .ok (.irem, 1) := by decide +kernel
theorem dL_isTold_1322 : decode cL_isTold 1322 = .ok (.iload 12, 2) := by decide +kernel
theorem dL_isTold_1324 : decode cL_isTold 1324 = .ok (.iconst 1, 1) := by decide +kernel
theorem dL_isTold_1325 : decode cL_isTold 1325 = .ok (.iadd, 1) := by decide +kernel
theorem dL_isTold_1326 : decode cL_isTold 1326 = .ok (.if_icmp .ne 34, 3) := by decide +kernel
theorem dL_isTold_1329 : decode cL_isTold 1329 = .ok (.aload_n 1, 1) := by decide +kernel
theorem dL_isTold_1330 : decode cL_isTold 1330 = .ok (.iload 15, 2) := by decide +kernel
theorem dL_isTold_1332 : decode cL_isTold 1332 = .ok (.iaload, 1) := by decide +kernel
theorem dL_isTold_1333 : decode cL_isTold 1333 = .ok (.ldc 194, 2) := by decide +kernel
theorem dL_isTold_1335 : decode cL_isTold 1335 = .ok (.idiv, 1) := by decide +kernel
theorem dL_isTold_1336 : decode cL_isTold 1336 = .ok (.ifCond .ne 24, 3) := by decide +kernel
theorem dL_isTold_1339 : decode cL_isTold 1339 = .ok (.aload 6, 2) := by decide +kernel
theorem dL_isTold_1341 : decode cL_isTold 1341 = .ok (.iconst 0, 1) := by decide +kernel
theorem dL_isTold_1342 : decode cL_isTold 1342 = .ok (.iaload, 1) := by decide +kernel
theorem dL_isTold_1343 : decode cL_isTold 1343 = .ok (.aload_n 2, 1) := by decide +kernel
theorem dL_isTold_1344 : decode cL_isTold 1344 = .ok (.iload 15, 2) := by decide +kernel
theorem dL_isTold_1346 : decode cL_isTold 1346 = .ok (.invokestatic 195, 3) := by decide +kernel
theorem dL_isTold_1349 : decode cL_isTold 1349 = .ok (.sipush 240, 3) := by decide +kernel
theorem dL_isTold_1352 : decode cL_isTold 1352 = .ok (.iadd, 1) := by decide +kernel
theorem dL_isTold_1353 : decode cL_isTold 1353 = .ok (.if_icmp .gt 7, 3) := by decide +kernel
theorem dL_isTold_1356 : decode cL_isTold 1356 = .ok (.iconst 1, 1) := by decide +kernel
theorem dL_isTold_1357 : decode cL_isTold 1357 = .ok (.goto 4, 3) := by decide +kernel
theorem dL_isTold_1360 : decode cL_isTold 1360 = .ok (.iconst 0, 1) := by decide +kernel
theorem dL_isTold_1361 : decode cL_isTold 1361 = .ok (.istore 17, 2) := by decide +kernel
