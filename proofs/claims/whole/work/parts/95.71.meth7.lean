theorem dX9_tellFact_0 : decode cX9_tellFact 0 = .ok (.iload_n 1, 1) := by decide +kernel
theorem dX9_tellFact_1 : decode cX9_tellFact 1 = .ok (.invokestatic 207, 3) := by decide +kernel
theorem dX9_tellFact_4 : decode cX9_tellFact 4 = .ok (.ifCond .eq 16, 3) := by decide +kernel
theorem dX9_tellFact_7 : decode cX9_tellFact 7 = .ok (.aload_n 0, 1) := by decide +kernel
theorem dX9_tellFact_8 : decode cX9_tellFact 8 = .ok (.getfield 64, 3) := by decide +kernel
theorem dX9_tellFact_11 : decode cX9_tellFact 11 = .ok (.iconst 0, 1) := by decide +kernel
theorem dX9_tellFact_12 : decode cX9_tellFact 12 = .ok (.iload_n 1, 1) := by decide +kernel
theorem dX9_tellFact_13 : decode cX9_tellFact 13 = .ok (.iload_n 2, 1) := by decide +kernel
theorem dX9_tellFact_14 : decode cX9_tellFact 14 = .ok (.invokevirtual 292, 3) := by decide +kernel
theorem dX9_tellFact_17 : decode cX9_tellFact 17 = .ok (.goto 4, 3) := by decide +kernel
theorem dX9_tellFact_20 : decode cX9_tellFact 20 = .ok (.iconst (-1), 1) := by decide +kernel
theorem dX9_tellFact_21 : decode cX9_tellFact 21 = .ok (.ireturn, 1) := by decide +kernel
theorem dX10_init_0 : decode cX10_init 0 = .ok (.aload_n 0, 1) := by decide +kernel
theorem dX10_init_1 : decode cX10_init 1 = .ok (.invokespecial 7, 3) := by decide +kernel
theorem dX10_init_4 : decode cX10_init 4 = .ok (.aload_n 0, 1) := by decide +kernel
theorem dX10_init_5 : decode cX10_init 5 = .ok (.sipush 2000, 3) := by decide +kernel
theorem dX10_init_8 : decode cX10_init 8 = .ok (.newarray .byte, 2) := by decide +kernel
theorem dX10_init_10 : decode cX10_init 10 = .ok (.putfield 13, 3) := by decide +kernel
theorem dX10_init_13 : decode cX10_init 13 = .ok (.aload_n 0, 1) := by decide +kernel
theorem dX10_init_14 : decode cX10_init 14 = .ok (.sipush 2000, 3) := by decide +kernel
theorem dX10_init_17 : decode cX10_init 17 = .ok (.newarray .byte, 2) := by decide +kernel
theorem dX10_init_19 : decode cX10_init 19 = .ok (.putfield 17, 3) := by decide +kernel
theorem dX10_init_22 : decode cX10_init 22 = .ok (.aload_n 0, 1) := by decide +kernel
theorem dX10_init_23 : decode cX10_init 23 = .ok (.sipush 403, 3) := by decide +kernel
theorem dX10_init_26 : decode cX10_init 26 = .ok (.newarray .int, 2) := by decide +kernel
theorem dX10_init_28 : decode cX10_init 28 = .ok (.putfield 20, 3) := by decide +kernel
theorem dX10_init_31 : decode cX10_init 31 = .ok (.aload_n 0, 1) := by decide +kernel
theorem dX10_init_32 : decode cX10_init 32 = .ok (.sipush 403, 3) := by decide +kernel
theorem dX10_init_35 : decode cX10_init 35 = .ok (.newarray .int, 2) := by decide +kernel
theorem dX10_init_37 : decode cX10_init 37 = .ok (.putfield 24, 3) := by decide +kernel
theorem dX10_init_40 : decode cX10_init 40 = .ok (.aload_n 0, 1) := by decide +kernel
theorem dX10_init_41 : decode cX10_init 41 = .ok (.sipush 403, 3) := by decide +kernel
theorem dX10_init_44 : decode cX10_init 44 = .ok (.newarray .int, 2) := by decide +kernel
theorem dX10_init_46 : decode cX10_init 46 = .ok (.putfield 27, 3) := by decide +kernel
theorem dX10_init_49 : decode cX10_init 49 = .ok (.aload_n 0, 1) := by decide +kernel
theorem dX10_init_50 : decode cX10_init 50 = .ok (.sipush 403, 3) := by decide +kernel
theorem dX10_init_53 : decode cX10_init 53 = .ok (.newarray .long, 2) := by decide +kernel
theorem dX10_init_55 : decode cX10_init 55 = .ok (.putfield 30, 3) := by decide +kernel
theorem dX10_init_58 : decode cX10_init 58 = .ok (.aload_n 0, 1) := by decide +kernel
theorem dX10_init_59 : decode cX10_init 59 = .ok (.bipush 22, 2) := by decide +kernel
theorem dX10_init_61 : decode cX10_init 61 = .ok (.newarray .long, 2) := by decide +kernel
theorem dX10_init_63 : decode cX10_init 63 = .ok (.putfield 34, 3) := by decide +kernel
theorem dX10_init_66 : decode cX10_init 66 = .ok (.aload_n 0, 1) := by decide +kernel
theorem dX10_init_67 : decode cX10_init 67 = .ok (.iconst (-1), 1) := by decide +kernel
theorem dX10_init_68 : decode cX10_init 68 = .ok (.putfield 37, 3) := by decide +kernel
theorem dX10_init_71 : decode cX10_init 71 = .ok (.aload_n 0, 1) := by decide +kernel
theorem dX10_init_72 : decode cX10_init 72 = .ok (.bipush 12, 2) := by decide +kernel
theorem dX10_init_74 : decode cX10_init 74 = .ok (.newarray .long, 2) := by decide +kernel
theorem dX10_init_76 : decode cX10_init 76 = .ok (.putfield 40, 3) := by decide +kernel
theorem dX10_init_79 : decode cX10_init 79 = .ok (.aload_n 0, 1) := by decide +kernel
theorem dX10_init_80 : decode cX10_init 80 = .ok (.bipush 12, 2) := by decide +kernel
theorem dX10_init_82 : decode cX10_init 82 = .ok (.newarray .int, 2) := by decide +kernel
theorem dX10_init_84 : decode cX10_init 84 = .ok (.putfield 43, 3) := by decide +kernel
theorem dX10_init_87 : decode cX10_init 87 = .ok (.aload_n 0, 1) := by decide +kernel
theorem dX10_init_88 : decode cX10_init 88 = .ok (.iconst 2, 1) := by decide +kernel
theorem dX10_init_89 : decode cX10_init 89 = .ok (.newarray .int, 2) := by decide +kernel
theorem dX10_init_91 : decode cX10_init 91 = .ok (.putfield 46, 3) := by decide +kernel
theorem dX10_init_94 : decode cX10_init 94 = .ok (.aload_n 0, 1) := by decide +kernel
theorem dX10_init_95 : decode cX10_init 95 = .ok (.bipush 12, 2) := by decide +kernel
theorem dX10_init_97 : decode cX10_init 97 = .ok (.newarray .int, 2) := by decide +kernel
theorem dX10_init_99 : decode cX10_init 99 = .ok (.putfield 49, 3) := by decide +kernel
theorem dX10_init_102 : decode cX10_init 102 = .ok (.aload_n 0, 1) := by decide +kernel
theorem dX10_init_103 : decode cX10_init 103 = .ok (.bipush 12, 2) := by decide +kernel
theorem dX10_init_105 : decode cX10_init 105 = .ok (.newarray .int, 2) := by decide +kernel
theorem dX10_init_107 : decode cX10_init 107 = .ok (.putfield 52, 3) := by decide +kernel
theorem dX10_init_110 : decode cX10_init 110 = .ok (.aload_n 0, 1) := by decide +kernel
theorem dX10_init_111 : decode cX10_init 111 = .ok (.iconst 2, 1) := by decide +kernel
theorem dX10_init_112 : decode cX10_init 112 = .ok (.newarray .int, 2) := by decide +kernel
theorem dX10_init_114 : decode cX10_init 114 = .ok (.putfield 55, 3) := by decide +kernel
theorem dX10_init_117 : decode cX10_init 117 = .ok (.aload_n 0, 1) := by decide +kernel
theorem dX10_init_118 : decode cX10_init 118 = .ok (.bipush 12, 2) := by decide +kernel
theorem dX10_init_120 : decode cX10_init 120 = .ok (.newarray .int, 2) := by decide +kernel
theorem dX10_init_122 : decode cX10_init 122 = .ok (.putfield 58, 3) := by decide +kernel
theorem dX10_init_125 : decode cX10_init 125 = .ok (.aload_n 0, 1) := by decide +kernel
theorem dX10_init_126 : decode cX10_init 126 = .ok (.bipush 12, 2) := by decide +kernel
theorem dX10_init_128 : decode cX10_init 128 = .ok (.newarray .int, 2) := by decide +kernel
theorem dX10_init_130 : decode cX10_init 130 = .ok (.putfield 61, 3) := by decide +kernel
theorem dX10_init_133 : decode cX10_init 133 = .ok (.aload_n 0, 1) := by decide +kernel
theorem dX10_init_134 : decode cX10_init 134 = .ok (.bipush 12, 2) := by decide +kernel
theorem dX10_init_136 : decode cX10_init 136 = .ok (.newarray .int, 2) := by decide +kernel
theorem dX10_init_138 : decode cX10_init 138 = .ok (.putfield 64, 3) := by decide +kernel
theorem dX10_init_141 : decode cX10_init 141 = .ok (.aload_n 0, 1) := by decide +kernel
theorem dX10_init_142 : decode cX10_init 142 = .ok (.bipush 12, 2) := by decide +kernel
theorem dX10_init_144 : decode cX10_init 144 = .ok (.newarray .int, 2) := by decide +kernel
theorem dX10_init_146 : decode cX10_init 146 = .ok (.putfield 67, 3) := by decide +kernel
theorem dX10_init_149 : decode cX10_init 149 = .ok (.aload_n 0, 1) := by decide +kernel
theorem dX10_init_150 : decode cX10_init 150 = .ok (.iconst 2, 1) := by decide +kernel
theorem dX10_init_151 : decode cX10_init 151 = .ok (.newarray .int, 2) := by decide +kernel
theorem dX10_init_153 : decode cX10_init 153 = .ok (.putfield 70, 3) := by decide +kernel
theorem dX10_init_156 : decode cX10_init 156 = .ok (.aload_n 0, 1) := by decide +kernel
theorem dX10_init_157 : decode cX10_init 157 = .ok (.iconst 2, 1) := by decide +kernel
theorem dX10_init_158 : decode cX10_init 158 = .ok (.newarray .int, 2) := by decide +kernel
theorem dX10_init_160 : decode cX10_init 160 = .ok (.putfield 73, 3) := by decide +kernel
theorem dX10_init_163 : decode cX10_init 163 = .ok (.aload_n 0, 1) := by decide +kernel
theorem dX10_init_164 : decode cX10_init 164 = .ok (.iconst 2, 1) := by decide +kernel
theorem dX10_init_165 : decode cX10_init 165 = .ok (.newarray .int, 2) := by decide +kernel
theorem dX10_init_167 : decode cX10_init 167 = .ok (.putfield 76, 3) := by decide +kernel
theorem dX10_init_170 : decode cX10_init 170 = .ok (.aload_n 0, 1) := by decide +kernel
theorem dX10_init_171 : decode cX10_init 171 = .ok (.iconst 2, 1) := by decide +kernel
theorem dX10_init_172 : decode cX10_init 172 = .ok (.newarray .int, 2) := by decide +kernel
theorem dX10_init_174 : decode cX10_init 174 = .ok (.putfield 79, 3) := by decide +kernel
theorem dX10_init_177 : decode cX10_init 177 = .ok (.aload_n 0, 1) := by decide +kernel
theorem dX10_init_178 : decode cX10_init 178 = .ok (.bipush 8, 2) := by decide +kernel
theorem dX10_init_180 : decode cX10_init 180 = .ok (.newarray .int, 2) := by decide +kernel
theorem dX10_init_182 : decode cX10_init 182 = .ok (.putfield 82, 3) := by decide +kernel
theorem dX10_init_185 : decode cX10_init 185 = .ok (.aload_n 0, 1) := by decide +kernel
theorem dX10_init_186 : decode cX10_init 186 = .ok (.bipush 8, 2) := by decide +kernel
theorem dX10_init_188 : decode cX10_init 188 = .ok (.newarray .int, 2) := by decide +kernel
theorem dX10_init_190 : decode cX10_init 190 = .ok (.putfield 85, 3) := by decide +kernel
theorem dX10_init_193 : decode cX10_init 193 = .ok (.aload_n 0, 1) := by decide +kernel
theorem dX10_init_194 : decode cX10_init 194 = .ok (.sipush 260, 3) := by decide +kernel
theorem dX10_init_197 : decode cX10_init 197 = .ok (.newarray .boolean, 2) := by decide +kernel
theorem dX10_init_199 : decode cX10_init 199 = .ok (.putfield 88, 3) := by decide +kernel
theorem dX10_init_202 : decode cX10_init 202 = .ok (.aload_n 0, 1) := by decide +kernel
theorem dX10_init_203 : decode cX10_init 203 = .ok (.sipush 260, 3) := by decide +kernel
theorem dX10_init_206 : decode cX10_init 206 = .ok (.newarray .int, 2) := by decide +kernel
theorem dX10_init_208 : decode cX10_init 208 = .ok (.putfield 92, 3) := by decide +kernel
theorem dX10_init_211 : decode cX10_init 211 = .ok (.aload_n 0, 1) := by decide +kernel
theorem dX10_init_212 : decode cX10_init 212 = .ok (.sipush 260, 3) := by decide +kernel
theorem dX10_init_215 : decode cX10_init 215 = .ok (.newarray .int, 2) := by decide +kernel
theorem dX10_init_217 : decode cX10_init 217 = .ok (.putfield 95, 3) := by decide +kernel
theorem dX10_init_220 : decode cX10_init 220 = .ok (.aload_n 0, 1) := by decide +kernel
theorem dX10_init_221 : decode cX10_init 221 = .ok (.sipush 260, 3) := by decide +kernel
theorem dX10_init_224 : decode cX10_init 224 = .ok (.newarray .int, 2) := by decide +kernel
theorem dX10_init_226 : decode cX10_init 226 = .ok (.putfield 98, 3) := by decide +kernel
theorem dX10_init_229 : decode cX10_init 229 = .ok (.aload_n 0, 1) := by decide +kernel
theorem dX10_init_230 : decode cX10_init 230 = .ok (.sipush 260, 3) := by decide +kernel
theorem dX10_init_233 : decode cX10_init 233 = .ok (.newarray .int, 2) := by decide +kernel
theorem dX10_init_235 : decode cX10_init 235 = .ok (.putfield 101, 3) := by decide +kernel
theorem dX10_init_238 : decode cX10_init 238 = .ok (.aload_n 0, 1) := by decide +kernel
theorem dX10_init_239 : decode cX10_init 239 = .ok (.sipush 840, 3) := by decide +kernel
theorem dX10_init_242 : decode cX10_init 242 = .ok (.newarray .int, 2) := by decide +kernel
theorem dX10_init_244 : decode cX10_init 244 = .ok (.putfield 104, 3) := by decide +kernel
theorem dX10_init_247 : decode cX10_init 247 = .ok (.aload_n 0, 1) := by decide +kernel
theorem dX10_init_248 : decode cX10_init 248 = .ok (.sipush 840, 3) := by decide +kernel
theorem dX10_init_251 : decode cX10_init 251 = .ok (.newarray .int, 2) := by decide +kernel
theorem dX10_init_253 : decode cX10_init 253 = .ok (.putfield 107, 3) := by decide +kernel
theorem dX10_init_256 : decode cX10_init 256 = .ok (.aload_n 0, 1) := by decide +kernel
theorem dX10_init_257 : decode cX10_init 257 = .ok (.bipush 64, 2) := by decide +kernel
theorem dX10_init_259 : decode cX10_init 259 = .ok (.newarray .int, 2) := by decide +kernel
theorem dX10_init_261 : decode cX10_init 261 = .ok (.putfield 110, 3) := by decide +kernel
theorem dX10_init_264 : decode cX10_init 264 = .ok (.aload_n 0, 1) := by decide +kernel
theorem dX10_init_265 : decode cX10_init 265 = .ok (.bipush 9, 2) := by decide +kernel
theorem dX10_init_267 : decode cX10_init 267 = .ok (.newarray .int, 2) := by decide +kernel
theorem dX10_init_269 : decode cX10_init 269 = .ok (.putfield 113, 3) := by decide +kernel
theorem dX10_init_272 : decode cX10_init 272 = .ok (.aload_n 0, 1) := by decide +kernel
theorem dX10_init_273 : decode cX10_init 273 = .ok (.sipush 400, 3) := by decide +kernel
theorem dX10_init_276 : decode cX10_init 276 = .ok (.newarray .int, 2) := by decide +kernel
theorem dX10_init_278 : decode cX10_init 278 = .ok (.putfield 116, 3) := by decide +kernel
theorem dX10_init_281 : decode cX10_init 281 = .ok (.aload_n 0, 1) := by decide +kernel
theorem dX10_init_282 : decode cX10_init 282 = .ok (.bipush 33, 2) := by decide +kernel
theorem dX10_init_284 : decode cX10_init 284 = .ok (.newarray .int, 2) := by decide +kernel
theorem dX10_init_286 : decode cX10_init 286 = .ok (.putfield 119, 3) := by decide +kernel
theorem dX10_init_289 : decode cX10_init 289 = .ok (.aload_n 0, 1) := by decide +kernel
theorem dX10_init_290 : decode cX10_init 290 = .ok (.bipush 33, 2) := by decide +kernel
theorem dX10_init_292 : decode cX10_init 292 = .ok (.newarray .int, 2) := by decide +kernel
theorem dX10_init_294 : decode cX10_init 294 = .ok (.putfield 122, 3) := by decide +kernel
theorem dX10_init_297 : decode cX10_init 297 = .ok (.aload_n 0, 1) := by decide +kernel
theorem dX10_init_298 : decode cX10_init 298 = .ok (.bipush 6, 2) := by decide +kernel
theorem dX10_init_300 : decode cX10_init 300 = .ok (.newarray .boolean, 2) := by decide +kernel
theorem dX10_init_302 : decode cX10_init 302 = .ok (.putfield 125, 3) := by decide +kernel
theorem dX10_init_305 : decode cX10_init 305 = .ok (.aload_n 0, 1) := by decide +kernel
theorem dX10_init_306 : decode cX10_init 306 = .ok (.bipush 6, 2) := by decide +kernel
theorem dX10_init_308 : decode cX10_init 308 = .ok (.newarray .int, 2) := by decide +kernel
theorem dX10_init_310 : decode cX10_init 310 = .ok (.putfield 128, 3) := by decide +kernel
theorem dX10_init_313 : decode cX10_init 313 = .ok (.aload_n 0, 1) := by decide +kernel
theorem dX10_init_314 : decode cX10_init 314 = .ok (.sipush 1320, 3) := by decide +kernel
theorem dX10_init_317 : decode cX10_init 317 = .ok (.newarray .int, 2) := by decide +kernel
theorem dX10_init_319 : decode cX10_init 319 = .ok (.putfield 131, 3) := by decide +kernel
theorem dX10_init_322 : decode cX10_init 322 = .ok (.aload_n 0, 1) := by decide +kernel
theorem dX10_init_323 : decode cX10_init 323 = .ok (.bipush 6, 2) := by decide +kernel
theorem dX10_init_325 : decode cX10_init 325 = .ok (.newarray .int, 2) := by decide +kernel
theorem dX10_init_327 : decode cX10_init 327 = .ok (.putfield 134, 3) := by decide +kernel
theorem dX10_init_330 : decode cX10_init 330 = .ok (.aload_n 0, 1) := by decide +kernel
theorem dX10_init_331 : decode cX10_init 331 = .ok (.bipush 20, 2) := by decide +kernel
theorem dX10_init_333 : decode cX10_init 333 = .ok (.newarray .int, 2) := by decide +kernel
theorem dX10_init_335 : decode cX10_init 335 = .ok (.putfield 137, 3) := by decide +kernel
theorem dX10_init_338 : decode cX10_init 338 = .ok (.aload_n 0, 1) := by decide +kernel
theorem dX10_init_339 : decode cX10_init 339 = .ok (.bipush 20, 2) := by decide +kernel
theorem dX10_init_341 : decode cX10_init 341 = .ok (.newarray .int, 2) := by decide +kernel
theorem dX10_init_343 : decode cX10_init 343 = .ok (.putfield 140, 3) := by decide +kernel
theorem dX10_init_346 : decode cX10_init 346 = .ok (.aload_n 0, 1) := by decide +kernel
theorem dX10_init_347 : decode cX10_init 347 = .ok (.iconst 3, 1) := by decide +kernel
theorem dX10_init_348 : decode cX10_init 348 = .ok (.newarray .boolean, 2) := by decide +kernel
theorem dX10_init_350 : decode cX10_init 350 = .ok (.putfield 143, 3) := by decide +kernel
theorem dX10_init_353 : decode cX10_init 353 = .ok (.aload_n 0, 1) := by decide +kernel
theorem dX10_init_354 : decode cX10_init 354 = .ok (.bipush 99, 2) := by decide +kernel
theorem dX10_init_356 : decode cX10_init 356 = .ok (.newarray .int, 2) := by decide +kernel
theorem dX10_init_358 : decode cX10_init 358 = .ok (.putfield 146, 3) := by decide +kernel
theorem dX10_init_361 : decode cX10_init 361 = .ok (.aload_n 0, 1) := by decide +kernel
theorem dX10_init_362 : decode cX10_init 362 = .ok (.iconst 0, 1) := by decide +kernel
theorem dX10_init_363 : decode cX10_init 363 = .ok (.invokevirtual 149, 3) := by decide +kernel
theorem dX10_init_366 : decode cX10_init 366 = .ok (.aload_n 0, 1) := by decide +kernel
theorem dX10_init_367 : decode cX10_init 367 = .ok (.iconst 1, 1) := by decide +kernel
theorem dX10_init_368 : decode cX10_init 368 = .ok (.invokevirtual 149, 3) := by decide +kernel
theorem dX10_init_371 : decode cX10_init 371 = .ok (.aload_n 0, 1) := by decide +kernel
theorem dX10_init_372 : decode cX10_init 372 = .ok (.getfield 34, 3) := by decide +kernel
theorem dX10_init_375 : decode cX10_init 375 = .ok (.iconst 0, 1) := by decide +kernel
theorem dX10_init_376 : decode cX10_init 376 = .ok (.bipush 114, 2) := by decide +kernel
theorem dX10_init_378 : decode cX10_init 378 = .ok (.bipush 111, 2) := by decide +kernel
theorem dX10_init_380 : decode cX10_init 380 = .ok (.bipush 108, 2) := by decide +kernel
theorem dX10_init_382 : decode cX10_init 382 = .ok (.bipush 101, 2) := by decide +kernel
theorem dX10_init_384 : decode cX10_init 384 = .ok (.iconst 0, 1) := by decide +kernel
theorem dX10_init_385 : decode cX10_init 385 = .ok (.iconst 0, 1) := by decide +kernel
theorem dX10_init_386 : decode cX10_init 386 = .ok (.iconst 0, 1) := by decide +kernel
theorem dX10_init_387 : decode cX10_init 387 = .ok (.invokestatic 153, 3) := by decide +kernel
theorem dX10_init_390 : decode cX10_init 390 = .ok (.lastore, 1) := by decide +kernel
theorem dX10_init_391 : decode cX10_init 391 = .ok (.aload_n 0, 1) := by decide +kernel
theorem dX10_init_392 : decode cX10_init 392 = .ok (.getfield 34, 3) := by decide +kernel
theorem dX10_init_395 : decode cX10_init 395 = .ok (.iconst 1, 1) := by decide +kernel
theorem dX10_init_396 : decode cX10_init 396 = .ok (.bipush 108, 2) := by decide +kernel
theorem dX10_init_398 : decode cX10_init 398 = .ok (.bipush 105, 2) := by decide +kernel
theorem dX10_init_400 : decode cX10_init 400 = .ok (.bipush 115, 2) := by decide +kernel
theorem dX10_init_402 : decode cX10_init 402 = .ok (.bipush 116, 2) := by decide +kernel
theorem dX10_init_404 : decode cX10_init 404 = .ok (.bipush 101, 2) := by decide +kernel
theorem dX10_init_406 : decode cX10_init 406 = .ok (.bipush 110, 2) := by decide +kernel
theorem dX10_init_408 : decode cX10_init 408 = .ok (.bipush 101, 2) := by decide +kernel
theorem dX10_init_410 : decode cX10_init 410 = .ok (.invokestatic 153, 3) := by decide +kernel
theorem dX10_init_413 : decode cX10_init 413 = .ok (.bipush 114, 2) := by decide +kernel
theorem dX10_init_415 : decode cX10_init 415 = .ok (.invokestatic 157, 3) := by decide +kernel
theorem dX10_init_418 : decode cX10_init 418 = .ok (.lastore, 1) := by decide +kernel
theorem dX10_init_419 : decode cX10_init 419 = .ok (.aload_n 0, 1) := by decide +kernel
theorem dX10_init_420 : decode cX10_init 420 = .ok (.getfield 34, 3) := by decide +kernel
theorem dX10_init_423 : decode cX10_init 423 = .ok (.iconst 2, 1) := by decide +kernel
theorem dX10_init_424 : decode cX10_init 424 = .ok (.bipush 114, 2) := by decide +kernel
theorem dX10_init_426 : decode cX10_init 426 = .ok (.bipush 101, 2) := by decide +kernel
theorem dX10_init_428 : decode cX10_init 428 = .ok (.bipush 97, 2) := by decide +kernel
theorem dX10_init_430 : decode cX10_init 430 = .ok (.bipush 108, 2) := by decide +kernel
theorem dX10_init_432 : decode cX10_init 432 = .ok (.bipush 108, 2) := by decide +kernel
theorem dX10_init_434 : decode cX10_init 434 = .ok (.bipush 121, 2) := by decide +kernel
theorem dX10_init_436 : decode cX10_init 436 = .ok (.iconst 0, 1) := by decide +kernel
theorem dX10_init_437 : decode cX10_init 437 = .ok (.invokestatic 153, 3) := by decide +kernel
theorem dX10_init_440 : decode cX10_init 440 = .ok (.lastore, 1) := by decide +kernel
theorem dX10_init_441 : decode cX10_init 441 = .ok (.aload_n 0, 1) := by decide +kernel
theorem dX10_init_442 : decode cX10_init 442 = .ok (.getfield 34, 3) := by decide +kernel
theorem dX10_init_445 : decode cX10_init 445 = .ok (.iconst 3, 1) := by decide +kernel
theorem dX10_init_446 : decode cX10_init 446 = .ok (.bipush 115, 2) := by decide +kernel
theorem dX10_init_448 : decode cX10_init 448 = .ok (.bipush 97, 2) := by decide +kernel
theorem dX10_init_450 : decode cX10_init 450 = .ok (.bipush 121, 2) := by decide +kernel
theorem dX10_init_452 : decode cX10_init 452 = .ok (.bipush 115, 2) := by decide +kernel
theorem dX10_init_454 : decode cX10_init 454 = .ok (.iconst 0, 1) := by decide +kernel
theorem dX10_init_455 : decode cX10_init 455 = .ok (.iconst 0, 1) := by decide +kernel
theorem dX10_init_456 : decode cX10_init 456 = .ok (.iconst 0, 1) := by decide +kernel
theorem dX10_init_457 : decode cX10_init 457 = .ok (.invokestatic 153, 3) := by decide +kernel
theorem dX10_init_460 : decode cX10_init 460 = .ok (.lastore, 1) := by decide +kernel
theorem dX10_init_461 : decode cX10_init 461 = .ok (.aload_n 0, 1) := by decide +kernel
theorem dX10_init_462 : decode cX10_init 462 = .ok (.getfield 34, 3) := by decide +kernel
theorem dX10_init_465 : decode cX10_init 465 = .ok (.iconst 4, 1) := by decide +kernel
theorem dX10_init_466 : decode cX10_init 466 = .ok (.bipush 116, 2) := by decide +kernel
theorem dX10_init_468 : decode cX10_init 468 = .ok (.bipush 114, 2) := by decide +kernel
theorem dX10_init_470 : decode cX10_init 470 = .ok (.bipush 117, 2) := by decide +kernel
theorem dX10_init_472 : decode cX10_init 472 = .ok (.bipush 115, 2) := by decide +kernel
theorem dX10_init_474 : decode cX10_init 474 = .ok (.bipush 116, 2) := by decide +kernel
theorem dX10_init_476 : decode cX10_init 476 = .ok (.bipush 115, 2) := by decide +kernel
theorem dX10_init_478 : decode cX10_init 478 = .ok (.iconst 0, 1) := by decide +kernel
theorem dX10_init_479 : decode cX10_init 479 = .ok (.invokestatic 153, 3) := by decide +kernel
theorem dX10_init_482 : decode cX10_init 482 = .ok (.lastore, 1) := by decide +kernel
theorem dX10_init_483 : decode cX10_init 483 = .ok (.aload_n 0, 1) := by decide +kernel
theorem dX10_init_484 : decode cX10_init 484 = .ok (.getfield 34, 3) := by decide +kernel
theorem dX10_init_487 : decode cX10_init 487 = .ok (.iconst 5, 1) := by decide +kernel
theorem dX10_init_488 : decode cX10_init 488 = .ok (.bipush 109, 2) := by decide +kernel
theorem dX10_init_490 : decode cX10_init 490 = .ok (.bipush 111, 2) := by decide +kernel
theorem dX10_init_492 : decode cX10_init 492 = .ok (.bipush 118, 2) := by decide +kernel
theorem dX10_init_494 : decode cX10_init 494 = .ok (.bipush 101, 2) := by decide +kernel
theorem dX10_init_496 : decode cX10_init 496 = .ok (.bipush 115, 2) := by decide +kernel
theorem dX10_init_498 : decode cX10_init 498 = .ok (.iconst 0, 1) := by decide +kernel
theorem dX10_init_499 : decode cX10_init 499 = .ok (.iconst 0, 1) := by decide +kernel
theorem dX10_init_500 : decode cX10_init 500 = .ok (.invokestatic 153, 3) := by decide +kernel
theorem dX10_init_503 : decode cX10_init 503 = .ok (.lastore, 1) := by decide +kernel
theorem dX10_init_504 : decode cX10_init 504 = .ok (.aload_n 0, 1) := by decide +kernel
theorem dX10_init_505 : decode cX10_init 505 = .ok (.getfield 34, 3) := by decide +kernel
theorem dX10_init_508 : decode cX10_init 508 = .ok (.bipush 6, 2) := by decide +kernel
theorem dX10_init_510 : decode cX10_init 510 = .ok (.bipush 114, 2) := by decide +kernel
theorem dX10_init_512 : decode cX10_init 512 = .ok (.bipush 105, 2) := by decide +kernel
theorem dX10_init_514 : decode cX10_init 514 = .ok (.bipush 110, 2) := by decide +kernel
theorem dX10_init_516 : decode cX10_init 516 = .ok (.bipush 103, 2) := by decide +kernel
theorem dX10_init_518 : decode cX10_init 518 = .ok (.bipush 115, 2) := by decide +kernel
theorem dX10_init_520 : decode cX10_init 520 = .ok (.iconst 0, 1) := by decide +kernel
theorem dX10_init_521 : decode cX10_init 521 = .ok (.iconst 0, 1) := by decide +kernel
theorem dX10_init_522 : decode cX10_init 522 = .ok (.invokestatic 153, 3) := by decide +kernel
theorem dX10_init_525 : decode cX10_init 525 = .ok (.lastore, 1) := by decide +kernel
theorem dX10_init_526 : decode cX10_init 526 = .ok (.aload_n 0, 1) := by decide +kernel
theorem dX10_init_527 : decode cX10_init 527 = .ok (.getfield 34, 3) := by decide +kernel
theorem dX10_init_530 : decode cX10_init 530 = .ok (.bipush 7, 2) := by decide +kernel
theorem dX10_init_532 : decode cX10_init 532 = .ok (.bipush 99, 2) := by decide +kernel
theorem dX10_init_534 : decode cX10_init 534 = .ok (.bipush 114, 2) := by decide +kernel
theorem dX10_init_536 : decode cX10_init 536 = .ok (.bipush 97, 2) := by decide +kernel
theorem dX10_init_538 : decode cX10_init 538 = .ok (.bipush 99, 2) := by decide +kernel
theorem dX10_init_540 : decode cX10_init 540 = .ok (.bipush 107, 2) := by decide +kernel
theorem dX10_init_542 : decode cX10_init 542 = .ok (.bipush 108, 2) := by decide +kernel
theorem dX10_init_544 : decode cX10_init 544 = .ok (.bipush 101, 2) := by decide +kernel
theorem dX10_init_546 : decode cX10_init 546 = .ok (.invokestatic 153, 3) := by decide +kernel
theorem dX10_init_549 : decode cX10_init 549 = .ok (.lastore, 1) := by decide +kernel
theorem dX10_init_550 : decode cX10_init 550 = .ok (.aload_n 0, 1) := by decide +kernel
theorem dX10_init_551 : decode cX10_init 551 = .ok (.getfield 34, 3) := by decide +kernel
theorem dX10_init_554 : decode cX10_init 554 = .ok (.bipush 8, 2) := by decide +kernel
theorem dX10_init_556 : decode cX10_init 556 = .ok (.bipush 113, 2) := by decide +kernel
theorem dX10_init_558 : decode cX10_init 558 = .ok (.bipush 117, 2) := by decide +kernel
theorem dX10_init_560 : decode cX10_init 560 = .ok (.bipush 105, 2) := by decide +kernel
theorem dX10_init_562 : decode cX10_init 562 = .ok (.bipush 101, 2) := by decide +kernel
theorem dX10_init_564 : decode cX10_init 564 = .ok (.bipush 116, 2) := by decide +kernel
theorem dX10_init_566 : decode cX10_init 566 = .ok (.iconst 0, 1) := by decide +kernel
theorem dX10_init_567 : decode cX10_init 567 = .ok (.iconst 0, 1) := by decide +kernel
theorem dX10_init_568 : decode cX10_init 568 = .ok (.invokestatic 153, 3) := by decide +kernel
theorem dX10_init_571 : decode cX10_init 571 = .ok (.lastore, 1) := by decide +kernel
theorem dX10_init_572 : decode cX10_init 572 = .ok (.aload_n 0, 1) := by decide +kernel
theorem dX10_init_573 : decode cX10_init 573 = .ok (.getfield 34, 3) := by decide +kernel
theorem dX10_init_576 : decode cX10_init 576 = .ok (.bipush 9, 2) := by decide +kernel
theorem dX10_init_578 : decode cX10_init 578 = .ok (.bipush 115, 2) := by decide +kernel
theorem dX10_init_580 : decode cX10_init 580 = .ok (.bipush 101, 2) := by decide +kernel
theorem dX10_init_582 : decode cX10_init 582 = .ok (.bipush 101, 2) := by decide +kernel
theorem dX10_init_584 : decode cX10_init 584 = .ok (.bipush 100, 2) := by decide +kernel
theorem dX10_init_586 : decode cX10_init 586 = .ok (.iconst 0, 1) := by decide +kernel
theorem dX10_init_587 : decode cX10_init 587 = .ok (.iconst 0, 1) := by decide +kernel
theorem dX10_init_588 : decode cX10_init 588 = .ok (.iconst 0, 1) := by decide +kernel
theorem dX10_init_589 : decode cX10_init 589 = .ok (.invokestatic 153, 3) := by decide +kernel
theorem dX10_init_592 : decode cX10_init 592 = .ok (.lastore, 1) := by decide +kernel
theorem dX10_init_593 : decode cX10_init 593 = .ok (.aload_n 0, 1) := by decide +kernel
theorem dX10_init_594 : decode cX10_init 594 = .ok (.getfield 34, 3) := by decide +kernel
theorem dX10_init_597 : decode cX10_init 597 = .ok (.bipush 10, 2) := by decide +kernel
theorem dX10_init_599 : decode cX10_init 599 = .ok (.bipush 105, 2) := by decide +kernel
theorem dX10_init_601 : decode cX10_init 601 = .ok (.bipush 102, 2) := by decide +kernel
theorem dX10_init_603 : decode cX10_init 603 = .ok (.iconst 0, 1) := by decide +kernel
theorem dX10_init_604 : decode cX10_init 604 = .ok (.iconst 0, 1) := by decide +kernel
theorem dX10_init_605 : decode cX10_init 605 = .ok (.iconst 0, 1) := by decide +kernel
theorem dX10_init_606 : decode cX10_init 606 = .ok (.iconst 0, 1) := by decide +kernel
theorem dX10_init_607 : decode cX10_init 607 = .ok (.iconst 0, 1) := by decide +kernel
theorem dX10_init_608 : decode cX10_init 608 = .ok (.invokestatic 153, 3) := by decide +kernel
theorem dX10_init_611 : decode cX10_init 611 = .ok (.lastore, 1) := by decide +kernel
theorem dX10_init_612 : decode cX10_init 612 = .ok (.aload_n 0, 1) := by decide +kernel
theorem dX10_init_613 : decode cX10_init 613 = .ok (.getfield 34, 3) := by decide +kernel
theorem dX10_init_616 : decode cX10_init 616 = .ok (.bipush 11, 2) := by decide +kernel
theorem dX10_init_618 : decode cX10_init 618 = .ok (.bipush 116, 2) := by decide +kernel
theorem dX10_init_620 : decode cX10_init 620 = .ok (.bipush 104, 2) := by decide +kernel
theorem dX10_init_622 : decode cX10_init 622 = .ok (.bipush 101, 2) := by decide +kernel
theorem dX10_init_624 : decode cX10_init 624 = .ok (.bipush 110, 2) := by decide +kernel
theorem dX10_init_626 : decode cX10_init 626 = .ok (.iconst 0, 1) := by decide +kernel
theorem dX10_init_627 : decode cX10_init 627 = .ok (.iconst 0, 1) := by decide +kernel
theorem dX10_init_628 : decode cX10_init 628 = .ok (.iconst 0, 1) := by decide +kernel
theorem dX10_init_629 : decode cX10_init 629 = .ok (.invokestatic 153, 3) := by decide +kernel
theorem dX10_init_632 : decode cX10_init 632 = .ok (.lastore, 1) := by decide +kernel
theorem dX10_init_633 : decode cX10_init 633 = .ok (.aload_n 0, 1) := by decide +kernel
theorem dX10_init_634 : decode cX10_init 634 = .ok (.getfield 34, 3) := by decide +kernel
theorem dX10_init_637 : decode cX10_init 637 = .ok (.bipush 12, 2) := by decide +kernel
theorem dX10_init_639 : decode cX10_init 639 = .ok (.bipush 101, 2) := by decide +kernel
theorem dX10_init_641 : decode cX10_init 641 = .ok (.bipush 108, 2) := by decide +kernel
theorem dX10_init_643 : decode cX10_init 643 = .ok (.bipush 115, 2) := by decide +kernel
theorem dX10_init_645 : decode cX10_init 645 = .ok (.bipush 101, 2) := by decide +kernel
theorem dX10_init_647 : decode cX10_init 647 = .ok (.iconst 0, 1) := by decide +kernel
theorem dX10_init_648 : decode cX10_init 648 = .ok (.iconst 0, 1) := by decide +kernel
theorem dX10_init_649 : decode cX10_init 649 = .ok (.iconst 0, 1) := by decide +kernel
theorem dX10_init_650 : decode cX10_init 650 = .ok (.invokestatic 153, 3) := by decide +kernel
theorem dX10_init_653 : decode cX10_init 653 = .ok (.lastore, 1) := by decide +kernel
theorem dX10_init_654 : decode cX10_init 654 = .ok (.aload_n 0, 1) := by decide +kernel
theorem dX10_init_655 : decode cX10_init 655 = .ok (.getfield 34, 3) := by decide +kernel
theorem dX10_init_658 : decode cX10_init 658 = .ok (.bipush 13, 2) := by decide +kernel
theorem dX10_init_660 : decode cX10_init 660 = .ok (.bipush 102, 2) := by decide +kernel
theorem dX10_init_662 : decode cX10_init 662 = .ok (.bipush 97, 2) := by decide +kernel
theorem dX10_init_664 : decode cX10_init 664 = .ok (.bipush 109, 2) := by decide +kernel
theorem dX10_init_666 : decode cX10_init 666 = .ok (.bipush 101, 2) := by decide +kernel
theorem dX10_init_668 : decode cX10_init 668 = .ok (.iconst 0, 1) := by decide +kernel
theorem dX10_init_669 : decode cX10_init 669 = .ok (.iconst 0, 1) := by decide +kernel
theorem dX10_init_670 : decode cX10_init 670 = .ok (.iconst 0, 1) := by decide +kernel
theorem dX10_init_671 : decode cX10_init 671 = .ok (.invokestatic 153, 3) := by decide +kernel
theorem dX10_init_674 : decode cX10_init 674 = .ok (.lastore, 1) := by decide +kernel
theorem dX10_init_675 : decode cX10_init 675 = .ok (.aload_n 0, 1) := by decide +kernel
theorem dX10_init_676 : decode cX10_init 676 = .ok (.getfield 34, 3) := by decide +kernel
theorem dX10_init_679 : decode cX10_init 679 = .ok (.bipush 14, 2) := by decide +kernel
theorem dX10_init_681 : decode cX10_init 681 = .ok (.bipush 116, 2) := by decide +kernel
theorem dX10_init_683 : decode cX10_init 683 = .ok (.bipush 105, 2) := by decide +kernel
theorem dX10_init_685 : decode cX10_init 685 = .ok (.bipush 109, 2) := by decide +kernel
theorem dX10_init_687 : decode cX10_init 687 = .ok (.bipush 101, 2) := by decide +kernel
theorem dX10_init_689 : decode cX10_init 689 = .ok (.bipush 115, 2) := by decide +kernel
theorem dX10_init_691 : decode cX10_init 691 = .ok (.iconst 0, 1) := by decide +kernel
theorem dX10_init_692 : decode cX10_init 692 = .ok (.iconst 0, 1) := by decide +kernel
theorem dX10_init_693 : decode cX10_init 693 = .ok (.invokestatic 153, 3) := by decide +kernel
theorem dX10_init_696 : decode cX10_init 696 = .ok (.lastore, 1) := by decide +kernel
theorem dX10_init_697 : decode cX10_init 697 = .ok (.aload_n 0, 1) := by decide +kernel
theorem dX10_init_698 : decode cX10_init 698 = .ok (.getfield 34, 3) := by decide +kernel
theorem dX10_init_701 : decode cX10_init 701 = .ok (.bipush 15, 2) := by decide +kernel
theorem dX10_init_703 : decode cX10_init 703 = .ok (.bipush 102, 2) := by decide +kernel
theorem dX10_init_705 : decode cX10_init 705 = .ok (.bipush 97, 2) := by decide +kernel
theorem dX10_init_707 : decode cX10_init 707 = .ok (.bipush 99, 2) := by decide +kernel
theorem dX10_init_709 : decode cX10_init 709 = .ok (.bipush 116, 2) := by decide +kernel
theorem dX10_init_711 : decode cX10_init 711 = .ok (.iconst 0, 1) := by decide +kernel
theorem dX10_init_712 : decode cX10_init 712 = .ok (.iconst 0, 1) := by decide +kernel
theorem dX10_init_713 : decode cX10_init 713 = .ok (.iconst 0, 1) := by decide +kernel
theorem dX10_init_714 : decode cX10_init 714 = .ok (.invokestatic 153, 3) := by decide +kernel
theorem dX10_init_717 : decode cX10_init 717 = .ok (.lastore, 1) := by decide +kernel
theorem dX10_init_718 : decode cX10_init 718 = .ok (.aload_n 0, 1) := by decide +kernel
theorem dX10_init_719 : decode cX10_init 719 = .ok (.getfield 34, 3) := by decide +kernel
theorem dX10_init_722 : decode cX10_init 722 = .ok (.bipush 16, 2) := by decide +kernel
theorem dX10_init_724 : decode cX10_init 724 = .ok (.bipush 101, 2) := by decide +kernel
theorem dX10_init_726 : decode cX10_init 726 = .ok (.bipush 118, 2) := by decide +kernel
theorem dX10_init_728 : decode cX10_init 728 = .ok (.bipush 101, 2) := by decide +kernel
theorem dX10_init_730 : decode cX10_init 730 = .ok (.bipush 110, 2) := by decide +kernel
theorem dX10_init_732 : decode cX10_init 732 = .ok (.bipush 105, 2) := by decide +kernel
theorem dX10_init_734 : decode cX10_init 734 = .ok (.bipush 110, 2) := by decide +kernel
theorem dX10_init_736 : decode cX10_init 736 = .ok (.bipush 103, 2) := by decide +kernel
theorem dX10_init_738 : decode cX10_init 738 = .ok (.invokestatic 153, 3) := by decide +kernel
theorem dX10_init_741 : decode cX10_init 741 = .ok (.lastore, 1) := by decide +kernel
theorem dX10_init_742 : decode cX10_init 742 = .ok (.aload_n 0, 1) := by decide +kernel
theorem dX10_init_743 : decode cX10_init 743 = .ok (.getfield 34, 3) := by decide +kernel
theorem dX10_init_746 : decode cX10_init 746 = .ok (.bipush 17, 2) := by decide +kernel
theorem dX10_init_748 : decode cX10_init 748 = .ok (.bipush 98, 2) := by decide +kernel
theorem dX10_init_750 : decode cX10_init 750 = .ok (.bipush 101, 2) := by decide +kernel
theorem dX10_init_752 : decode cX10_init 752 = .ok (.bipush 108, 2) := by decide +kernel
theorem dX10_init_754 : decode cX10_init 754 = .ok (.bipush 105, 2) := by decide +kernel
theorem dX10_init_756 : decode cX10_init 756 = .ok (.bipush 101, 2) := by decide +kernel
theorem dX10_init_758 : decode cX10_init 758 = .ok (.bipush 102, 2) := by decide +kernel
theorem dX10_init_760 : decode cX10_init 760 = .ok (.iconst 0, 1) := by decide +kernel
theorem dX10_init_761 : decode cX10_init 761 = .ok (.invokestatic 153, 3) := by decide +kernel
theorem dX10_init_764 : decode cX10_init 764 = .ok (.lastore, 1) := by decide +kernel
theorem dX10_init_765 : decode cX10_init 765 = .ok (.aload_n 0, 1) := by decide +kernel
theorem dX10_init_766 : decode cX10_init 766 = .ok (.getfield 34, 3) := by decide +kernel
theorem dX10_init_769 : decode cX10_init 769 = .ok (.bipush 18, 2) := by decide +kernel
theorem dX10_init_771 : decode cX10_init 771 = .ok (.bipush 107, 2) := by decide +kernel
theorem dX10_init_773 : decode cX10_init 773 = .ok (.bipush 110, 2) := by decide +kernel
theorem dX10_init_775 : decode cX10_init 775 = .ok (.bipush 111, 2) := by decide +kernel
theorem dX10_init_777 : decode cX10_init 777 = .ok (.bipush 119, 2) := by decide +kernel
theorem dX10_init_779 : decode cX10_init 779 = .ok (.bipush 110, 2) := by decide +kernel
theorem dX10_init_781 : decode cX10_init 781 = .ok (.iconst 0, 1) := by decide +kernel
theorem dX10_init_782 : decode cX10_init 782 = .ok (.iconst 0, 1) := by decide +kernel
theorem dX10_init_783 : decode cX10_init 783 = .ok (.invokestatic 153, 3) := by decide +kernel
theorem dX10_init_786 : decode cX10_init 786 = .ok (.lastore, 1) := by decide +kernel
theorem dX10_init_787 : decode cX10_init 787 = .ok (.aload_n 0, 1) := by decide +kernel
theorem dX10_init_788 : decode cX10_init 788 = .ok (.getfield 34, 3) := by decide +kernel
theorem dX10_init_791 : decode cX10_init 791 = .ok (.bipush 19, 2) := by decide +kernel
theorem dX10_init_793 : decode cX10_init 793 = .ok (.bipush 112, 2) := by decide +kernel
theorem dX10_init_795 : decode cX10_init 795 = .ok (.bipush 97, 2) := by decide +kernel
theorem dX10_init_797 : decode cX10_init 797 = .ok (.bipush 114, 2) := by decide +kernel
theorem dX10_init_799 : decode cX10_init 799 = .ok (.bipush 116, 2) := by decide +kernel
theorem dX10_init_801 : decode cX10_init 801 = .ok (.bipush 115, 2) := by decide +kernel
theorem dX10_init_803 : decode cX10_init 803 = .ok (.iconst 0, 1) := by decide +kernel
theorem dX10_init_804 : decode cX10_init 804 = .ok (.iconst 0, 1) := by decide +kernel
theorem dX10_init_805 : decode cX10_init 805 = .ok (.invokestatic 153, 3) := by decide +kernel
theorem dX10_init_808 : decode cX10_init 808 = .ok (.lastore, 1) := by decide +kernel
theorem dX10_init_809 : decode cX10_init 809 = .ok (.aload_n 0, 1) := by decide +kernel
theorem dX10_init_810 : decode cX10_init 810 = .ok (.getfield 34, 3) := by decide +kernel
theorem dX10_init_813 : decode cX10_init 813 = .ok (.bipush 20, 2) := by decide +kernel
theorem dX10_init_815 : decode cX10_init 815 = .ok (.bipush 119, 2) := by decide +kernel
theorem dX10_init_817 : decode cX10_init 817 = .ok (.bipush 104, 2) := by decide +kernel
theorem dX10_init_819 : decode cX10_init 819 = .ok (.bipush 105, 2) := by decide +kernel
theorem dX10_init_821 : decode cX10_init 821 = .ok (.bipush 99, 2) := by decide +kernel
theorem dX10_init_823 : decode cX10_init 823 = .ok (.bipush 104, 2) := by decide +kernel
theorem dX10_init_825 : decode cX10_init 825 = .ok (.iconst 0, 1) := by decide +kernel
theorem dX10_init_826 : decode cX10_init 826 = .ok (.iconst 0, 1) := by decide +kernel
theorem dX10_init_827 : decode cX10_init 827 = .ok (.invokestatic 153, 3) := by decide +kernel
theorem dX10_init_830 : decode cX10_init 830 = .ok (.lastore, 1) := by decide +kernel
theorem dX10_init_831 : decode cX10_init 831 = .ok (.aload_n 0, 1) := by decide +kernel
theorem dX10_init_832 : decode cX10_init 832 = .ok (.getfield 34, 3) := by decide +kernel
theorem dX10_init_835 : decode cX10_init 835 = .ok (.bipush 21, 2) := by decide +kernel
theorem dX10_init_837 : decode cX10_init 837 = .ok (.bipush 115, 2) := by decide +kernel
theorem dX10_init_839 : decode cX10_init 839 = .ok (.bipush 97, 2) := by decide +kernel
theorem dX10_init_841 : decode cX10_init 841 = .ok (.bipush 109, 2) := by decide +kernel
theorem dX10_init_843 : decode cX10_init 843 = .ok (.bipush 101, 2) := by decide +kernel
theorem dX10_init_845 : decode cX10_init 845 = .ok (.iconst 0, 1) := by decide +kernel
theorem dX10_init_846 : decode cX10_init 846 = .ok (.iconst 0, 1) := by decide +kernel
theorem dX10_init_847 : decode cX10_init 847 = .ok (.iconst 0, 1) := by decide +kernel
theorem dX10_init_848 : decode cX10_init 848 = .ok (.invokestatic 153, 3) := by decide +kernel
theorem dX10_init_851 : decode cX10_init 851 = .ok (.lastore, 1) := by decide +kernel
theorem dX10_init_852 : decode cX10_init 852 = .ok (.aload_n 0, 1) := by decide +kernel
theorem dX10_init_853 : decode cX10_init 853 = .ok (.invokevirtual 161, 3) := by decide +kernel
theorem dX10_init_856 : decode cX10_init 856 = .ok (.aload_n 0, 1) := by decide +kernel
theorem dX10_init_857 : decode cX10_init 857 = .ok (.invokevirtual 164, 3) := by decide +kernel
theorem dX10_init_860 : decode cX10_init 860 = .ok (.return_, 1) := by decide +kernel
theorem dX10_feed_0 : decode cX10_feed 0 = .ok (.aload_n 0, 1) := by decide +kernel
theorem dX10_feed_1 : decode cX10_feed 1 = .ok (.getfield 167, 3) := by decide +kernel
theorem dX10_feed_4 : decode cX10_feed 4 = .ok (.bipush 20, 2) := by decide +kernel
theorem dX10_feed_6 : decode cX10_feed 6 = .ok (.iadd, 1) := by decide +kernel
theorem dX10_feed_7 : decode cX10_feed 7 = .ok (.sipush 2000, 3) := by decide +kernel
theorem dX10_feed_10 : decode cX10_feed 10 = .ok (.if_icmp .le 5, 3) := by decide +kernel
theorem dX10_feed_13 : decode cX10_feed 13 = .ok (.iconst (-1), 1) := by decide +kernel
theorem dX10_feed_14 : decode cX10_feed 14 = .ok (.ireturn, 1) := by decide +kernel
theorem dX10_feed_15 : decode cX10_feed 15 = .ok (.aload_n 0, 1) := by decide +kernel
theorem dX10_feed_16 : decode cX10_feed 16 = .ok (.iload_n 1, 1) := by decide +kernel
theorem dX10_feed_17 : decode cX10_feed 17 = .ok (.invokevirtual 170, 3) := by decide +kernel
theorem dX10_feed_20 : decode cX10_feed 20 = .ok (.aload_n 0, 1) := by decide +kernel
theorem dX10_feed_21 : decode cX10_feed 21 = .ok (.iload_n 2, 1) := by decide +kernel
theorem dX10_feed_22 : decode cX10_feed 22 = .ok (.invokevirtual 170, 3) := by decide +kernel
theorem dX10_feed_25 : decode cX10_feed 25 = .ok (.aload_n 0, 1) := by decide +kernel
theorem dX10_feed_26 : decode cX10_feed 26 = .ok (.iload_n 3, 1) := by decide +kernel
theorem dX10_feed_27 : decode cX10_feed 27 = .ok (.invokevirtual 170, 3) := by decide +kernel
theorem dX10_feed_30 : decode cX10_feed 30 = .ok (.aload_n 0, 1) := by decide +kernel
theorem dX10_feed_31 : decode cX10_feed 31 = .ok (.iload 4, 2) := by decide +kernel
theorem dX10_feed_33 : decode cX10_feed 33 = .ok (.invokevirtual 170, 3) := by decide +kernel
theorem dX10_feed_36 : decode cX10_feed 36 = .ok (.aload_n 0, 1) := by decide +kernel
theorem dX10_feed_37 : decode cX10_feed 37 = .ok (.iload 5, 2) := by decide +kernel
theorem dX10_feed_39 : decode cX10_feed 39 = .ok (.invokevirtual 170, 3) := by decide +kernel
theorem dX10_feed_42 : decode cX10_feed 42 = .ok (.aload_n 0, 1) := by decide +kernel
theorem dX10_feed_43 : decode cX10_feed 43 = .ok (.getfield 167, 3) := by decide +kernel
theorem dX10_feed_46 : decode cX10_feed 46 = .ok (.ireturn, 1) := by decide +kernel
theorem dX10_cut_0 : decode cX10_cut 0 = .ok (.aload_n 0, 1) := by decide +kernel
theorem dX10_cut_1 : decode cX10_cut 1 = .ok (.iconst 0, 1) := by decide +kernel
theorem dX10_cut_2 : decode cX10_cut 2 = .ok (.putfield 178, 3) := by decide +kernel
theorem dX10_cut_5 : decode cX10_cut 5 = .ok (.iconst 0, 1) := by decide +kernel
theorem dX10_cut_6 : decode cX10_cut 6 = .ok (.istore_n 1, 1) := by decide +kernel
theorem dX10_cut_7 : decode cX10_cut 7 = .ok (.aload_n 0, 1) := by decide +kernel
theorem dX10_cut_8 : decode cX10_cut 8 = .ok (.getfield 178, 3) := by decide +kernel
theorem dX10_cut_11 : decode cX10_cut 11 = .ok (.sipush 400, 3) := by decide +kernel
theorem dX10_cut_14 : decode cX10_cut 14 = .ok (.if_icmp .gt 280, 3) := by decide +kernel
theorem dX10_cut_17 : decode cX10_cut 17 = .ok (.aload_n 0, 1) := by decide +kernel
theorem dX10_cut_18 : decode cX10_cut 18 = .ok (.iload_n 1, 1) := by decide +kernel
theorem dX10_cut_19 : decode cX10_cut 19 = .ok (.invokevirtual 181, 3) := by decide +kernel
theorem dX10_cut_22 : decode cX10_cut 22 = .ok (.istore_n 2, 1) := by decide +kernel
theorem dX10_cut_23 : decode cX10_cut 23 = .ok (.iload_n 1, 1) := by decide +kernel
theorem dX10_cut_24 : decode cX10_cut 24 = .ok (.aload_n 0, 1) := by decide +kernel
theorem dX10_cut_25 : decode cX10_cut 25 = .ok (.getfield 173, 3) := by decide +kernel
theorem dX10_cut_28 : decode cX10_cut 28 = .ok (.if_icmp .lt 15, 3) := by decide +kernel
theorem dX10_cut_31 : decode cX10_cut 31 = .ok (.aload_n 0, 1) := by decide +kernel
theorem dX10_cut_32 : decode cX10_cut 32 = .ok (.iconst 0, 1) := by decide +kernel
theorem dX10_cut_33 : decode cX10_cut 33 = .ok (.aload_n 0, 1) := by decide +kernel
theorem dX10_cut_34 : decode cX10_cut 34 = .ok (.getfield 173, 3) := by decide +kernel
theorem dX10_cut_37 : decode cX10_cut 37 = .ok (.iconst 0, 1) := by decide +kernel
theorem dX10_cut_38 : decode cX10_cut 38 = .ok (.lconst 0, 1) := by decide +kernel
theorem dX10_cut_39 : decode cX10_cut 39 = .ok (.invokevirtual 185, 3) := by decide +kernel
theorem dX10_cut_42 : decode cX10_cut 42 = .ok (.return_, 1) := by decide +kernel
theorem dX10_cut_43 : decode cX10_cut 43 = .ok (.iload_n 2, 1) := by decide +kernel
theorem dX10_cut_44 : decode cX10_cut 44 = .ok (.bipush 9, 2) := by decide +kernel
theorem dX10_cut_46 : decode cX10_cut 46 = .ok (.if_icmp .eq 21, 3) := by decide +kernel
theorem dX10_cut_49 : decode cX10_cut 49 = .ok (.iload_n 2, 1) := by decide +kernel
theorem dX10_cut_50 : decode cX10_cut 50 = .ok (.bipush 10, 2) := by decide +kernel
theorem dX10_cut_52 : decode cX10_cut 52 = .ok (.if_icmp .eq 15, 3) := by decide +kernel
theorem dX10_cut_55 : decode cX10_cut 55 = .ok (.iload_n 2, 1) := by decide +kernel
theorem dX10_cut_56 : decode cX10_cut 56 = .ok (.bipush 13, 2) := by decide +kernel
theorem dX10_cut_58 : decode cX10_cut 58 = .ok (.if_icmp .eq 9, 3) := by decide +kernel
theorem dX10_cut_61 : decode cX10_cut 61 = .ok (.iload_n 2, 1) := by decide +kernel
theorem dX10_cut_62 : decode cX10_cut 62 = .ok (.bipush 32, 2) := by decide +kernel
theorem dX10_cut_64 : decode cX10_cut 64 = .ok (.if_icmp .ne 9, 3) := by decide +kernel
theorem dX10_cut_67 : decode cX10_cut 67 = .ok (.iinc 1 1, 3) := by decide +kernel
theorem dX10_cut_70 : decode cX10_cut 70 = .ok (.goto 221, 3) := by decide +kernel
theorem dX10_cut_73 : decode cX10_cut 73 = .ok (.iload_n 2, 1) := by decide +kernel
theorem dX10_cut_74 : decode cX10_cut 74 = .ok (.invokestatic 189, 3) := by decide +kernel
theorem dX10_cut_77 : decode cX10_cut 77 = .ok (.ifCond .eq 119, 3) := by decide +kernel
theorem dX10_cut_80 : decode cX10_cut 80 = .ok (.iconst 0, 1) := by decide +kernel
theorem dX10_cut_81 : decode cX10_cut 81 = .ok (.istore_n 3, 1) := by decide +kernel
theorem dX10_cut_82 : decode cX10_cut 82 = .ok (.lconst 0, 1) := by decide +kernel
theorem dX10_cut_83 : decode cX10_cut 83 = .ok (.lstore 4, 2) := by decide +kernel
theorem dX10_cut_85 : decode cX10_cut 85 = .ok (.aload_n 0, 1) := by decide +kernel
theorem dX10_cut_86 : decode cX10_cut 86 = .ok (.iload_n 1, 1) := by decide +kernel
theorem dX10_cut_87 : decode cX10_cut 87 = .ok (.iload_n 3, 1) := by decide +kernel
theorem dX10_cut_88 : decode cX10_cut 88 = .ok (.iadd, 1) := by decide +kernel
theorem dX10_cut_89 : decode cX10_cut 89 = .ok (.invokevirtual 181, 3) := by decide +kernel
theorem dX10_cut_92 : decode cX10_cut 92 = .ok (.invokestatic 189, 3) := by decide +kernel
theorem dX10_cut_95 : decode cX10_cut 95 = .ok (.ifCond .eq 29, 3) := by decide +kernel
theorem dX10_cut_98 : decode cX10_cut 98 = .ok (.iload_n 3, 1) := by decide +kernel
theorem dX10_cut_99 : decode cX10_cut 99 = .ok (.bipush 8, 2) := by decide +kernel
theorem dX10_cut_101 : decode cX10_cut 101 = .ok (.if_icmp .ge 17, 3) := by decide +kernel
theorem dX10_cut_104 : decode cX10_cut 104 = .ok (.lload 4, 2) := by decide +kernel
theorem dX10_cut_106 : decode cX10_cut 106 = .ok (.aload_n 0, 1) := by decide +kernel
theorem dX10_cut_107 : decode cX10_cut 107 = .ok (.iload_n 1, 1) := by decide +kernel
theorem dX10_cut_108 : decode cX10_cut 108 = .ok (.iload_n 3, 1) := by decide +kernel
theorem dX10_cut_109 : decode cX10_cut 109 = .ok (.iadd, 1) := by decide +kernel
theorem dX10_cut_110 : decode cX10_cut 110 = .ok (.invokevirtual 181, 3) := by decide +kernel
theorem dX10_cut_113 : decode cX10_cut 113 = .ok (.invokestatic 157, 3) := by decide +kernel
theorem dX10_cut_116 : decode cX10_cut 116 = .ok (.lstore 4, 2) := by decide +kernel
theorem dX10_cut_118 : decode cX10_cut 118 = .ok (.iinc 3 1, 3) := by decide +kernel
theorem dX10_cut_121 : decode cX10_cut 121 = .ok (.goto (-36), 3) := by decide +kernel
theorem dX10_cut_124 : decode cX10_cut 124 = .ok (.iload_n 3, 1) := by decide +kernel
theorem dX10_cut_125 : decode cX10_cut 125 = .ok (.bipush 8, 2) := by decide +kernel
theorem dX10_cut_127 : decode cX10_cut 127 = .ok (.if_icmp .le 7, 3) := by decide +kernel
theorem dX10_cut_130 : decode cX10_cut 130 = .ok (.iconst 3, 1) := by decide +kernel
theorem dX10_cut_131 : decode cX10_cut 131 = .ok (.goto 4, 3) := by decide +kernel
theorem dX10_cut_134 : decode cX10_cut 134 = .ok (.iconst 1, 1) := by decide +kernel
theorem dX10_cut_135 : decode cX10_cut 135 = .ok (.istore 6, 2) := by decide +kernel
theorem dX10_cut_137 : decode cX10_cut 137 = .ok (.iload_n 3, 1) := by decide +kernel
theorem dX10_cut_138 : decode cX10_cut 138 = .ok (.bipush 8, 2) := by decide +kernel
theorem dX10_cut_140 : decode cX10_cut 140 = .ok (.if_icmp .gt 39, 3) := by decide +kernel
theorem dX10_cut_143 : decode cX10_cut 143 = .ok (.iconst 0, 1) := by decide +kernel
theorem dX10_cut_144 : decode cX10_cut 144 = .ok (.istore 7, 2) := by decide +kernel
theorem dX10_cut_146 : decode cX10_cut 146 = .ok (.iload 7, 2) := by decide +kernel
theorem dX10_cut_148 : decode cX10_cut 148 = .ok (.bipush 22, 2) := by decide +kernel
theorem dX10_cut_150 : decode cX10_cut 150 = .ok (.if_icmp .ge 29, 3) := by decide +kernel
theorem dX10_cut_153 : decode cX10_cut 153 = .ok (.aload_n 0, 1) := by decide +kernel
theorem dX10_cut_154 : decode cX10_cut 154 = .ok (.getfield 34, 3) := by decide +kernel
theorem dX10_cut_157 : decode cX10_cut 157 = .ok (.iload 7, 2) := by decide +kernel
theorem dX10_cut_159 : decode cX10_cut 159 = .ok (.laload, 1) := by decide +kernel
theorem dX10_cut_160 : decode cX10_cut 160 = .ok (.lload 4, 2) := by decide +kernel
theorem dX10_cut_162 : decode cX10_cut 162 = .ok (.lcmp, 1) := by decide +kernel
theorem dX10_cut_163 : decode cX10_cut 163 = .ok (.ifCond .ne 10, 3) := by decide +kernel
theorem dX10_cut_166 : decode cX10_cut 166 = .ok (.bipush 20, 2) := by decide +kernel
theorem dX10_cut_168 : decode cX10_cut 168 = .ok (.iload 7, 2) := by decide +kernel
theorem dX10_cut_170 : decode cX10_cut 170 = .ok (.iadd, 1) := by decide +kernel
theorem dX10_cut_171 : decode cX10_cut 171 = .ok (.istore 6, 2) := by decide +kernel
theorem dX10_cut_173 : decode cX10_cut 173 = .ok (.iinc 7 1, 3) := by decide +kernel
theorem dX10_cut_176 : decode cX10_cut 176 = .ok (.goto (-30), 3) := by decide +kernel
theorem dX10_cut_179 : decode cX10_cut 179 = .ok (.aload_n 0, 1) := by decide +kernel
theorem dX10_cut_180 : decode cX10_cut 180 = .ok (.iload 6, 2) := by decide +kernel
theorem dX10_cut_182 : decode cX10_cut 182 = .ok (.iload_n 1, 1) := by decide +kernel
theorem dX10_cut_183 : decode cX10_cut 183 = .ok (.iconst 0, 1) := by decide +kernel
theorem dX10_cut_184 : decode cX10_cut 184 = .ok (.lload 4, 2) := by decide +kernel
theorem dX10_cut_186 : decode cX10_cut 186 = .ok (.invokevirtual 185, 3) := by decide +kernel
theorem dX10_cut_189 : decode cX10_cut 189 = .ok (.iload_n 1, 1) := by decide +kernel
theorem dX10_cut_190 : decode cX10_cut 190 = .ok (.iload_n 3, 1) := by decide +kernel
theorem dX10_cut_191 : decode cX10_cut 191 = .ok (.iadd, 1) := by decide +kernel
theorem dX10_cut_192 : decode cX10_cut 192 = .ok (.istore_n 1, 1) := by decide +kernel
theorem dX10_cut_193 : decode cX10_cut 193 = .ok (.goto 98, 3) := by decide +kernel
theorem dX10_cut_196 : decode cX10_cut 196 = .ok (.iload_n 2, 1) := by decide +kernel
theorem dX10_cut_197 : decode cX10_cut 197 = .ok (.invokestatic 193, 3) := by decide +kernel
theorem dX10_cut_200 : decode cX10_cut 200 = .ok (.ifCond .eq 75, 3) := by decide +kernel
theorem dX10_cut_203 : decode cX10_cut 203 = .ok (.iconst 0, 1) := by decide +kernel
theorem dX10_cut_204 : decode cX10_cut 204 = .ok (.istore_n 3, 1) := by decide +kernel
theorem dX10_cut_205 : decode cX10_cut 205 = .ok (.iconst 0, 1) := by decide +kernel
theorem dX10_cut_206 : decode cX10_cut 206 = .ok (.istore 4, 2) := by decide +kernel
theorem dX10_cut_208 : decode cX10_cut 208 = .ok (.aload_n 0, 1) := by decide +kernel
theorem dX10_cut_209 : decode cX10_cut 209 = .ok (.iload_n 1, 1) := by decide +kernel
theorem dX10_cut_210 : decode cX10_cut 210 = .ok (.iload_n 3, 1) := by decide +kernel
theorem dX10_cut_211 : decode cX10_cut 211 = .ok (.iadd, 1) := by decide +kernel
theorem dX10_cut_212 : decode cX10_cut 212 = .ok (.invokevirtual 181, 3) := by decide +kernel
theorem dX10_cut_215 : decode cX10_cut 215 = .ok (.invokestatic 193, 3) := by decide +kernel
theorem dX10_cut_218 : decode cX10_cut 218 = .ok (.ifCond .eq 32, 3) := by decide +kernel
theorem dX10_cut_221 : decode cX10_cut 221 = .ok (.iload_n 3, 1) := by decide +kernel
theorem dX10_cut_222 : decode cX10_cut 222 = .ok (.iconst 4, 1) := by decide +kernel
theorem dX10_cut_223 : decode cX10_cut 223 = .ok (.if_icmp .ge 21, 3) := by decide +kernel
theorem dX10_cut_226 : decode cX10_cut 226 = .ok (.bipush 10, 2) := by decide +kernel
theorem dX10_cut_228 : decode cX10_cut 228 = .ok (.iload 4, 2) := by decide +kernel
theorem dX10_cut_230 : decode cX10_cut 230 = .ok (.imul, 1) := by decide +kernel
theorem dX10_cut_231 : decode cX10_cut 231 = .ok (.aload_n 0, 1) := by decide +kernel
theorem dX10_cut_232 : decode cX10_cut 232 = .ok (.iload_n 1, 1) := by decide +kernel
theorem dX10_cut_233 : decode cX10_cut 233 = .ok (.iload_n 3, 1) := by decide +kernel
theorem dX10_cut_234 : decode cX10_cut 234 = .ok (.iadd, 1) := by decide +kernel
theorem dX10_cut_235 : decode cX10_cut 235 = .ok (.invokevirtual 181, 3) := by decide +kernel
theorem dX10_cut_238 : decode cX10_cut 238 = .ok (.iadd, 1) := by decide +kernel
theorem dX10_cut_239 : decode cX10_cut 239 = .ok (.bipush 48, 2) := by decide +kernel
theorem dX10_cut_241 : decode cX10_cut 241 = .ok (.isub, 1) := by decide +kernel
theorem dX10_cut_242 : decode cX10_cut 242 = .ok (.istore 4, 2) := by decide +kernel
theorem dX10_cut_244 : decode cX10_cut 244 = .ok (.iinc 3 1, 3) := by decide +kernel
theorem dX10_cut_247 : decode cX10_cut 247 = .ok (.goto (-39), 3) := by decide +kernel
theorem dX10_cut_250 : decode cX10_cut 250 = .ok (.aload_n 0, 1) := by decide +kernel
theorem dX10_cut_251 : decode cX10_cut 251 = .ok (.iload_n 3, 1) := by decide +kernel
theorem dX10_cut_252 : decode cX10_cut 252 = .ok (.iconst 4, 1) := by decide +kernel
theorem dX10_cut_253 : decode cX10_cut 253 = .ok (.if_icmp .le 7, 3) := by decide +kernel
theorem dX10_cut_256 : decode cX10_cut 256 = .ok (.iconst 3, 1) := by decide +kernel
theorem dX10_cut_257 : decode cX10_cut 257 = .ok (.goto 4, 3) := by decide +kernel
theorem dX10_cut_260 : decode cX10_cut 260 = .ok (.iconst 2, 1) := by decide +kernel
theorem dX10_cut_261 : decode cX10_cut 261 = .ok (.iload_n 1, 1) := by decide +kernel
theorem dX10_cut_262 : decode cX10_cut 262 = .ok (.iload 4, 2) := by decide +kernel
theorem dX10_cut_264 : decode cX10_cut 264 = .ok (.lconst 0, 1) := by decide +kernel
theorem dX10_cut_265 : decode cX10_cut 265 = .ok (.invokevirtual 185, 3) := by decide +kernel
theorem dX10_cut_268 : decode cX10_cut 268 = .ok (.iload_n 1, 1) := by decide +kernel
theorem dX10_cut_269 : decode cX10_cut 269 = .ok (.iload_n 3, 1) := by decide +kernel
theorem dX10_cut_270 : decode cX10_cut 270 = .ok (.iadd, 1) := by decide +kernel
theorem dX10_cut_271 : decode cX10_cut 271 = .ok (.istore_n 1, 1) := by decide +kernel
theorem dX10_cut_272 : decode cX10_cut 272 = .ok (.goto 19, 3) := by decide +kernel
theorem dX10_cut_275 : decode cX10_cut 275 = .ok (.iload_n 1, 1) := by decide +kernel
theorem dX10_cut_276 : decode cX10_cut 276 = .ok (.aload_n 0, 1) := by decide +kernel
theorem dX10_cut_277 : decode cX10_cut 277 = .ok (.iload_n 1, 1) := by decide +kernel
theorem dX10_cut_278 : decode cX10_cut 278 = .ok (.iload_n 2, 1) := by decide +kernel
theorem dX10_cut_279 : decode cX10_cut 279 = .ok (.aload_n 0, 1) := by decide +kernel
theorem dX10_cut_280 : decode cX10_cut 280 = .ok (.iload_n 1, 1) := by decide +kernel
theorem dX10_cut_281 : decode cX10_cut 281 = .ok (.iconst 1, 1) := by decide +kernel
theorem dX10_cut_282 : decode cX10_cut 282 = .ok (.iadd, 1) := by decide +kernel
theorem dX10_cut_283 : decode cX10_cut 283 = .ok (.invokevirtual 181, 3) := by decide +kernel
theorem dX10_cut_286 : decode cX10_cut 286 = .ok (.invokevirtual 196, 3) := by decide +kernel
theorem dX10_cut_289 : decode cX10_cut 289 = .ok (.iadd, 1) := by decide +kernel
theorem dX10_cut_290 : decode cX10_cut 290 = .ok (.istore_n 1, 1) := by decide +kernel
theorem dX10_cut_291 : decode cX10_cut 291 = .ok (.goto (-284), 3) := by decide +kernel
theorem dX10_cut_294 : decode cX10_cut 294 = .ok (.return_, 1) := by decide +kernel
theorem dX10_toldInt_0 : decode cX10_toldInt 0 = .ok (.aload_n 0, 1) := by decide +kernel
theorem dX10_toldInt_1 : decode cX10_toldInt 1 = .ok (.invokevirtual 221, 3) := by decide +kernel
theorem dX10_toldInt_4 : decode cX10_toldInt 4 = .ok (.aload_n 0, 1) := by decide +kernel
theorem dX10_toldInt_5 : decode cX10_toldInt 5 = .ok (.iload_n 1, 1) := by decide +kernel
theorem dX10_toldInt_6 : decode cX10_toldInt 6 = .ok (.iload_n 2, 1) := by decide +kernel
theorem dX10_toldInt_7 : decode cX10_toldInt 7 = .ok (.invokevirtual 254, 3) := by decide +kernel
theorem dX10_toldInt_10 : decode cX10_toldInt 10 = .ok (.istore_n 3, 1) := by decide +kernel
theorem dX10_toldInt_11 : decode cX10_toldInt 11 = .ok (.aload_n 0, 1) := by decide +kernel
theorem dX10_toldInt_12 : decode cX10_toldInt 12 = .ok (.iconst 4, 1) := by decide +kernel
theorem dX10_toldInt_13 : decode cX10_toldInt 13 = .ok (.invokevirtual 258, 3) := by decide +kernel
theorem dX10_toldInt_16 : decode cX10_toldInt 16 = .ok (.iload_n 3, 1) := by decide +kernel
theorem dX10_toldInt_17 : decode cX10_toldInt 17 = .ok (.ireturn, 1) := by decide +kernel
theorem dX10_expression_0 : decode cX10_expression 0 = .ok (.aload_n 0, 1) := by decide +kernel
theorem dX10_expression_1 : decode cX10_expression 1 = .ok (.iconst 0, 1) := by decide +kernel
theorem dX10_expression_2 : decode cX10_expression 2 = .ok (.putfield 293, 3) := by decide +kernel
theorem dX10_expression_5 : decode cX10_expression 5 = .ok (.aload_n 0, 1) := by decide +kernel
theorem dX10_expression_6 : decode cX10_expression 6 = .ok (.getfield 227, 3) := by decide +kernel
theorem dX10_expression_9 : decode cX10_expression 9 = .ok (.istore_n 1, 1) := by decide +kernel
theorem dX10_expression_10 : decode cX10_expression 10 = .ok (.iconst 1, 1) := by decide +kernel
theorem dX10_expression_11 : decode cX10_expression 11 = .ok (.istore_n 2, 1) := by decide +kernel
theorem dX10_expression_12 : decode cX10_expression 12 = .ok (.iload_n 2, 1) := by decide +kernel
theorem dX10_expression_13 : decode cX10_expression 13 = .ok (.ifCond .eq 259, 3) := by decide +kernel
theorem dX10_expression_16 : decode cX10_expression 16 = .ok (.aload_n 0, 1) := by decide +kernel
theorem dX10_expression_17 : decode cX10_expression 17 = .ok (.getfield 200, 3) := by decide +kernel
theorem dX10_expression_20 : decode cX10_expression 20 = .ok (.ifCond .ne 252, 3) := by decide +kernel
theorem dX10_expression_23 : decode cX10_expression 23 = .ok (.aload_n 0, 1) := by decide +kernel
theorem dX10_expression_24 : decode cX10_expression 24 = .ok (.bipush 6, 2) := by decide +kernel
theorem dX10_expression_26 : decode cX10_expression 26 = .ok (.invokevirtual 218, 3) := by decide +kernel
theorem dX10_expression_29 : decode cX10_expression 29 = .ok (.ifCond .eq 55, 3) := by decide +kernel
theorem dX10_expression_32 : decode cX10_expression 32 = .ok (.aload_n 0, 1) := by decide +kernel
theorem dX10_expression_33 : decode cX10_expression 33 = .ok (.getfield 227, 3) := by decide +kernel
theorem dX10_expression_36 : decode cX10_expression 36 = .ok (.bipush 6, 2) := by decide +kernel
theorem dX10_expression_38 : decode cX10_expression 38 = .ok (.if_icmp .ne 8, 3) := by decide +kernel
theorem dX10_expression_41 : decode cX10_expression 41 = .ok (.aload_n 0, 1) := by decide +kernel
theorem dX10_expression_42 : decode cX10_expression 42 = .ok (.iconst 2, 1) := by decide +kernel
theorem dX10_expression_43 : decode cX10_expression 43 = .ok (.invokevirtual 215, 3) := by decide +kernel
theorem dX10_expression_46 : decode cX10_expression 46 = .ok (.aload_n 0, 1) := by decide +kernel
theorem dX10_expression_47 : decode cX10_expression 47 = .ok (.dup, 1) := by decide +kernel
theorem dX10_expression_48 : decode cX10_expression 48 = .ok (.getfield 227, 3) := by decide +kernel
theorem dX10_expression_51 : decode cX10_expression 51 = .ok (.iconst 1, 1) := by decide +kernel
theorem dX10_expression_52 : decode cX10_expression 52 = .ok (.iadd, 1) := by decide +kernel
theorem dX10_expression_53 : decode cX10_expression 53 = .ok (.putfield 227, 3) := by decide +kernel
theorem dX10_expression_56 : decode cX10_expression 56 = .ok (.aload_n 0, 1) := by decide +kernel
theorem dX10_expression_57 : decode cX10_expression 57 = .ok (.invokevirtual 221, 3) := by decide +kernel
theorem dX10_expression_60 : decode cX10_expression 60 = .ok (.aload_n 0, 1) := by decide +kernel
theorem dX10_expression_61 : decode cX10_expression 61 = .ok (.getfield 110, 3) := by decide +kernel
theorem dX10_expression_64 : decode cX10_expression 64 = .ok (.aload_n 0, 1) := by decide +kernel
theorem dX10_expression_65 : decode cX10_expression 65 = .ok (.getfield 293, 3) := by decide +kernel
theorem dX10_expression_68 : decode cX10_expression 68 = .ok (.bipush 6, 2) := by decide +kernel
theorem dX10_expression_70 : decode cX10_expression 70 = .ok (.iastore, 1) := by decide +kernel
theorem dX10_expression_71 : decode cX10_expression 71 = .ok (.aload_n 0, 1) := by decide +kernel
theorem dX10_expression_72 : decode cX10_expression 72 = .ok (.dup, 1) := by decide +kernel
theorem dX10_expression_73 : decode cX10_expression 73 = .ok (.getfield 293, 3) := by decide +kernel
theorem dX10_expression_76 : decode cX10_expression 76 = .ok (.iconst 1, 1) := by decide +kernel
theorem dX10_expression_77 : decode cX10_expression 77 = .ok (.iadd, 1) := by decide +kernel
theorem dX10_expression_78 : decode cX10_expression 78 = .ok (.putfield 293, 3) := by decide +kernel
theorem dX10_expression_81 : decode cX10_expression 81 = .ok (.goto (-58), 3) := by decide +kernel
theorem dX10_expression_84 : decode cX10_expression 84 = .ok (.aload_n 0, 1) := by decide +kernel
theorem dX10_expression_85 : decode cX10_expression 85 = .ok (.invokevirtual 299, 3) := by decide +kernel
theorem dX10_expression_88 : decode cX10_expression 88 = .ok (.aload_n 0, 1) := by decide +kernel
theorem dX10_expression_89 : decode cX10_expression 89 = .ok (.getfield 200, 3) := by decide +kernel
theorem dX10_expression_92 : decode cX10_expression 92 = .ok (.ifCond .le 4, 3) := by decide +kernel
theorem dX10_expression_95 : decode cX10_expression 95 = .ok (.return_, 1) := by decide +kernel
theorem dX10_expression_96 : decode cX10_expression 96 = .ok (.aload_n 0, 1) := by decide +kernel
theorem dX10_expression_97 : decode cX10_expression 97 = .ok (.bipush 7, 2) := by decide +kernel
theorem dX10_expression_99 : decode cX10_expression 99 = .ok (.invokevirtual 218, 3) := by decide +kernel
theorem dX10_expression_102 : decode cX10_expression 102 = .ok (.ifCond .eq 43, 3) := by decide +kernel
theorem dX10_expression_105 : decode cX10_expression 105 = .ok (.aload_n 0, 1) := by decide +kernel
theorem dX10_expression_106 : decode cX10_expression 106 = .ok (.getfield 227, 3) := by decide +kernel
theorem dX10_expression_109 : decode cX10_expression 109 = .ok (.iload_n 1, 1) := by decide +kernel
theorem dX10_expression_110 : decode cX10_expression 110 = .ok (.if_icmp .le 35, 3) := by decide +kernel
theorem dX10_expression_113 : decode cX10_expression 113 = .ok (.aload_n 0, 1) := by decide +kernel
theorem dX10_expression_114 : decode cX10_expression 114 = .ok (.iconst 0, 1) := by decide +kernel
theorem dX10_expression_115 : decode cX10_expression 115 = .ok (.invokevirtual 302, 3) := by decide +kernel
theorem dX10_expression_118 : decode cX10_expression 118 = .ok (.aload_n 0, 1) := by decide +kernel
theorem dX10_expression_119 : decode cX10_expression 119 = .ok (.dup, 1) := by decide +kernel
theorem dX10_expression_120 : decode cX10_expression 120 = .ok (.getfield 293, 3) := by decide +kernel
theorem dX10_expression_123 : decode cX10_expression 123 = .ok (.iconst 1, 1) := by decide +kernel
theorem dX10_expression_124 : decode cX10_expression 124 = .ok (.isub, 1) := by decide +kernel
theorem dX10_expression_125 : decode cX10_expression 125 = .ok (.putfield 293, 3) := by decide +kernel
theorem dX10_expression_128 : decode cX10_expression 128 = .ok (.aload_n 0, 1) := by decide +kernel
theorem dX10_expression_129 : decode cX10_expression 129 = .ok (.dup, 1) := by decide +kernel
theorem dX10_expression_130 : decode cX10_expression 130 = .ok (.getfield 227, 3) := by decide +kernel
theorem dX10_expression_133 : decode cX10_expression 133 = .ok (.iconst 1, 1) := by decide +kernel
theorem dX10_expression_134 : decode cX10_expression 134 = .ok (.isub, 1) := by decide +kernel
theorem dX10_expression_135 : decode cX10_expression 135 = .ok (.putfield 227, 3) := by decide +kernel
theorem dX10_expression_138 : decode cX10_expression 138 = .ok (.aload_n 0, 1) := by decide +kernel
theorem dX10_expression_139 : decode cX10_expression 139 = .ok (.invokevirtual 221, 3) := by decide +kernel
theorem dX10_expression_142 : decode cX10_expression 142 = .ok (.goto (-46), 3) := by decide +kernel
theorem dX10_expression_145 : decode cX10_expression 145 = .ok (.aload_n 0, 1) := by decide +kernel
theorem dX10_expression_146 : decode cX10_expression 146 = .ok (.bipush 8, 2) := by decide +kernel
theorem dX10_expression_148 : decode cX10_expression 148 = .ok (.invokevirtual 218, 3) := by decide +kernel
theorem dX10_expression_151 : decode cX10_expression 151 = .ok (.ifCond .ne 30, 3) := by decide +kernel
theorem dX10_expression_154 : decode cX10_expression 154 = .ok (.aload_n 0, 1) := by decide +kernel
theorem dX10_expression_155 : decode cX10_expression 155 = .ok (.bipush 9, 2) := by decide +kernel
theorem dX10_expression_157 : decode cX10_expression 157 = .ok (.invokevirtual 218, 3) := by decide +kernel
theorem dX10_expression_160 : decode cX10_expression 160 = .ok (.ifCond .ne 21, 3) := by decide +kernel
theorem dX10_expression_163 : decode cX10_expression 163 = .ok (.aload_n 0, 1) := by decide +kernel
theorem dX10_expression_164 : decode cX10_expression 164 = .ok (.bipush 10, 2) := by decide +kernel
theorem dX10_expression_166 : decode cX10_expression 166 = .ok (.invokevirtual 218, 3) := by decide +kernel
theorem dX10_expression_169 : decode cX10_expression 169 = .ok (.ifCond .ne 12, 3) := by decide +kernel
theorem dX10_expression_172 : decode cX10_expression 172 = .ok (.aload_n 0, 1) := by decide +kernel
theorem dX10_expression_173 : decode cX10_expression 173 = .ok (.bipush 15, 2) := by decide +kernel
theorem dX10_expression_175 : decode cX10_expression 175 = .ok (.invokevirtual 218, 3) := by decide +kernel
theorem dX10_expression_178 : decode cX10_expression 178 = .ok (.ifCond .eq 7, 3) := by decide +kernel
theorem dX10_expression_181 : decode cX10_expression 181 = .ok (.iconst 1, 1) := by decide +kernel
theorem dX10_expression_182 : decode cX10_expression 182 = .ok (.goto 4, 3) := by decide +kernel
theorem dX10_expression_185 : decode cX10_expression 185 = .ok (.iconst 0, 1) := by decide +kernel
theorem dX10_expression_186 : decode cX10_expression 186 = .ok (.istore_n 2, 1) := by decide +kernel
theorem dX10_expression_187 : decode cX10_expression 187 = .ok (.iload_n 2, 1) := by decide +kernel
theorem dX10_expression_188 : decode cX10_expression 188 = .ok (.ifCond .ne 22, 3) := by decide +kernel
theorem dX10_expression_191 : decode cX10_expression 191 = .ok (.aload_n 0, 1) := by decide +kernel
theorem dX10_expression_192 : decode cX10_expression 192 = .ok (.getfield 227, 3) := by decide +kernel
theorem dX10_expression_195 : decode cX10_expression 195 = .ok (.iload_n 1, 1) := by decide +kernel
theorem dX10_expression_196 : decode cX10_expression 196 = .ok (.if_icmp .le 8, 3) := by decide +kernel
theorem dX10_expression_199 : decode cX10_expression 199 = .ok (.aload_n 0, 1) := by decide +kernel
theorem dX10_expression_200 : decode cX10_expression 200 = .ok (.iconst 1, 1) := by decide +kernel
theorem dX10_expression_201 : decode cX10_expression 201 = .ok (.invokevirtual 215, 3) := by decide +kernel
theorem dX10_expression_204 : decode cX10_expression 204 = .ok (.aload_n 0, 1) := by decide +kernel
theorem dX10_expression_205 : decode cX10_expression 205 = .ok (.iconst 0, 1) := by decide +kernel
theorem dX10_expression_206 : decode cX10_expression 206 = .ok (.invokevirtual 302, 3) := by decide +kernel
theorem dX10_expression_209 : decode cX10_expression 209 = .ok (.return_, 1) := by decide +kernel
theorem dX10_expression_210 : decode cX10_expression 210 = .ok (.aload_n 0, 1) := by decide +kernel
theorem dX10_expression_211 : decode cX10_expression 211 = .ok (.aload_n 0, 1) := by decide +kernel
theorem dX10_expression_212 : decode cX10_expression 212 = .ok (.bipush 10, 2) := by decide +kernel
theorem dX10_expression_214 : decode cX10_expression 214 = .ok (.invokevirtual 218, 3) := by decide +kernel
theorem dX10_expression_217 : decode cX10_expression 217 = .ok (.ifCond .ne 12, 3) := by decide +kernel
theorem dX10_expression_220 : decode cX10_expression 220 = .ok (.aload_n 0, 1) := by decide +kernel
theorem dX10_expression_221 : decode cX10_expression 221 = .ok (.bipush 15, 2) := by decide +kernel
theorem dX10_expression_223 : decode cX10_expression 223 = .ok (.invokevirtual 218, 3) := by decide +kernel
theorem dX10_expression_226 : decode cX10_expression 226 = .ok (.ifCond .eq 7, 3) := by decide +kernel
theorem dX10_expression_229 : decode cX10_expression 229 = .ok (.iconst 1, 1) := by decide +kernel
theorem dX10_expression_230 : decode cX10_expression 230 = .ok (.goto 4, 3) := by decide +kernel
theorem dX10_expression_233 : decode cX10_expression 233 = .ok (.iconst 0, 1) := by decide +kernel
theorem dX10_expression_234 : decode cX10_expression 234 = .ok (.invokevirtual 302, 3) := by decide +kernel
theorem dX10_expression_237 : decode cX10_expression 237 = .ok (.aload_n 0, 1) := by decide +kernel
theorem dX10_expression_238 : decode cX10_expression 238 = .ok (.getfield 110, 3) := by decide +kernel
theorem dX10_expression_241 : decode cX10_expression 241 = .ok (.aload_n 0, 1) := by decide +kernel
theorem dX10_expression_242 : decode cX10_expression 242 = .ok (.getfield 293, 3) := by decide +kernel
theorem dX10_expression_245 : decode cX10_expression 245 = .ok (.aload_n 0, 1) := by decide +kernel
theorem dX10_expression_246 : decode cX10_expression 246 = .ok (.getfield 20, 3) := by decide +kernel
theorem dX10_expression_249 : decode cX10_expression 249 = .ok (.aload_n 0, 1) := by decide +kernel
theorem dX10_expression_250 : decode cX10_expression 250 = .ok (.getfield 203, 3) := by decide +kernel
theorem dX10_expression_253 : decode cX10_expression 253 = .ok (.iaload, 1) := by decide +kernel
theorem dX10_expression_254 : decode cX10_expression 254 = .ok (.iastore, 1) := by decide +kernel
theorem dX10_expression_255 : decode cX10_expression 255 = .ok (.aload_n 0, 1) := by decide +kernel
theorem dX10_expression_256 : decode cX10_expression 256 = .ok (.dup, 1) := by decide +kernel
theorem dX10_expression_257 : decode cX10_expression 257 = .ok (.getfield 293, 3) := by decide +kernel
theorem dX10_expression_260 : decode cX10_expression 260 = .ok (.iconst 1, 1) := by decide +kernel
theorem dX10_expression_261 : decode cX10_expression 261 = .ok (.iadd, 1) := by decide +kernel
theorem dX10_expression_262 : decode cX10_expression 262 = .ok (.putfield 293, 3) := by decide +kernel
theorem dX10_expression_265 : decode cX10_expression 265 = .ok (.aload_n 0, 1) := by decide +kernel
theorem dX10_expression_266 : decode cX10_expression 266 = .ok (.invokevirtual 221, 3) := by decide +kernel
theorem dX10_expression_269 : decode cX10_expression 269 = .ok (.goto (-257), 3) := by decide +kernel
theorem dX10_expression_272 : decode cX10_expression 272 = .ok (.return_, 1) := by decide +kernel
theorem dX0_takeClosing_0 : decode cX0_takeClosing 0 = .ok (.iload_n 1, 1) := by decide +kernel
theorem dX0_takeClosing_1 : decode cX0_takeClosing 1 = .ok (.bipush 41, 2) := by decide +kernel
theorem dX0_takeClosing_3 : decode cX0_takeClosing 3 = .ok (.if_icmp .eq 5, 3) := by decide +kernel
theorem dX0_takeClosing_6 : decode cX0_takeClosing 6 = .ok (.iconst 1, 1) := by decide +kernel
theorem dX0_takeClosing_7 : decode cX0_takeClosing 7 = .ok (.ireturn, 1) := by decide +kernel
theorem dX0_takeClosing_8 : decode cX0_takeClosing 8 = .ok (.aload_n 0, 1) := by decide +kernel
theorem dX0_takeClosing_9 : decode cX0_takeClosing 9 = .ok (.iconst 1, 1) := by decide +kernel
theorem dX0_takeClosing_10 : decode cX0_takeClosing 10 = .ok (.aload_n 2, 1) := by decide +kernel
theorem dX0_takeClosing_11 : decode cX0_takeClosing 11 = .ok (.invokevirtual 81, 3) := by decide +kernel
theorem dX0_takeClosing_14 : decode cX0_takeClosing 14 = .ok (.aload_n 0, 1) := by decide +kernel
theorem dX0_takeClosing_15 : decode cX0_takeClosing 15 = .ok (.iconst 0, 1) := by decide +kernel
theorem dX0_takeClosing_16 : decode cX0_takeClosing 16 = .ok (.aload_n 0, 1) := by decide +kernel
theorem dX0_takeClosing_17 : decode cX0_takeClosing 17 = .ok (.getfield 41, 3) := by decide +kernel
theorem dX0_takeClosing_20 : decode cX0_takeClosing 20 = .ok (.iconst 1, 1) := by decide +kernel
theorem dX0_takeClosing_21 : decode cX0_takeClosing 21 = .ok (.isub, 1) := by decide +kernel
theorem dX0_takeClosing_22 : decode cX0_takeClosing 22 = .ok (.invokestatic 96, 3) := by decide +kernel
theorem dX0_takeClosing_25 : decode cX0_takeClosing 25 = .ok (.putfield 41, 3) := by decide +kernel
theorem dX0_takeClosing_28 : decode cX0_takeClosing 28 = .ok (.aload_n 0, 1) := by decide +kernel
theorem dX0_takeClosing_29 : decode cX0_takeClosing 29 = .ok (.dup, 1) := by decide +kernel
theorem dX0_takeClosing_30 : decode cX0_takeClosing 30 = .ok (.getfield 21, 3) := by decide +kernel
theorem dX0_takeClosing_33 : decode cX0_takeClosing 33 = .ok (.iconst 1, 1) := by decide +kernel
theorem dX0_takeClosing_34 : decode cX0_takeClosing 34 = .ok (.isub, 1) := by decide +kernel
theorem dX0_takeClosing_35 : decode cX0_takeClosing 35 = .ok (.putfield 21, 3) := by decide +kernel
theorem dX0_takeClosing_38 : decode cX0_takeClosing 38 = .ok (.iconst 0, 1) := by decide +kernel
theorem dX0_takeClosing_39 : decode cX0_takeClosing 39 = .ok (.ireturn, 1) := by decide +kernel
theorem dX0_endPart_0 : decode cX0_endPart 0 = .ok (.aload_n 0, 1) := by decide +kernel
theorem dX0_endPart_1 : decode cX0_endPart 1 = .ok (.iconst 1, 1) := by decide +kernel
theorem dX0_endPart_2 : decode cX0_endPart 2 = .ok (.aload_n 1, 1) := by decide +kernel
theorem dX0_endPart_3 : decode cX0_endPart 3 = .ok (.invokevirtual 81, 3) := by decide +kernel
theorem dX0_endPart_6 : decode cX0_endPart 6 = .ok (.aload_n 1, 1) := by decide +kernel
theorem dX0_endPart_7 : decode cX0_endPart 7 = .ok (.aload_n 0, 1) := by decide +kernel
theorem dX0_endPart_8 : decode cX0_endPart 8 = .ok (.getfield 9, 3) := by decide +kernel
theorem dX0_endPart_11 : decode cX0_endPart 11 = .ok (.invokevirtual 102, 3) := by decide +kernel
theorem dX0_endPart_14 : decode cX0_endPart 14 = .ok (.aload_n 0, 1) := by decide +kernel
theorem dX0_endPart_15 : decode cX0_endPart 15 = .ok (.aload_n 0, 1) := by decide +kernel
theorem dX0_endPart_16 : decode cX0_endPart 16 = .ok (.getfield 15, 3) := by decide +kernel
theorem dX0_endPart_19 : decode cX0_endPart 19 = .ok (.iconst 3, 1) := by decide +kernel
theorem dX0_endPart_20 : decode cX0_endPart 20 = .ok (.if_icmp .ne 7, 3) := by decide +kernel
theorem dX0_endPart_23 : decode cX0_endPart 23 = .ok (.iconst 1, 1) := by decide +kernel
theorem dX0_endPart_24 : decode cX0_endPart 24 = .ok (.goto 4, 3) := by decide +kernel
theorem dX0_endPart_27 : decode cX0_endPart 27 = .ok (.iconst 0, 1) := by decide +kernel
theorem dX0_endPart_28 : decode cX0_endPart 28 = .ok (.putfield 31, 3) := by decide +kernel
theorem dX0_endPart_31 : decode cX0_endPart 31 = .ok (.aload_n 0, 1) := by decide +kernel
theorem dX0_endPart_32 : decode cX0_endPart 32 = .ok (.aload_n 0, 1) := by decide +kernel
theorem dX0_endPart_33 : decode cX0_endPart 33 = .ok (.getfield 15, 3) := by decide +kernel
theorem dX0_endPart_36 : decode cX0_endPart 36 = .ok (.iconst 2, 1) := by decide +kernel
theorem dX0_endPart_37 : decode cX0_endPart 37 = .ok (.if_icmp .ne 7, 3) := by decide +kernel
theorem dX0_endPart_40 : decode cX0_endPart 40 = .ok (.iconst 1, 1) := by decide +kernel
theorem dX0_endPart_41 : decode cX0_endPart 41 = .ok (.goto 4, 3) := by decide +kernel
theorem dX0_endPart_44 : decode cX0_endPart 44 = .ok (.iconst 0, 1) := by decide +kernel
theorem dX0_endPart_45 : decode cX0_endPart 45 = .ok (.putfield 34, 3) := by decide +kernel
theorem dX0_endPart_48 : decode cX0_endPart 48 = .ok (.aload_n 0, 1) := by decide +kernel
theorem dX0_endPart_49 : decode cX0_endPart 49 = .ok (.iconst 3, 1) := by decide +kernel
theorem dX0_endPart_50 : decode cX0_endPart 50 = .ok (.aload_n 0, 1) := by decide +kernel
theorem dX0_endPart_51 : decode cX0_endPart 51 = .ok (.getfield 15, 3) := by decide +kernel
theorem dX0_endPart_54 : decode cX0_endPart 54 = .ok (.iconst 1, 1) := by decide +kernel
theorem dX0_endPart_55 : decode cX0_endPart 55 = .ok (.iadd, 1) := by decide +kernel
theorem dX0_endPart_56 : decode cX0_endPart 56 = .ok (.invokestatic 104, 3) := by decide +kernel
theorem dX0_endPart_59 : decode cX0_endPart 59 = .ok (.putfield 15, 3) := by decide +kernel
theorem dX0_endPart_62 : decode cX0_endPart 62 = .ok (.aload_n 0, 1) := by decide +kernel
theorem dX0_endPart_63 : decode cX0_endPart 63 = .ok (.iconst 1, 1) := by decide +kernel
theorem dX0_endPart_64 : decode cX0_endPart 64 = .ok (.putfield 28, 3) := by decide +kernel
theorem dX0_endPart_67 : decode cX0_endPart 67 = .ok (.return_, 1) := by decide +kernel
theorem dX1_tell_0 : decode cX1_tell 0 = .ok (.aload_n 0, 1) := by decide +kernel
theorem dX1_tell_1 : decode cX1_tell 1 = .ok (.getfield 25, 3) := by decide +kernel
theorem dX1_tell_4 : decode cX1_tell 4 = .ok (.iload_n 1, 1) := by decide +kernel
theorem dX1_tell_5 : decode cX1_tell 5 = .ok (.iaload, 1) := by decide +kernel
theorem dX1_tell_6 : decode cX1_tell 6 = .ok (.iconst 1, 1) := by decide +kernel
theorem dX1_tell_7 : decode cX1_tell 7 = .ok (.isub, 1) := by decide +kernel
theorem dX1_tell_8 : decode cX1_tell 8 = .ok (.istore_n 2, 1) := by decide +kernel
theorem dX1_tell_9 : decode cX1_tell 9 = .ok (.iload_n 2, 1) := by decide +kernel
theorem dX1_tell_10 : decode cX1_tell 10 = .ok (.ifCond .ge 18, 3) := by decide +kernel
theorem dX1_tell_13 : decode cX1_tell 13 = .ok (.iload_n 1, 1) := by decide +kernel
theorem dX1_tell_14 : decode cX1_tell 14 = .ok (.ifCond .eq 8, 3) := by decide +kernel
theorem dX1_tell_17 : decode cX1_tell 17 = .ok (.iload_n 1, 1) := by decide +kernel
theorem dX1_tell_18 : decode cX1_tell 18 = .ok (.iconst 1, 1) := by decide +kernel
theorem dX1_tell_19 : decode cX1_tell 19 = .ok (.if_icmp .ne 7, 3) := by decide +kernel
theorem dX1_tell_22 : decode cX1_tell 22 = .ok (.iconst 1, 1) := by decide +kernel
theorem dX1_tell_23 : decode cX1_tell 23 = .ok (.goto 4, 3) := by decide +kernel
theorem dX1_tell_26 : decode cX1_tell 26 = .ok (.iconst 0, 1) := by decide +kernel
theorem dX1_tell_27 : decode cX1_tell 27 = .ok (.ireturn, 1) := by decide +kernel
theorem dX1_tell_28 : decode cX1_tell 28 = .ok (.aload_n 0, 1) := by decide +kernel
theorem dX1_tell_29 : decode cX1_tell 29 = .ok (.iconst 0, 1) := by decide +kernel
theorem dX1_tell_30 : decode cX1_tell 30 = .ok (.putfield 34, 3) := by decide +kernel
theorem dX1_tell_33 : decode cX1_tell 33 = .ok (.iload_n 2, 1) := by decide +kernel
theorem dX1_tell_34 : decode cX1_tell 34 = .ok (.istore_n 3, 1) := by decide +kernel
theorem dX1_tell_35 : decode cX1_tell 35 = .ok (.iconst 0, 1) := by decide +kernel
theorem dX1_tell_36 : decode cX1_tell 36 = .ok (.istore 4, 2) := by decide +kernel
theorem dX1_tell_38 : decode cX1_tell 38 = .ok (.iload 4, 2) := by decide +kernel
theorem dX1_tell_40 : decode cX1_tell 40 = .ok (.iconst 2, 1) := by decide +kernel
theorem dX1_tell_41 : decode cX1_tell 41 = .ok (.iadd, 1) := by decide +kernel
theorem dX1_tell_42 : decode cX1_tell 42 = .ok (.iload_n 2, 1) := by decide +kernel
theorem dX1_tell_43 : decode cX1_tell 43 = .ok (.if_icmp .ge 38, 3) := by decide +kernel
theorem dX1_tell_46 : decode cX1_tell 46 = .ok (.iload_n 3, 1) := by decide +kernel
theorem dX1_tell_47 : decode cX1_tell 47 = .ok (.iload_n 2, 1) := by decide +kernel
theorem dX1_tell_48 : decode cX1_tell 48 = .ok (.if_icmp .ne 33, 3) := by decide +kernel
theorem dX1_tell_51 : decode cX1_tell 51 = .ok (.aload_n 0, 1) := by decide +kernel
theorem dX1_tell_52 : decode cX1_tell 52 = .ok (.iload_n 1, 1) := by decide +kernel
theorem dX1_tell_53 : decode cX1_tell 53 = .ok (.iload 4, 2) := by decide +kernel
theorem dX1_tell_55 : decode cX1_tell 55 = .ok (.invokevirtual 44, 3) := by decide +kernel
theorem dX1_tell_58 : decode cX1_tell 58 = .ok (.aload_n 0, 1) := by decide +kernel
theorem dX1_tell_59 : decode cX1_tell 59 = .ok (.iload_n 1, 1) := by decide +kernel
theorem dX1_tell_60 : decode cX1_tell 60 = .ok (.iload 4, 2) := by decide +kernel
theorem dX1_tell_62 : decode cX1_tell 62 = .ok (.iconst 1, 1) := by decide +kernel
theorem dX1_tell_63 : decode cX1_tell 63 = .ok (.iadd, 1) := by decide +kernel
theorem dX1_tell_64 : decode cX1_tell 64 = .ok (.invokevirtual 44, 3) := by decide +kernel
theorem dX1_tell_67 : decode cX1_tell 67 = .ok (.if_icmp .ge 8, 3) := by decide +kernel
theorem dX1_tell_70 : decode cX1_tell 70 = .ok (.iload 4, 2) := by decide +kernel
theorem dX1_tell_72 : decode cX1_tell 72 = .ok (.iconst 2, 1) := by decide +kernel
theorem dX1_tell_73 : decode cX1_tell 73 = .ok (.iadd, 1) := by decide +kernel
theorem dX1_tell_74 : decode cX1_tell 74 = .ok (.istore_n 3, 1) := by decide +kernel
theorem dX1_tell_75 : decode cX1_tell 75 = .ok (.iinc 4 3, 3) := by decide +kernel
theorem dX1_tell_78 : decode cX1_tell 78 = .ok (.goto (-40), 3) := by decide +kernel
theorem dX1_tell_81 : decode cX1_tell 81 = .ok (.aload_n 0, 1) := by decide +kernel
theorem dX1_tell_82 : decode cX1_tell 82 = .ok (.getfield 34, 3) := by decide +kernel
theorem dX1_tell_85 : decode cX1_tell 85 = .ok (.ifCond .eq 7, 3) := by decide +kernel
theorem dX1_tell_88 : decode cX1_tell 88 = .ok (.iconst 0, 1) := by decide +kernel
theorem dX1_tell_89 : decode cX1_tell 89 = .ok (.goto 9, 3) := by decide +kernel
theorem dX1_tell_92 : decode cX1_tell 92 = .ok (.aload_n 0, 1) := by decide +kernel
theorem dX1_tell_93 : decode cX1_tell 93 = .ok (.iload_n 1, 1) := by decide +kernel
theorem dX1_tell_94 : decode cX1_tell 94 = .ok (.iload_n 3, 1) := by decide +kernel
theorem dX1_tell_95 : decode cX1_tell 95 = .ok (.invokevirtual 44, 3) := by decide +kernel
theorem dX1_tell_98 : decode cX1_tell 98 = .ok (.istore 4, 2) := by decide +kernel
theorem dX1_tell_100 : decode cX1_tell 100 = .ok (.aload_n 0, 1) := by decide +kernel
theorem dX1_tell_101 : decode cX1_tell 101 = .ok (.getfield 34, 3) := by decide +kernel
theorem dX1_tell_104 : decode cX1_tell 104 = .ok (.ifCond .eq 7, 3) := by decide +kernel
theorem dX1_tell_107 : decode cX1_tell 107 = .ok (.iconst 0, 1) := by decide +kernel
theorem dX1_tell_108 : decode cX1_tell 108 = .ok (.goto 22, 3) := by decide +kernel
theorem dX1_tell_111 : decode cX1_tell 111 = .ok (.iload_n 1, 1) := by decide +kernel
theorem dX1_tell_112 : decode cX1_tell 112 = .ok (.iconst 2, 1) := by decide +kernel
theorem dX1_tell_113 : decode cX1_tell 113 = .ok (.if_icmp .ne 15, 3) := by decide +kernel
theorem dX1_tell_116 : decode cX1_tell 116 = .ok (.iload 4, 2) := by decide +kernel
theorem dX1_tell_118 : decode cX1_tell 118 = .ok (.bipush (-99), 2) := by decide +kernel
theorem dX1_tell_120 : decode cX1_tell 120 = .ok (.bipush 99, 2) := by decide +kernel
theorem dX1_tell_122 : decode cX1_tell 122 = .ok (.invokestatic 48, 3) := by decide +kernel
theorem dX1_tell_125 : decode cX1_tell 125 = .ok (.goto 5, 3) := by decide +kernel
theorem dX1_tell_128 : decode cX1_tell 128 = .ok (.iload 4, 2) := by decide +kernel
theorem dX1_tell_130 : decode cX1_tell 130 = .ok (.ireturn, 1) := by decide +kernel
set_option maxRecDepth 100000 in
set_option maxHeartbeats 4000000 in
theorem tX9_tellFact (G : gx) (fu : Nat) (v0 : Nat) (v1 : Int32) (v2 : Int32) (h : mh) : Ct lI G yX9_tellFact cX9_tellFact 3 (some .int) 2 [.ref (gB G + v0), .int v1, .int v2] h (fX9_tellFact fu v0 v1 v2 h) := by
  refine ct_ls (ls := [(0, .ref (gB G + v0)), (1, .int v1), (2, .int v2)]) rfl (by decide) (Nat.le_of_ble_eq_true rfl) ?_
  unfold fX9_tellFact
  refine ev_step (st_iload_n (pc := 0) (j := 1) dX9_tellFact_0 rfl rfl) ?_
  refine ev_callI (iv_S (As := [.int v1]) (st := []) (pc := 1) m_X9_isFact l_X9_207 z_X9_isFact rfl (Nat.le_of_ble_eq_true rfl) rfl dX9_tellFact_1) (tX9_isFact G fu v1 h) (by decide) (by decide) (fun x2 h1 => ?_)
  refine ev_br (br_if_eq (tgt := 20) (pc := 4) dX9_tellFact_4 (by decide)) (fun _ => ?_) (fun _ => ?_)
  · refine ev_step (st_iconst (pc := 20) dX9_tellFact_20 ni_m1) ?_
    exact ev_iret (pc := 21) dX9_tellFact_21
  · refine ev_step (st_aload_n (pc := 7) (j := 0) dX9_tellFact_7 rfl rfl) ?_
    refine ev_getR (pc := 8) k_X9_64 rfl dX9_tellFact_8 (fun a3 => ?_)
    refine ev_step (st_iconst (pc := 11) dX9_tellFact_11 ni_0) ?_
    refine ev_step (st_iload_n (pc := 12) (j := 1) dX9_tellFact_12 rfl rfl) ?_
    refine ev_step (st_iload_n (pc := 13) (j := 2) dX9_tellFact_13 rfl rfl) ?_
    refine ev_ck (fun ha hS => ?_)
    refine ev_callI (iv_V (As := [.int ((0 : Int32)), .int v1, .int v2]) (st := []) (pc := 14) rfl m_X8_add l_X9_292 i_X8_add e_X8_add ha hS rfl (Nat.le_of_ble_eq_true rfl) rfl dX9_tellFact_14) (tX8_add G fu a3 ((0 : Int32)) v1 v2 h1) (by decide) (by decide) (fun x5 h4 => ?_)
    refine ev_step (st_goto (pc := 17) (tgt := 21) dX9_tellFact_17 (by decide)) ?_
    exact ev_iret (pc := 21) dX9_tellFact_21
set_option maxRecDepth 100000 in
set_option maxHeartbeats 4000000 in
theorem tX10_init (G : gx) (fu : Nat) (v0 : Nat) (h : mh) : Ct lV G yX10_init cX10_init 1 (none) 3 [.ref (gB G + v0)] h (fX10_init fu v0 h) := by
  refine ct_ls (ls := [(0, .ref (gB G + v0))]) rfl (by decide) (Nat.le_of_ble_eq_true rfl) ?_
  unfold fX10_init
  refine ev_step (st_aload_n (pc := 0) (j := 0) dX10_init_0 rfl rfl) ?_
  refine ev_step (st_objinit (pc := 1) o_X10_7 (by decide) (Nat.le_of_ble_eq_true rfl) dX10_init_1) ?_
  refine ev_step (st_aload_n (pc := 4) (j := 0) dX10_init_4 rfl rfl) ?_
  refine ev_step (st_sipush (pc := 5) dX10_init_5 ns_2000) ?_
  refine ev_newa (pc := 8) (t := 2) (ty := .byte) ac_byte rfl (Or.inr (Or.inl rfl)) dX10_init_8 (fun a1 h2 => ?_)
  refine ev_putR (pc := 10) (p_X10_13 _ rfl rfl) (Or.inr ⟨_, rfl⟩) dX10_init_10 (fun h3 => ?_)
  refine ev_step (st_aload_n (pc := 13) (j := 0) dX10_init_13 rfl rfl) ?_
  refine ev_step (st_sipush (pc := 14) dX10_init_14 ns_2000) ?_
  refine ev_newa (pc := 17) (t := 2) (ty := .byte) ac_byte rfl (Or.inr (Or.inl rfl)) dX10_init_17 (fun a4 h5 => ?_)
  refine ev_putR (pc := 19) (p_X10_17 _ rfl rfl) (Or.inr ⟨_, rfl⟩) dX10_init_19 (fun h6 => ?_)
  refine ev_step (st_aload_n (pc := 22) (j := 0) dX10_init_22 rfl rfl) ?_
  refine ev_step (st_sipush (pc := 23) dX10_init_23 ns_403) ?_
  refine ev_newa (pc := 26) (t := 1) (ty := .int) ac_int rfl (Or.inl rfl) dX10_init_26 (fun a7 h8 => ?_)
  refine ev_putR (pc := 28) (p_X10_20 _ rfl rfl) (Or.inr ⟨_, rfl⟩) dX10_init_28 (fun h9 => ?_)
  refine ev_step (st_aload_n (pc := 31) (j := 0) dX10_init_31 rfl rfl) ?_
  refine ev_step (st_sipush (pc := 32) dX10_init_32 ns_403) ?_
  refine ev_newa (pc := 35) (t := 1) (ty := .int) ac_int rfl (Or.inl rfl) dX10_init_35 (fun a10 h11 => ?_)
  refine ev_putR (pc := 37) (p_X10_24 _ rfl rfl) (Or.inr ⟨_, rfl⟩) dX10_init_37 (fun h12 => ?_)
  refine ev_step (st_aload_n (pc := 40) (j := 0) dX10_init_40 rfl rfl) ?_
  refine ev_step (st_sipush (pc := 41) dX10_init_41 ns_403) ?_
  refine ev_newa (pc := 44) (t := 1) (ty := .int) ac_int rfl (Or.inl rfl) dX10_init_44 (fun a13 h14 => ?_)
  refine ev_putR (pc := 46) (p_X10_27 _ rfl rfl) (Or.inr ⟨_, rfl⟩) dX10_init_46 (fun h15 => ?_)
  refine ev_step (st_aload_n (pc := 49) (j := 0) dX10_init_49 rfl rfl) ?_
  refine ev_step (st_sipush (pc := 50) dX10_init_50 ns_403) ?_
  refine ev_newa (pc := 53) (t := 4) (ty := .long) ac_long rfl (Or.inr (Or.inr (Or.inr rfl))) dX10_init_53 (fun a16 h17 => ?_)
  refine ev_putR (pc := 55) (p_X10_30 _ rfl rfl) (Or.inr ⟨_, rfl⟩) dX10_init_55 (fun h18 => ?_)
  refine ev_step (st_aload_n (pc := 58) (j := 0) dX10_init_58 rfl rfl) ?_
  refine ev_step (st_bipush (pc := 59) dX10_init_59 nb_22) ?_
  refine ev_newa (pc := 61) (t := 4) (ty := .long) ac_long rfl (Or.inr (Or.inr (Or.inr rfl))) dX10_init_61 (fun a19 h20 => ?_)
  refine ev_putR (pc := 63) (p_X10_34 _ rfl rfl) (Or.inr ⟨_, rfl⟩) dX10_init_63 (fun h21 => ?_)
  refine ev_step (st_aload_n (pc := 66) (j := 0) dX10_init_66 rfl rfl) ?_
  refine ev_step (st_iconst (pc := 67) dX10_init_67 ni_m1) ?_
  refine ev_putI (pc := 68) (p_X10_37 _ rfl) rfl dX10_init_68 (fun h22 => ?_)
  refine ev_step (st_aload_n (pc := 71) (j := 0) dX10_init_71 rfl rfl) ?_
  refine ev_step (st_bipush (pc := 72) dX10_init_72 nb_12) ?_
  refine ev_newa (pc := 74) (t := 4) (ty := .long) ac_long rfl (Or.inr (Or.inr (Or.inr rfl))) dX10_init_74 (fun a23 h24 => ?_)
  refine ev_putR (pc := 76) (p_X10_40 _ rfl rfl) (Or.inr ⟨_, rfl⟩) dX10_init_76 (fun h25 => ?_)
  refine ev_step (st_aload_n (pc := 79) (j := 0) dX10_init_79 rfl rfl) ?_
  refine ev_step (st_bipush (pc := 80) dX10_init_80 nb_12) ?_
  refine ev_newa (pc := 82) (t := 1) (ty := .int) ac_int rfl (Or.inl rfl) dX10_init_82 (fun a26 h27 => ?_)
  refine ev_putR (pc := 84) (p_X10_43 _ rfl rfl) (Or.inr ⟨_, rfl⟩) dX10_init_84 (fun h28 => ?_)
  refine ev_step (st_aload_n (pc := 87) (j := 0) dX10_init_87 rfl rfl) ?_
  refine ev_step (st_iconst (pc := 88) dX10_init_88 ni_2) ?_
  refine ev_newa (pc := 89) (t := 1) (ty := .int) ac_int rfl (Or.inl rfl) dX10_init_89 (fun a29 h30 => ?_)
  refine ev_putR (pc := 91) (p_X10_46 _ rfl rfl) (Or.inr ⟨_, rfl⟩) dX10_init_91 (fun h31 => ?_)
  refine ev_step (st_aload_n (pc := 94) (j := 0) dX10_init_94 rfl rfl) ?_
  refine ev_step (st_bipush (pc := 95) dX10_init_95 nb_12) ?_
  refine ev_newa (pc := 97) (t := 1) (ty := .int) ac_int rfl (Or.inl rfl) dX10_init_97 (fun a32 h33 => ?_)
  refine ev_putR (pc := 99) (p_X10_49 _ rfl rfl) (Or.inr ⟨_, rfl⟩) dX10_init_99 (fun h34 => ?_)
  refine ev_step (st_aload_n (pc := 102) (j := 0) dX10_init_102 rfl rfl) ?_
  refine ev_step (st_bipush (pc := 103) dX10_init_103 nb_12) ?_
  refine ev_newa (pc := 105) (t := 1) (ty := .int) ac_int rfl (Or.inl rfl) dX10_init_105 (fun a35 h36 => ?_)
  refine ev_putR (pc := 107) (p_X10_52 _ rfl rfl) (Or.inr ⟨_, rfl⟩) dX10_init_107 (fun h37 => ?_)
  refine ev_step (st_aload_n (pc := 110) (j := 0) dX10_init_110 rfl rfl) ?_
  refine ev_step (st_iconst (pc := 111) dX10_init_111 ni_2) ?_
  refine ev_newa (pc := 112) (t := 1) (ty := .int) ac_int rfl (Or.inl rfl) dX10_init_112 (fun a38 h39 => ?_)
  refine ev_putR (pc := 114) (p_X10_55 _ rfl rfl) (Or.inr ⟨_, rfl⟩) dX10_init_114 (fun h40 => ?_)
  refine ev_step (st_aload_n (pc := 117) (j := 0) dX10_init_117 rfl rfl) ?_
  refine ev_step (st_bipush (pc := 118) dX10_init_118 nb_12) ?_
  refine ev_newa (pc := 120) (t := 1) (ty := .int) ac_int rfl (Or.inl rfl) dX10_init_120 (fun a41 h42 => ?_)
  refine ev_putR (pc := 122) (p_X10_58 _ rfl rfl) (Or.inr ⟨_, rfl⟩) dX10_init_122 (fun h43 => ?_)
  refine ev_step (st_aload_n (pc := 125) (j := 0) dX10_init_125 rfl rfl) ?_
  refine ev_step (st_bipush (pc := 126) dX10_init_126 nb_12) ?_
  refine ev_newa (pc := 128) (t := 1) (ty := .int) ac_int rfl (Or.inl rfl) dX10_init_128 (fun a44 h45 => ?_)
  refine ev_putR (pc := 130) (p_X10_61 _ rfl rfl) (Or.inr ⟨_, rfl⟩) dX10_init_130 (fun h46 => ?_)
  refine ev_step (st_aload_n (pc := 133) (j := 0) dX10_init_133 rfl rfl) ?_
  refine ev_step (st_bipush (pc := 134) dX10_init_134 nb_12) ?_
  refine ev_newa (pc := 136) (t := 1) (ty := .int) ac_int rfl (Or.inl rfl) dX10_init_136 (fun a47 h48 => ?_)
  refine ev_putR (pc := 138) (p_X10_64 _ rfl rfl) (Or.inr ⟨_, rfl⟩) dX10_init_138 (fun h49 => ?_)
  refine ev_step (st_aload_n (pc := 141) (j := 0) dX10_init_141 rfl rfl) ?_
  refine ev_step (st_bipush (pc := 142) dX10_init_142 nb_12) ?_
  refine ev_newa (pc := 144) (t := 1) (ty := .int) ac_int rfl (Or.inl rfl) dX10_init_144 (fun a50 h51 => ?_)
  refine ev_putR (pc := 146) (p_X10_67 _ rfl rfl) (Or.inr ⟨_, rfl⟩) dX10_init_146 (fun h52 => ?_)
  refine ev_step (st_aload_n (pc := 149) (j := 0) dX10_init_149 rfl rfl) ?_
  refine ev_step (st_iconst (pc := 150) dX10_init_150 ni_2) ?_
  refine ev_newa (pc := 151) (t := 1) (ty := .int) ac_int rfl (Or.inl rfl) dX10_init_151 (fun a53 h54 => ?_)
  refine ev_putR (pc := 153) (p_X10_70 _ rfl rfl) (Or.inr ⟨_, rfl⟩) dX10_init_153 (fun h55 => ?_)
  refine ev_step (st_aload_n (pc := 156) (j := 0) dX10_init_156 rfl rfl) ?_
  refine ev_step (st_iconst (pc := 157) dX10_init_157 ni_2) ?_
  refine ev_newa (pc := 158) (t := 1) (ty := .int) ac_int rfl (Or.inl rfl) dX10_init_158 (fun a56 h57 => ?_)
  refine ev_putR (pc := 160) (p_X10_73 _ rfl rfl) (Or.inr ⟨_, rfl⟩) dX10_init_160 (fun h58 => ?_)
  refine ev_step (st_aload_n (pc := 163) (j := 0) dX10_init_163 rfl rfl) ?_
  refine ev_step (st_iconst (pc := 164) dX10_init_164 ni_2) ?_
  refine ev_newa (pc := 165) (t := 1) (ty := .int) ac_int rfl (Or.inl rfl) dX10_init_165 (fun a59 h60 => ?_)
  refine ev_putR (pc := 167) (p_X10_76 _ rfl rfl) (Or.inr ⟨_, rfl⟩) dX10_init_167 (fun h61 => ?_)
  refine ev_step (st_aload_n (pc := 170) (j := 0) dX10_init_170 rfl rfl) ?_
  refine ev_step (st_iconst (pc := 171) dX10_init_171 ni_2) ?_
  refine ev_newa (pc := 172) (t := 1) (ty := .int) ac_int rfl (Or.inl rfl) dX10_init_172 (fun a62 h63 => ?_)
  refine ev_putR (pc := 174) (p_X10_79 _ rfl rfl) (Or.inr ⟨_, rfl⟩) dX10_init_174 (fun h64 => ?_)
  refine ev_step (st_aload_n (pc := 177) (j := 0) dX10_init_177 rfl rfl) ?_
  refine ev_step (st_bipush (pc := 178) dX10_init_178 nb_8) ?_
  refine ev_newa (pc := 180) (t := 1) (ty := .int) ac_int rfl (Or.inl rfl) dX10_init_180 (fun a65 h66 => ?_)
  refine ev_putR (pc := 182) (p_X10_82 _ rfl rfl) (Or.inr ⟨_, rfl⟩) dX10_init_182 (fun h67 => ?_)
  refine ev_step (st_aload_n (pc := 185) (j := 0) dX10_init_185 rfl rfl) ?_
  refine ev_step (st_bipush (pc := 186) dX10_init_186 nb_8) ?_
  refine ev_newa (pc := 188) (t := 1) (ty := .int) ac_int rfl (Or.inl rfl) dX10_init_188 (fun a68 h69 => ?_)
  refine ev_putR (pc := 190) (p_X10_85 _ rfl rfl) (Or.inr ⟨_, rfl⟩) dX10_init_190 (fun h70 => ?_)
  refine ev_step (st_aload_n (pc := 193) (j := 0) dX10_init_193 rfl rfl) ?_
  refine ev_step (st_sipush (pc := 194) dX10_init_194 ns_260) ?_
  refine ev_newa (pc := 197) (t := 3) (ty := .boolean) ac_boolean rfl (Or.inr (Or.inr (Or.inl rfl))) dX10_init_197 (fun a71 h72 => ?_)
  refine ev_putR (pc := 199) (p_X10_88 _ rfl rfl) (Or.inr ⟨_, rfl⟩) dX10_init_199 (fun h73 => ?_)
  refine ev_step (st_aload_n (pc := 202) (j := 0) dX10_init_202 rfl rfl) ?_
  refine ev_step (st_sipush (pc := 203) dX10_init_203 ns_260) ?_
  refine ev_newa (pc := 206) (t := 1) (ty := .int) ac_int rfl (Or.inl rfl) dX10_init_206 (fun a74 h75 => ?_)
  refine ev_putR (pc := 208) (p_X10_92 _ rfl rfl) (Or.inr ⟨_, rfl⟩) dX10_init_208 (fun h76 => ?_)
  refine ev_step (st_aload_n (pc := 211) (j := 0) dX10_init_211 rfl rfl) ?_
  refine ev_step (st_sipush (pc := 212) dX10_init_212 ns_260) ?_
  refine ev_newa (pc := 215) (t := 1) (ty := .int) ac_int rfl (Or.inl rfl) dX10_init_215 (fun a77 h78 => ?_)
  refine ev_putR (pc := 217) (p_X10_95 _ rfl rfl) (Or.inr ⟨_, rfl⟩) dX10_init_217 (fun h79 => ?_)
  refine ev_step (st_aload_n (pc := 220) (j := 0) dX10_init_220 rfl rfl) ?_
  refine ev_step (st_sipush (pc := 221) dX10_init_221 ns_260) ?_
  refine ev_newa (pc := 224) (t := 1) (ty := .int) ac_int rfl (Or.inl rfl) dX10_init_224 (fun a80 h81 => ?_)
  refine ev_putR (pc := 226) (p_X10_98 _ rfl rfl) (Or.inr ⟨_, rfl⟩) dX10_init_226 (fun h82 => ?_)
  refine ev_step (st_aload_n (pc := 229) (j := 0) dX10_init_229 rfl rfl) ?_
  refine ev_step (st_sipush (pc := 230) dX10_init_230 ns_260) ?_
  refine ev_newa (pc := 233) (t := 1) (ty := .int) ac_int rfl (Or.inl rfl) dX10_init_233 (fun a83 h84 => ?_)
  refine ev_putR (pc := 235) (p_X10_101 _ rfl rfl) (Or.inr ⟨_, rfl⟩) dX10_init_235 (fun h85 => ?_)
  refine ev_step (st_aload_n (pc := 238) (j := 0) dX10_init_238 rfl rfl) ?_
  refine ev_step (st_sipush (pc := 239) dX10_init_239 ns_840) ?_
  refine ev_newa (pc := 242) (t := 1) (ty := .int) ac_int rfl (Or.inl rfl) dX10_init_242 (fun a86 h87 => ?_)
  refine ev_putR (pc := 244) (p_X10_104 _ rfl rfl) (Or.inr ⟨_, rfl⟩) dX10_init_244 (fun h88 => ?_)
  refine ev_step (st_aload_n (pc := 247) (j := 0) dX10_init_247 rfl rfl) ?_
  refine ev_step (st_sipush (pc := 248) dX10_init_248 ns_840) ?_
  refine ev_newa (pc := 251) (t := 1) (ty := .int) ac_int rfl (Or.inl rfl) dX10_init_251 (fun a89 h90 => ?_)
  refine ev_putR (pc := 253) (p_X10_107 _ rfl rfl) (Or.inr ⟨_, rfl⟩) dX10_init_253 (fun h91 => ?_)
  refine ev_step (st_aload_n (pc := 256) (j := 0) dX10_init_256 rfl rfl) ?_
  refine ev_step (st_bipush (pc := 257) dX10_init_257 nb_64) ?_
  refine ev_newa (pc := 259) (t := 1) (ty := .int) ac_int rfl (Or.inl rfl) dX10_init_259 (fun a92 h93 => ?_)
  refine ev_putR (pc := 261) (p_X10_110 _ rfl rfl) (Or.inr ⟨_, rfl⟩) dX10_init_261 (fun h94 => ?_)
  refine ev_step (st_aload_n (pc := 264) (j := 0) dX10_init_264 rfl rfl) ?_
  refine ev_step (st_bipush (pc := 265) dX10_init_265 nb_9) ?_
  refine ev_newa (pc := 267) (t := 1) (ty := .int) ac_int rfl (Or.inl rfl) dX10_init_267 (fun a95 h96 => ?_)
  refine ev_putR (pc := 269) (p_X10_113 _ rfl rfl) (Or.inr ⟨_, rfl⟩) dX10_init_269 (fun h97 => ?_)
  refine ev_step (st_aload_n (pc := 272) (j := 0) dX10_init_272 rfl rfl) ?_
  refine ev_step (st_sipush (pc := 273) dX10_init_273 ns_400) ?_
  refine ev_newa (pc := 276) (t := 1) (ty := .int) ac_int rfl (Or.inl rfl) dX10_init_276 (fun a98 h99 => ?_)
  refine ev_putR (pc := 278) (p_X10_116 _ rfl rfl) (Or.inr ⟨_, rfl⟩) dX10_init_278 (fun h100 => ?_)
  refine ev_step (st_aload_n (pc := 281) (j := 0) dX10_init_281 rfl rfl) ?_
  refine ev_step (st_bipush (pc := 282) dX10_init_282 nb_33) ?_
  refine ev_newa (pc := 284) (t := 1) (ty := .int) ac_int rfl (Or.inl rfl) dX10_init_284 (fun a101 h102 => ?_)
  refine ev_putR (pc := 286) (p_X10_119 _ rfl rfl) (Or.inr ⟨_, rfl⟩) dX10_init_286 (fun h103 => ?_)
  refine ev_step (st_aload_n (pc := 289) (j := 0) dX10_init_289 rfl rfl) ?_
  refine ev_step (st_bipush (pc := 290) dX10_init_290 nb_33) ?_
  refine ev_newa (pc := 292) (t := 1) (ty := .int) ac_int rfl (Or.inl rfl) dX10_init_292 (fun a104 h105 => ?_)
  refine ev_putR (pc := 294) (p_X10_122 _ rfl rfl) (Or.inr ⟨_, rfl⟩) dX10_init_294 (fun h106 => ?_)
  refine ev_step (st_aload_n (pc := 297) (j := 0) dX10_init_297 rfl rfl) ?_
  refine ev_step (st_bipush (pc := 298) dX10_init_298 nb_6) ?_
  refine ev_newa (pc := 300) (t := 3) (ty := .boolean) ac_boolean rfl (Or.inr (Or.inr (Or.inl rfl))) dX10_init_300 (fun a107 h108 => ?_)
  refine ev_putR (pc := 302) (p_X10_125 _ rfl rfl) (Or.inr ⟨_, rfl⟩) dX10_init_302 (fun h109 => ?_)
  refine ev_step (st_aload_n (pc := 305) (j := 0) dX10_init_305 rfl rfl) ?_
  refine ev_step (st_bipush (pc := 306) dX10_init_306 nb_6) ?_
  refine ev_newa (pc := 308) (t := 1) (ty := .int) ac_int rfl (Or.inl rfl) dX10_init_308 (fun a110 h111 => ?_)
  refine ev_putR (pc := 310) (p_X10_128 _ rfl rfl) (Or.inr ⟨_, rfl⟩) dX10_init_310 (fun h112 => ?_)
  refine ev_step (st_aload_n (pc := 313) (j := 0) dX10_init_313 rfl rfl) ?_
  refine ev_step (st_sipush (pc := 314) dX10_init_314 ns_1320) ?_
  refine ev_newa (pc := 317) (t := 1) (ty := .int) ac_int rfl (Or.inl rfl) dX10_init_317 (fun a113 h114 => ?_)
  refine ev_putR (pc := 319) (p_X10_131 _ rfl rfl) (Or.inr ⟨_, rfl⟩) dX10_init_319 (fun h115 => ?_)
  refine ev_step (st_aload_n (pc := 322) (j := 0) dX10_init_322 rfl rfl) ?_
  refine ev_step (st_bipush (pc := 323) dX10_init_323 nb_6) ?_
  refine ev_newa (pc := 325) (t := 1) (ty := .int) ac_int rfl (Or.inl rfl) dX10_init_325 (fun a116 h117 => ?_)
  refine ev_putR (pc := 327) (p_X10_134 _ rfl rfl) (Or.inr ⟨_, rfl⟩) dX10_init_327 (fun h118 => ?_)
  refine ev_step (st_aload_n (pc := 330) (j := 0) dX10_init_330 rfl rfl) ?_
  refine ev_step (st_bipush (pc := 331) dX10_init_331 nb_20) ?_
  refine ev_newa (pc := 333) (t := 1) (ty := .int) ac_int rfl (Or.inl rfl) dX10_init_333 (fun a119 h120 => ?_)
  refine ev_putR (pc := 335) (p_X10_137 _ rfl rfl) (Or.inr ⟨_, rfl⟩) dX10_init_335 (fun h121 => ?_)
  refine ev_step (st_aload_n (pc := 338) (j := 0) dX10_init_338 rfl rfl) ?_
  refine ev_step (st_bipush (pc := 339) dX10_init_339 nb_20) ?_
  refine ev_newa (pc := 341) (t := 1) (ty := .int) ac_int rfl (Or.inl rfl) dX10_init_341 (fun a122 h123 => ?_)
  refine ev_putR (pc := 343) (p_X10_140 _ rfl rfl) (Or.inr ⟨_, rfl⟩) dX10_init_343 (fun h124 => ?_)
  refine ev_step (st_aload_n (pc := 346) (j := 0) dX10_init_346 rfl rfl) ?_
  refine ev_step (st_iconst (pc := 347) dX10_init_347 ni_3) ?_
  refine ev_newa (pc := 348) (t := 3) (ty := .boolean) ac_boolean rfl (Or.inr (Or.inr (Or.inl rfl))) dX10_init_348 (fun a125 h126 => ?_)
  refine ev_putR (pc := 350) (p_X10_143 _ rfl rfl) (Or.inr ⟨_, rfl⟩) dX10_init_350 (fun h127 => ?_)
  refine ev_step (st_aload_n (pc := 353) (j := 0) dX10_init_353 rfl rfl) ?_
  refine ev_step (st_bipush (pc := 354) dX10_init_354 nb_99) ?_
  refine ev_newa (pc := 356) (t := 1) (ty := .int) ac_int rfl (Or.inl rfl) dX10_init_356 (fun a128 h129 => ?_)
  refine ev_putR (pc := 358) (p_X10_146 _ rfl rfl) (Or.inr ⟨_, rfl⟩) dX10_init_358 (fun h130 => ?_)
  refine ev_step (st_aload_n (pc := 361) (j := 0) dX10_init_361 rfl rfl) ?_
  refine ev_step (st_iconst (pc := 362) dX10_init_362 ni_0) ?_
  refine ev_ck (fun ha hS => ?_)
  refine ev_callV (iv_V (As := [.int ((0 : Int32))]) (st := []) (pc := 363) rfl m_X10_plain l_X10_149 i_X10_plain e_X10_plain ha hS rfl (Nat.le_of_ble_eq_true rfl) rfl dX10_init_363) (tX10_plain G fu v0 ((0 : Int32)) h130) (by decide) (by decide) (fun h131 => ?_)
  refine ev_step (st_aload_n (pc := 366) (j := 0) dX10_init_366 rfl rfl) ?_
  refine ev_step (st_iconst (pc := 367) dX10_init_367 ni_1) ?_
  refine ev_ck (fun ha hS => ?_)
  refine ev_callV (iv_V (As := [.int ((1 : Int32))]) (st := []) (pc := 368) rfl m_X10_plain l_X10_149 i_X10_plain e_X10_plain ha hS rfl (Nat.le_of_ble_eq_true rfl) rfl dX10_init_368) (tX10_plain G fu v0 ((1 : Int32)) h131) (by decide) (by decide) (fun h132 => ?_)
  refine ev_step (st_aload_n (pc := 371) (j := 0) dX10_init_371 rfl rfl) ?_
  refine ev_getR (pc := 372) k_X10_34 rfl dX10_init_372 (fun a133 => ?_)
  refine ev_step (st_iconst (pc := 375) dX10_init_375 ni_0) ?_
  refine ev_step (st_bipush (pc := 376) dX10_init_376 nb_114) ?_
  refine ev_step (st_bipush (pc := 378) dX10_init_378 nb_111) ?_
  refine ev_step (st_bipush (pc := 380) dX10_init_380 nb_108) ?_
  refine ev_step (st_bipush (pc := 382) dX10_init_382 nb_101) ?_
  refine ev_step (st_iconst (pc := 384) dX10_init_384 ni_0) ?_
  refine ev_step (st_iconst (pc := 385) dX10_init_385 ni_0) ?_
  refine ev_step (st_iconst (pc := 386) dX10_init_386 ni_0) ?_
  refine ev_callL (iv_S (As := [.int ((114 : Int32)), .int ((111 : Int32)), .int ((108 : Int32)), .int ((101 : Int32)), .int ((0 : Int32)), .int ((0 : Int32)), .int ((0 : Int32))]) (st := [.int ((0 : Int32)), .ref (gB G + a133)]) (pc := 387) m_X10_word l_X10_153 z_X10_word rfl (Nat.le_of_ble_eq_true rfl) rfl dX10_init_387) (tX10_word G fu ((114 : Int32)) ((111 : Int32)) ((108 : Int32)) ((101 : Int32)) ((0 : Int32)) ((0 : Int32)) ((0 : Int32)) h132) (by decide) (by decide) (fun x135 h134 => ?_)
  refine ev_stj (pc := 390) dX10_init_390 (fun h136 => ?_)
  refine ev_step (st_aload_n (pc := 391) (j := 0) dX10_init_391 rfl rfl) ?_
  refine ev_getR (pc := 392) k_X10_34 rfl dX10_init_392 (fun a137 => ?_)
  refine ev_step (st_iconst (pc := 395) dX10_init_395 ni_1) ?_
  refine ev_step (st_bipush (pc := 396) dX10_init_396 nb_108) ?_
  refine ev_step (st_bipush (pc := 398) dX10_init_398 nb_105) ?_
  refine ev_step (st_bipush (pc := 400) dX10_init_400 nb_115) ?_
  refine ev_step (st_bipush (pc := 402) dX10_init_402 nb_116) ?_
  refine ev_step (st_bipush (pc := 404) dX10_init_404 nb_101) ?_
  refine ev_step (st_bipush (pc := 406) dX10_init_406 nb_110) ?_
  refine ev_step (st_bipush (pc := 408) dX10_init_408 nb_101) ?_
  refine ev_callL (iv_S (As := [.int ((108 : Int32)), .int ((105 : Int32)), .int ((115 : Int32)), .int ((116 : Int32)), .int ((101 : Int32)), .int ((110 : Int32)), .int ((101 : Int32))]) (st := [.int ((1 : Int32)), .ref (gB G + a137)]) (pc := 410) m_X10_word l_X10_153 z_X10_word rfl (Nat.le_of_ble_eq_true rfl) rfl dX10_init_410) (tX10_word G fu ((108 : Int32)) ((105 : Int32)) ((115 : Int32)) ((116 : Int32)) ((101 : Int32)) ((110 : Int32)) ((101 : Int32)) h136) (by decide) (by decide) (fun x139 h138 => ?_)
  refine ev_step (st_bipush (pc := 413) dX10_init_413 nb_114) ?_
  refine ev_callL (iv_S (As := [.long x139, .int ((114 : Int32))]) (st := [.int ((1 : Int32)), .ref (gB G + a137)]) (pc := 415) m_X10_appends l_X10_157 z_X10_appends rfl (Nat.le_of_ble_eq_true rfl) rfl dX10_init_415) (tX10_appends G fu x139 ((114 : Int32)) h138) (by decide) (by decide) (fun x141 h140 => ?_)
  refine ev_stj (pc := 418) dX10_init_418 (fun h142 => ?_)
  refine ev_step (st_aload_n (pc := 419) (j := 0) dX10_init_419 rfl rfl) ?_
  refine ev_getR (pc := 420) k_X10_34 rfl dX10_init_420 (fun a143 => ?_)
  refine ev_step (st_iconst (pc := 423) dX10_init_423 ni_2) ?_
  refine ev_step (st_bipush (pc := 424) dX10_init_424 nb_114) ?_
  refine ev_step (st_bipush (pc := 426) dX10_init_426 nb_101) ?_
  refine ev_step (st_bipush (pc := 428) dX10_init_428 nb_97) ?_
  refine ev_step (st_bipush (pc := 430) dX10_init_430 nb_108) ?_
  refine ev_step (st_bipush (pc := 432) dX10_init_432 nb_108) ?_
  refine ev_step (st_bipush (pc := 434) dX10_init_434 nb_121) ?_
  refine ev_step (st_iconst (pc := 436) dX10_init_436 ni_0) ?_
  refine ev_callL (iv_S (As := [.int ((114 : Int32)), .int ((101 : Int32)), .int ((97 : Int32)), .int ((108 : Int32)), .int ((108 : Int32)), .int ((121 : Int32)), .int ((0 : Int32))]) (st := [.int ((2 : Int32)), .ref (gB G + a143)]) (pc := 437) m_X10_word l_X10_153 z_X10_word rfl (Nat.le_of_ble_eq_true rfl) rfl dX10_init_437) (tX10_word G fu ((114 : Int32)) ((101 : Int32)) ((97 : Int32)) ((108 : Int32)) ((108 : Int32)) ((121 : Int32)) ((0 : Int32)) h142) (by decide) (by decide) (fun x145 h144 => ?_)
  refine ev_stj (pc := 440) dX10_init_440 (fun h146 => ?_)
  refine ev_step (st_aload_n (pc := 441) (j := 0) dX10_init_441 rfl rfl) ?_
  refine ev_getR (pc := 442) k_X10_34 rfl dX10_init_442 (fun a147 => ?_)
  refine ev_step (st_iconst (pc := 445) dX10_init_445 ni_3) ?_
  refine ev_step (st_bipush (pc := 446) dX10_init_446 nb_115) ?_
  refine ev_step (st_bipush (pc := 448) dX10_init_448 nb_97) ?_
  refine ev_step (st_bipush (pc := 450) dX10_init_450 nb_121) ?_
  refine ev_step (st_bipush (pc := 452) dX10_init_452 nb_115) ?_
  refine ev_step (st_iconst (pc := 454) dX10_init_454 ni_0) ?_
  refine ev_step (st_iconst (pc := 455) dX10_init_455 ni_0) ?_
  refine ev_step (st_iconst (pc := 456) dX10_init_456 ni_0) ?_
  refine ev_callL (iv_S (As := [.int ((115 : Int32)), .int ((97 : Int32)), .int ((121 : Int32)), .int ((115 : Int32)), .int ((0 : Int32)), .int ((0 : Int32)), .int ((0 : Int32))]) (st := [.int ((3 : Int32)), .ref (gB G + a147)]) (pc := 457) m_X10_word l_X10_153 z_X10_word rfl (Nat.le_of_ble_eq_true rfl) rfl dX10_init_457) (tX10_word G fu ((115 : Int32)) ((97 : Int32)) ((121 : Int32)) ((115 : Int32)) ((0 : Int32)) ((0 : Int32)) ((0 : Int32)) h146) (by decide) (by decide) (fun x149 h148 => ?_)
  refine ev_stj (pc := 460) dX10_init_460 (fun h150 => ?_)
  refine ev_step (st_aload_n (pc := 461) (j := 0) dX10_init_461 rfl rfl) ?_
  refine ev_getR (pc := 462) k_X10_34 rfl dX10_init_462 (fun a151 => ?_)
  refine ev_step (st_iconst (pc := 465) dX10_init_465 ni_4) ?_
  refine ev_step (st_bipush (pc := 466) dX10_init_466 nb_116) ?_
  refine ev_step (st_bipush (pc := 468) dX10_init_468 nb_114) ?_
  refine ev_step (st_bipush (pc := 470) dX10_init_470 nb_117) ?_
  refine ev_step (st_bipush (pc := 472) dX10_init_472 nb_115) ?_
  refine ev_step (st_bipush (pc := 474) dX10_init_474 nb_116) ?_
  refine ev_step (st_bipush (pc := 476) dX10_init_476 nb_115) ?_
  refine ev_step (st_iconst (pc := 478) dX10_init_478 ni_0) ?_
  refine ev_callL (iv_S (As := [.int ((116 : Int32)), .int ((114 : Int32)), .int ((117 : Int32)), .int ((115 : Int32)), .int ((116 : Int32)), .int ((115 : Int32)), .int ((0 : Int32))]) (st := [.int ((4 : Int32)), .ref (gB G + a151)]) (pc := 479) m_X10_word l_X10_153 z_X10_word rfl (Nat.le_of_ble_eq_true rfl) rfl dX10_init_479) (tX10_word G fu ((116 : Int32)) ((114 : Int32)) ((117 : Int32)) ((115 : Int32)) ((116 : Int32)) ((115 : Int32)) ((0 : Int32)) h150) (by decide) (by decide) (fun x153 h152 => ?_)
  refine ev_stj (pc := 482) dX10_init_482 (fun h154 => ?_)
  refine ev_step (st_aload_n (pc := 483) (j := 0) dX10_init_483 rfl rfl) ?_
  refine ev_getR (pc := 484) k_X10_34 rfl dX10_init_484 (fun a155 => ?_)
  refine ev_step (st_iconst (pc := 487) dX10_init_487 ni_5) ?_
  refine ev_step (st_bipush (pc := 488) dX10_init_488 nb_109) ?_
  refine ev_step (st_bipush (pc := 490) dX10_init_490 nb_111) ?_
  refine ev_step (st_bipush (pc := 492) dX10_init_492 nb_118) ?_
  refine ev_step (st_bipush (pc := 494) dX10_init_494 nb_101) ?_
  refine ev_step (st_bipush (pc := 496) dX10_init_496 nb_115) ?_
  refine ev_step (st_iconst (pc := 498) dX10_init_498 ni_0) ?_
  refine ev_step (st_iconst (pc := 499) dX10_init_499 ni_0) ?_
  refine ev_callL (iv_S (As := [.int ((109 : Int32)), .int ((111 : Int32)), .int ((118 : Int32)), .int ((101 : Int32)), .int ((115 : Int32)), .int ((0 : Int32)), .int ((0 : Int32))]) (st := [.int ((5 : Int32)), .ref (gB G + a155)]) (pc := 500) m_X10_word l_X10_153 z_X10_word rfl (Nat.le_of_ble_eq_true rfl) rfl dX10_init_500) (tX10_word G fu ((109 : Int32)) ((111 : Int32)) ((118 : Int32)) ((101 : Int32)) ((115 : Int32)) ((0 : Int32)) ((0 : Int32)) h154) (by decide) (by decide) (fun x157 h156 => ?_)
  refine ev_stj (pc := 503) dX10_init_503 (fun h158 => ?_)
  refine ev_step (st_aload_n (pc := 504) (j := 0) dX10_init_504 rfl rfl) ?_
  refine ev_getR (pc := 505) k_X10_34 rfl dX10_init_505 (fun a159 => ?_)
  refine ev_step (st_bipush (pc := 508) dX10_init_508 nb_6) ?_
  refine ev_step (st_bipush (pc := 510) dX10_init_510 nb_114) ?_
  refine ev_step (st_bipush (pc := 512) dX10_init_512 nb_105) ?_
  refine ev_step (st_bipush (pc := 514) dX10_init_514 nb_110) ?_
  refine ev_step (st_bipush (pc := 516) dX10_init_516 nb_103) ?_
  refine ev_step (st_bipush (pc := 518) dX10_init_518 nb_115) ?_
  refine ev_step (st_iconst (pc := 520) dX10_init_520 ni_0) ?_
  refine ev_step (st_iconst (pc := 521) dX10_init_521 ni_0) ?_
  refine ev_callL (iv_S (As := [.int ((114 : Int32)), .int ((105 : Int32)), .int ((110 : Int32)), .int ((103 : Int32)), .int ((115 : Int32)), .int ((0 : Int32)), .int ((0 : Int32))]) (st := [.int ((6 : Int32)), .ref (gB G + a159)]) (pc := 522) m_X10_word l_X10_153 z_X10_word rfl (Nat.le_of_ble_eq_true rfl) rfl dX10_init_522) (tX10_word G fu ((114 : Int32)) ((105 : Int32)) ((110 : Int32)) ((103 : Int32)) ((115 : Int32)) ((0 : Int32)) ((0 : Int32)) h158) (by decide) (by decide) (fun x161 h160 => ?_)
  refine ev_stj (pc := 525) dX10_init_525 (fun h162 => ?_)
  refine ev_step (st_aload_n (pc := 526) (j := 0) dX10_init_526 rfl rfl) ?_
  refine ev_getR (pc := 527) k_X10_34 rfl dX10_init_527 (fun a163 => ?_)
  refine ev_step (st_bipush (pc := 530) dX10_init_530 nb_7) ?_
  refine ev_step (st_bipush (pc := 532) dX10_init_532 nb_99) ?_
  refine ev_step (st_bipush (pc := 534) dX10_init_534 nb_114) ?_
  refine ev_step (st_bipush (pc := 536) dX10_init_536 nb_97) ?_
  refine ev_step (st_bipush (pc := 538) dX10_init_538 nb_99) ?_
  refine ev_step (st_bipush (pc := 540) dX10_init_540 nb_107) ?_
  refine ev_step (st_bipush (pc := 542) dX10_init_542 nb_108) ?_
  refine ev_step (st_bipush (pc := 544) dX10_init_544 nb_101) ?_
  refine ev_callL (iv_S (As := [.int ((99 : Int32)), .int ((114 : Int32)), .int ((97 : Int32)), .int ((99 : Int32)), .int ((107 : Int32)), .int ((108 : Int32)), .int ((101 : Int32))]) (st := [.int ((7 : Int32)), .ref (gB G + a163)]) (pc := 546) m_X10_word l_X10_153 z_X10_word rfl (Nat.le_of_ble_eq_true rfl) rfl dX10_init_546) (tX10_word G fu ((99 : Int32)) ((114 : Int32)) ((97 : Int32)) ((99 : Int32)) ((107 : Int32)) ((108 : Int32)) ((101 : Int32)) h162) (by decide) (by decide) (fun x165 h164 => ?_)
  refine ev_stj (pc := 549) dX10_init_549 (fun h166 => ?_)
  refine ev_step (st_aload_n (pc := 550) (j := 0) dX10_init_550 rfl rfl) ?_
  refine ev_getR (pc := 551) k_X10_34 rfl dX10_init_551 (fun a167 => ?_)
  refine ev_step (st_bipush (pc := 554) dX10_init_554 nb_8) ?_
  refine ev_step (st_bipush (pc := 556) dX10_init_556 nb_113) ?_
  refine ev_step (st_bipush (pc := 558) dX10_init_558 nb_117) ?_
  refine ev_step (st_bipush (pc := 560) dX10_init_560 nb_105) ?_
  refine ev_step (st_bipush (pc := 562) dX10_init_562 nb_101) ?_
  refine ev_step (st_bipush (pc := 564) dX10_init_564 nb_116) ?_
  refine ev_step (st_iconst (pc := 566) dX10_init_566 ni_0) ?_
  refine ev_step (st_iconst (pc := 567) dX10_init_567 ni_0) ?_
  refine ev_callL (iv_S (As := [.int ((113 : Int32)), .int ((117 : Int32)), .int ((105 : Int32)), .int ((101 : Int32)), .int ((116 : Int32)), .int ((0 : Int32)), .int ((0 : Int32))]) (st := [.int ((8 : Int32)), .ref (gB G + a167)]) (pc := 568) m_X10_word l_X10_153 z_X10_word rfl (Nat.le_of_ble_eq_true rfl) rfl dX10_init_568) (tX10_word G fu ((113 : Int32)) ((117 : Int32)) ((105 : Int32)) ((101 : Int32)) ((116 : Int32)) ((0 : Int32)) ((0 : Int32)) h166) (by decide) (by decide) (fun x169 h168 => ?_)
  refine ev_stj (pc := 571) dX10_init_571 (fun h170 => ?_)
  refine ev_step (st_aload_n (pc := 572) (j := 0) dX10_init_572 rfl rfl) ?_
  refine ev_getR (pc := 573) k_X10_34 rfl dX10_init_573 (fun a171 => ?_)
  refine ev_step (st_bipush (pc := 576) dX10_init_576 nb_9) ?_
  refine ev_step (st_bipush (pc := 578) dX10_init_578 nb_115) ?_
  refine ev_step (st_bipush (pc := 580) dX10_init_580 nb_101) ?_
  refine ev_step (st_bipush (pc := 582) dX10_init_582 nb_101) ?_
  refine ev_step (st_bipush (pc := 584) dX10_init_584 nb_100) ?_
  refine ev_step (st_iconst (pc := 586) dX10_init_586 ni_0) ?_
  refine ev_step (st_iconst (pc := 587) dX10_init_587 ni_0) ?_
  refine ev_step (st_iconst (pc := 588) dX10_init_588 ni_0) ?_
  refine ev_callL (iv_S (As := [.int ((115 : Int32)), .int ((101 : Int32)), .int ((101 : Int32)), .int ((100 : Int32)), .int ((0 : Int32)), .int ((0 : Int32)), .int ((0 : Int32))]) (st := [.int ((9 : Int32)), .ref (gB G + a171)]) (pc := 589) m_X10_word l_X10_153 z_X10_word rfl (Nat.le_of_ble_eq_true rfl) rfl dX10_init_589) (tX10_word G fu ((115 : Int32)) ((101 : Int32)) ((101 : Int32)) ((100 : Int32)) ((0 : Int32)) ((0 : Int32)) ((0 : Int32)) h170) (by decide) (by decide) (fun x173 h172 => ?_)
  refine ev_stj (pc := 592) dX10_init_592 (fun h174 => ?_)
  refine ev_step (st_aload_n (pc := 593) (j := 0) dX10_init_593 rfl rfl) ?_
  refine ev_getR (pc := 594) k_X10_34 rfl dX10_init_594 (fun a175 => ?_)
  refine ev_step (st_bipush (pc := 597) dX10_init_597 nb_10) ?_
  refine ev_step (st_bipush (pc := 599) dX10_init_599 nb_105) ?_
  refine ev_step (st_bipush (pc := 601) dX10_init_601 nb_102) ?_
  refine ev_step (st_iconst (pc := 603) dX10_init_603 ni_0) ?_
  refine ev_step (st_iconst (pc := 604) dX10_init_604 ni_0) ?_
  refine ev_step (st_iconst (pc := 605) dX10_init_605 ni_0) ?_
  refine ev_step (st_iconst (pc := 606) dX10_init_606 ni_0) ?_
  refine ev_step (st_iconst (pc := 607) dX10_init_607 ni_0) ?_
  refine ev_callL (iv_S (As := [.int ((105 : Int32)), .int ((102 : Int32)), .int ((0 : Int32)), .int ((0 : Int32)), .int ((0 : Int32)), .int ((0 : Int32)), .int ((0 : Int32))]) (st := [.int ((10 : Int32)), .ref (gB G + a175)]) (pc := 608) m_X10_word l_X10_153 z_X10_word rfl (Nat.le_of_ble_eq_true rfl) rfl dX10_init_608) (tX10_word G fu ((105 : Int32)) ((102 : Int32)) ((0 : Int32)) ((0 : Int32)) ((0 : Int32)) ((0 : Int32)) ((0 : Int32)) h174) (by decide) (by decide) (fun x177 h176 => ?_)
  refine ev_stj (pc := 611) dX10_init_611 (fun h178 => ?_)
  refine ev_step (st_aload_n (pc := 612) (j := 0) dX10_init_612 rfl rfl) ?_
  refine ev_getR (pc := 613) k_X10_34 rfl dX10_init_613 (fun a179 => ?_)
  refine ev_step (st_bipush (pc := 616) dX10_init_616 nb_11) ?_
  refine ev_step (st_bipush (pc := 618) dX10_init_618 nb_116) ?_
  refine ev_step (st_bipush (pc := 620) dX10_init_620 nb_104) ?_
  refine ev_step (st_bipush (pc := 622) dX10_init_622 nb_101) ?_
  refine ev_step (st_bipush (pc := 624) dX10_init_624 nb_110) ?_
  refine ev_step (st_iconst (pc := 626) dX10_init_626 ni_0) ?_
  refine ev_step (st_iconst (pc := 627) dX10_init_627 ni_0) ?_
  refine ev_step (st_iconst (pc := 628) dX10_init_628 ni_0) ?_
  refine ev_callL (iv_S (As := [.int ((116 : Int32)), .int ((104 : Int32)), .int ((101 : Int32)), .int ((110 : Int32)), .int ((0 : Int32)), .int ((0 : Int32)), .int ((0 : Int32))]) (st := [.int ((11 : Int32)), .ref (gB G + a179)]) (pc := 629) m_X10_word l_X10_153 z_X10_word rfl (Nat.le_of_ble_eq_true rfl) rfl dX10_init_629) (tX10_word G fu ((116 : Int32)) ((104 : Int32)) ((101 : Int32)) ((110 : Int32)) ((0 : Int32)) ((0 : Int32)) ((0 : Int32)) h178) (by decide) (by decide) (fun x181 h180 => ?_)
  refine ev_stj (pc := 632) dX10_init_632 (fun h182 => ?_)
  refine ev_step (st_aload_n (pc := 633) (j := 0) dX10_init_633 rfl rfl) ?_
  refine ev_getR (pc := 634) k_X10_34 rfl dX10_init_634 (fun a183 => ?_)
  refine ev_step (st_bipush (pc := 637) dX10_init_637 nb_12) ?_
  refine ev_step (st_bipush (pc := 639) dX10_init_639 nb_101) ?_
  refine ev_step (st_bipush (pc := 641) dX10_init_641 nb_108) ?_
  refine ev_step (st_bipush (pc := 643) dX10_init_643 nb_115) ?_
  refine ev_step (st_bipush (pc := 645) dX10_init_645 nb_101) ?_
  refine ev_step (st_iconst (pc := 647) dX10_init_647 ni_0) ?_
  refine ev_step (st_iconst (pc := 648) dX10_init_648 ni_0) ?_
  refine ev_step (st_iconst (pc := 649) dX10_init_649 ni_0) ?_
  refine ev_callL (iv_S (As := [.int ((101 : Int32)), .int ((108 : Int32)), .int ((115 : Int32)), .int ((101 : Int32)), .int ((0 : Int32)), .int ((0 : Int32)), .int ((0 : Int32))]) (st := [.int ((12 : Int32)), .ref (gB G + a183)]) (pc := 650) m_X10_word l_X10_153 z_X10_word rfl (Nat.le_of_ble_eq_true rfl) rfl dX10_init_650) (tX10_word G fu ((101 : Int32)) ((108 : Int32)) ((115 : Int32)) ((101 : Int32)) ((0 : Int32)) ((0 : Int32)) ((0 : Int32)) h182) (by decide) (by decide) (fun x185 h184 => ?_)
  refine ev_stj (pc := 653) dX10_init_653 (fun h186 => ?_)
  refine ev_step (st_aload_n (pc := 654) (j := 0) dX10_init_654 rfl rfl) ?_
  refine ev_getR (pc := 655) k_X10_34 rfl dX10_init_655 (fun a187 => ?_)
  refine ev_step (st_bipush (pc := 658) dX10_init_658 nb_13) ?_
  refine ev_step (st_bipush (pc := 660) dX10_init_660 nb_102) ?_
  refine ev_step (st_bipush (pc := 662) dX10_init_662 nb_97) ?_
  refine ev_step (st_bipush (pc := 664) dX10_init_664 nb_109) ?_
  refine ev_step (st_bipush (pc := 666) dX10_init_666 nb_101) ?_
  refine ev_step (st_iconst (pc := 668) dX10_init_668 ni_0) ?_
  refine ev_step (st_iconst (pc := 669) dX10_init_669 ni_0) ?_
  refine ev_step (st_iconst (pc := 670) dX10_init_670 ni_0) ?_
  refine ev_callL (iv_S (As := [.int ((102 : Int32)), .int ((97 : Int32)), .int ((109 : Int32)), .int ((101 : Int32)), .int ((0 : Int32)), .int ((0 : Int32)), .int ((0 : Int32))]) (st := [.int ((13 : Int32)), .ref (gB G + a187)]) (pc := 671) m_X10_word l_X10_153 z_X10_word rfl (Nat.le_of_ble_eq_true rfl) rfl dX10_init_671) (tX10_word G fu ((102 : Int32)) ((97 : Int32)) ((109 : Int32)) ((101 : Int32)) ((0 : Int32)) ((0 : Int32)) ((0 : Int32)) h186) (by decide) (by decide) (fun x189 h188 => ?_)
  refine ev_stj (pc := 674) dX10_init_674 (fun h190 => ?_)
  refine ev_step (st_aload_n (pc := 675) (j := 0) dX10_init_675 rfl rfl) ?_
  refine ev_getR (pc := 676) k_X10_34 rfl dX10_init_676 (fun a191 => ?_)
  refine ev_step (st_bipush (pc := 679) dX10_init_679 nb_14) ?_
  refine ev_step (st_bipush (pc := 681) dX10_init_681 nb_116) ?_
  refine ev_step (st_bipush (pc := 683) dX10_init_683 nb_105) ?_
  refine ev_step (st_bipush (pc := 685) dX10_init_685 nb_109) ?_
  refine ev_step (st_bipush (pc := 687) dX10_init_687 nb_101) ?_
  refine ev_step (st_bipush (pc := 689) dX10_init_689 nb_115) ?_
  refine ev_step (st_iconst (pc := 691) dX10_init_691 ni_0) ?_
  refine ev_step (st_iconst (pc := 692) dX10_init_692 ni_0) ?_
  refine ev_callL (iv_S (As := [.int ((116 : Int32)), .int ((105 : Int32)), .int ((109 : Int32)), .int ((101 : Int32)), .int ((115 : Int32)), .int ((0 : Int32)), .int ((0 : Int32))]) (st := [.int ((14 : Int32)), .ref (gB G + a191)]) (pc := 693) m_X10_word l_X10_153 z_X10_word rfl (Nat.le_of_ble_eq_true rfl) rfl dX10_init_693) (tX10_word G fu ((116 : Int32)) ((105 : Int32)) ((109 : Int32)) ((101 : Int32)) ((115 : Int32)) ((0 : Int32)) ((0 : Int32)) h190) (by decide) (by decide) (fun x193 h192 => ?_)
  refine ev_stj (pc := 696) dX10_init_696 (fun h194 => ?_)
  refine ev_step (st_aload_n (pc := 697) (j := 0) dX10_init_697 rfl rfl) ?_
  refine ev_getR (pc := 698) k_X10_34 rfl dX10_init_698 (fun a195 => ?_)
  refine ev_step (st_bipush (pc := 701) dX10_init_701 nb_15) ?_
  refine ev_step (st_bipush (pc := 703) dX10_init_703 nb_102) ?_
  refine ev_step (st_bipush (pc := 705) dX10_init_705 nb_97) ?_
  refine ev_step (st_bipush (pc := 707) dX10_init_707 nb_99) ?_
  refine ev_step (st_bipush (pc := 709) dX10_init_709 nb_116) ?_
  refine ev_step (st_iconst (pc := 711) dX10_init_711 ni_0) ?_
  refine ev_step (st_iconst (pc := 712) dX10_init_712 ni_0) ?_
  refine ev_step (st_iconst (pc := 713) dX10_init_713 ni_0) ?_
  refine ev_callL (iv_S (As := [.int ((102 : Int32)), .int ((97 : Int32)), .int ((99 : Int32)), .int ((116 : Int32)), .int ((0 : Int32)), .int ((0 : Int32)), .int ((0 : Int32))]) (st := [.int ((15 : Int32)), .ref (gB G + a195)]) (pc := 714) m_X10_word l_X10_153 z_X10_word rfl (Nat.le_of_ble_eq_true rfl) rfl dX10_init_714) (tX10_word G fu ((102 : Int32)) ((97 : Int32)) ((99 : Int32)) ((116 : Int32)) ((0 : Int32)) ((0 : Int32)) ((0 : Int32)) h194) (by decide) (by decide) (fun x197 h196 => ?_)
  refine ev_stj (pc := 717) dX10_init_717 (fun h198 => ?_)
  refine ev_step (st_aload_n (pc := 718) (j := 0) dX10_init_718 rfl rfl) ?_
  refine ev_getR (pc := 719) k_X10_34 rfl dX10_init_719 (fun a199 => ?_)
  refine ev_step (st_bipush (pc := 722) dX10_init_722 nb_16) ?_
  refine ev_step (st_bipush (pc := 724) dX10_init_724 nb_101) ?_
  refine ev_step (st_bipush (pc := 726) dX10_init_726 nb_118) ?_
  refine ev_step (st_bipush (pc := 728) dX10_init_728 nb_101) ?_
  refine ev_step (st_bipush (pc := 730) dX10_init_730 nb_110) ?_
  refine ev_step (st_bipush (pc := 732) dX10_init_732 nb_105) ?_
  refine ev_step (st_bipush (pc := 734) dX10_init_734 nb_110) ?_
  refine ev_step (st_bipush (pc := 736) dX10_init_736 nb_103) ?_
  refine ev_callL (iv_S (As := [.int ((101 : Int32)), .int ((118 : Int32)), .int ((101 : Int32)), .int ((110 : Int32)), .int ((105 : Int32)), .int ((110 : Int32)), .int ((103 : Int32))]) (st := [.int ((16 : Int32)), .ref (gB G + a199)]) (pc := 738) m_X10_word l_X10_153 z_X10_word rfl (Nat.le_of_ble_eq_true rfl) rfl dX10_init_738) (tX10_word G fu ((101 : Int32)) ((118 : Int32)) ((101 : Int32)) ((110 : Int32)) ((105 : Int32)) ((110 : Int32)) ((103 : Int32)) h198) (by decide) (by decide) (fun x201 h200 => ?_)
  refine ev_stj (pc := 741) dX10_init_741 (fun h202 => ?_)
  refine ev_step (st_aload_n (pc := 742) (j := 0) dX10_init_742 rfl rfl) ?_
  refine ev_getR (pc := 743) k_X10_34 rfl dX10_init_743 (fun a203 => ?_)
  refine ev_step (st_bipush (pc := 746) dX10_init_746 nb_17) ?_
  refine ev_step (st_bipush (pc := 748) dX10_init_748 nb_98) ?_
  refine ev_step (st_bipush (pc := 750) dX10_init_750 nb_101) ?_
  refine ev_step (st_bipush (pc := 752) dX10_init_752 nb_108) ?_
  refine ev_step (st_bipush (pc := 754) dX10_init_754 nb_105) ?_
  refine ev_step (st_bipush (pc := 756) dX10_init_756 nb_101) ?_
  refine ev_step (st_bipush (pc := 758) dX10_init_758 nb_102) ?_
  refine ev_step (st_iconst (pc := 760) dX10_init_760 ni_0) ?_
  refine ev_callL (iv_S (As := [.int ((98 : Int32)), .int ((101 : Int32)), .int ((108 : Int32)), .int ((105 : Int32)), .int ((101 : Int32)), .int ((102 : Int32)), .int ((0 : Int32))]) (st := [.int ((17 : Int32)), .ref (gB G + a203)]) (pc := 761) m_X10_word l_X10_153 z_X10_word rfl (Nat.le_of_ble_eq_true rfl) rfl dX10_init_761) (tX10_word G fu ((98 : Int32)) ((101 : Int32)) ((108 : Int32)) ((105 : Int32)) ((101 : Int32)) ((102 : Int32)) ((0 : Int32)) h202) (by decide) (by decide) (fun x205 h204 => ?_)
  refine ev_stj (pc := 764) dX10_init_764 (fun h206 => ?_)
  refine ev_step (st_aload_n (pc := 765) (j := 0) dX10_init_765 rfl rfl) ?_
  refine ev_getR (pc := 766) k_X10_34 rfl dX10_init_766 (fun a207 => ?_)
  refine ev_step (st_bipush (pc := 769) dX10_init_769 nb_18) ?_
  refine ev_step (st_bipush (pc := 771) dX10_init_771 nb_107) ?_
  refine ev_step (st_bipush (pc := 773) dX10_init_773 nb_110) ?_
  refine ev_step (st_bipush (pc := 775) dX10_init_775 nb_111) ?_
  refine ev_step (st_bipush (pc := 777) dX10_init_777 nb_119) ?_
  refine ev_step (st_bipush (pc := 779) dX10_init_779 nb_110) ?_
  refine ev_step (st_iconst (pc := 781) dX10_init_781 ni_0) ?_
  refine ev_step (st_iconst (pc := 782) dX10_init_782 ni_0) ?_
  refine ev_callL (iv_S (As := [.int ((107 : Int32)), .int ((110 : Int32)), .int ((111 : Int32)), .int ((119 : Int32)), .int ((110 : Int32)), .int ((0 : Int32)), .int ((0 : Int32))]) (st := [.int ((18 : Int32)), .ref (gB G + a207)]) (pc := 783) m_X10_word l_X10_153 z_X10_word rfl (Nat.le_of_ble_eq_true rfl) rfl dX10_init_783) (tX10_word G fu ((107 : Int32)) ((110 : Int32)) ((111 : Int32)) ((119 : Int32)) ((110 : Int32)) ((0 : Int32)) ((0 : Int32)) h206) (by decide) (by decide) (fun x209 h208 => ?_)
  refine ev_stj (pc := 786) dX10_init_786 (fun h210 => ?_)
  refine ev_step (st_aload_n (pc := 787) (j := 0) dX10_init_787 rfl rfl) ?_
  refine ev_getR (pc := 788) k_X10_34 rfl dX10_init_788 (fun a211 => ?_)
  refine ev_step (st_bipush (pc := 791) dX10_init_791 nb_19) ?_
  refine ev_step (st_bipush (pc := 793) dX10_init_793 nb_112) ?_
  refine ev_step (st_bipush (pc := 795) dX10_init_795 nb_97) ?_
  refine ev_step (st_bipush (pc := 797) dX10_init_797 nb_114) ?_
  refine ev_step (st_bipush (pc := 799) dX10_init_799 nb_116) ?_
  refine ev_step (st_bipush (pc := 801) dX10_init_801 nb_115) ?_
  refine ev_step (st_iconst (pc := 803) dX10_init_803 ni_0) ?_
  refine ev_step (st_iconst (pc := 804) dX10_init_804 ni_0) ?_
  refine ev_callL (iv_S (As := [.int ((112 : Int32)), .int ((97 : Int32)), .int ((114 : Int32)), .int ((116 : Int32)), .int ((115 : Int32)), .int ((0 : Int32)), .int ((0 : Int32))]) (st := [.int ((19 : Int32)), .ref (gB G + a211)]) (pc := 805) m_X10_word l_X10_153 z_X10_word rfl (Nat.le_of_ble_eq_true rfl) rfl dX10_init_805) (tX10_word G fu ((112 : Int32)) ((97 : Int32)) ((114 : Int32)) ((116 : Int32)) ((115 : Int32)) ((0 : Int32)) ((0 : Int32)) h210) (by decide) (by decide) (fun x213 h212 => ?_)
  refine ev_stj (pc := 808) dX10_init_808 (fun h214 => ?_)
  refine ev_step (st_aload_n (pc := 809) (j := 0) dX10_init_809 rfl rfl) ?_
  refine ev_getR (pc := 810) k_X10_34 rfl dX10_init_810 (fun a215 => ?_)
  refine ev_step (st_bipush (pc := 813) dX10_init_813 nb_20) ?_
  refine ev_step (st_bipush (pc := 815) dX10_init_815 nb_119) ?_
  refine ev_step (st_bipush (pc := 817) dX10_init_817 nb_104) ?_
  refine ev_step (st_bipush (pc := 819) dX10_init_819 nb_105) ?_
  refine ev_step (st_bipush (pc := 821) dX10_init_821 nb_99) ?_
  refine ev_step (st_bipush (pc := 823) dX10_init_823 nb_104) ?_
  refine ev_step (st_iconst (pc := 825) dX10_init_825 ni_0) ?_
  refine ev_step (st_iconst (pc := 826) dX10_init_826 ni_0) ?_
  refine ev_callL (iv_S (As := [.int ((119 : Int32)), .int ((104 : Int32)), .int ((105 : Int32)), .int ((99 : Int32)), .int ((104 : Int32)), .int ((0 : Int32)), .int ((0 : Int32))]) (st := [.int ((20 : Int32)), .ref (gB G + a215)]) (pc := 827) m_X10_word l_X10_153 z_X10_word rfl (Nat.le_of_ble_eq_true rfl) rfl dX10_init_827) (tX10_word G fu ((119 : Int32)) ((104 : Int32)) ((105 : Int32)) ((99 : Int32)) ((104 : Int32)) ((0 : Int32)) ((0 : Int32)) h214) (by decide) (by decide) (fun x217 h216 => ?_)
  refine ev_stj (pc := 830) dX10_init_830 (fun h218 => ?_)
  refine ev_step (st_aload_n (pc := 831) (j := 0) dX10_init_831 rfl rfl) ?_
  refine ev_getR (pc := 832) k_X10_34 rfl dX10_init_832 (fun a219 => ?_)
  refine ev_step (st_bipush (pc := 835) dX10_init_835 nb_21) ?_
  refine ev_step (st_bipush (pc := 837) dX10_init_837 nb_115) ?_
  refine ev_step (st_bipush (pc := 839) dX10_init_839 nb_97) ?_
  refine ev_step (st_bipush (pc := 841) dX10_init_841 nb_109) ?_
  refine ev_step (st_bipush (pc := 843) dX10_init_843 nb_101) ?_
  refine ev_step (st_iconst (pc := 845) dX10_init_845 ni_0) ?_
  refine ev_step (st_iconst (pc := 846) dX10_init_846 ni_0) ?_
  refine ev_step (st_iconst (pc := 847) dX10_init_847 ni_0) ?_
  refine ev_callL (iv_S (As := [.int ((115 : Int32)), .int ((97 : Int32)), .int ((109 : Int32)), .int ((101 : Int32)), .int ((0 : Int32)), .int ((0 : Int32)), .int ((0 : Int32))]) (st := [.int ((21 : Int32)), .ref (gB G + a219)]) (pc := 848) m_X10_word l_X10_153 z_X10_word rfl (Nat.le_of_ble_eq_true rfl) rfl dX10_init_848) (tX10_word G fu ((115 : Int32)) ((97 : Int32)) ((109 : Int32)) ((101 : Int32)) ((0 : Int32)) ((0 : Int32)) ((0 : Int32)) h218) (by decide) (by decide) (fun x221 h220 => ?_)
  refine ev_stj (pc := 851) dX10_init_851 (fun h222 => ?_)
  refine ev_step (st_aload_n (pc := 852) (j := 0) dX10_init_852 rfl rfl) ?_
  refine ev_ck (fun ha hS => ?_)
  refine ev_callV (iv_V (As := []) (st := []) (pc := 853) rfl m_X10_begins l_X10_161 i_X10_begins e_X10_begins ha hS rfl (Nat.le_of_ble_eq_true rfl) rfl dX10_init_853) (tX10_begins G fu v0 h222) (by decide) (by decide) (fun h223 => ?_)
  refine ev_step (st_aload_n (pc := 856) (j := 0) dX10_init_856 rfl rfl) ?_
  refine ev_ck (fun ha hS => ?_)
  refine ev_callV (iv_V (As := []) (st := []) (pc := 857) rfl m_X10_keepsRow l_X10_164 i_X10_keepsRow e_X10_keepsRow ha hS rfl (Nat.le_of_ble_eq_true rfl) rfl dX10_init_857) (tX10_keepsRow G fu v0 h223) (by decide) (by decide) (fun h224 => ?_)
  exact ev_vret (pc := 860) dX10_init_860
set_option maxRecDepth 100000 in
set_option maxHeartbeats 4000000 in
theorem tX10_feed (G : gx) (fu : Nat) (v0 : Nat) (v1 : Int32) (v2 : Int32) (v3 : Int32) (v4 : Int32) (v5 : Int32) (h : mh) : Ct lI G yX10_feed cX10_feed 6 (some .int) 2 [.ref (gB G + v0), .int v1, .int v2, .int v3, .int v4, .int v5] h (fX10_feed fu v0 v1 v2 v3 v4 v5 h) := by
  refine ct_ls (ls := [(0, .ref (gB G + v0)), (1, .int v1), (2, .int v2), (3, .int v3), (4, .int v4), (5, .int v5)]) rfl (by decide) (Nat.le_of_ble_eq_true rfl) ?_
  unfold fX10_feed
  refine ev_step (st_aload_n (pc := 0) (j := 0) dX10_feed_0 rfl rfl) ?_
  refine ev_getI (pc := 1) k_X10_167 rfl dX10_feed_1 (fun x1 => ?_)
  refine ev_step (st_bipush (pc := 4) dX10_feed_4 nb_20) ?_
  refine ev_step (st_iadd (pc := 6) dX10_feed_6) ?_
  refine ev_step (st_sipush (pc := 7) dX10_feed_7 ns_2000) ?_
  refine ev_br (br_icmp_le (tgt := 15) (pc := 10) dX10_feed_10 (by decide)) (fun _ => ?_) (fun _ => ?_)
  · refine ev_step (st_aload_n (pc := 15) (j := 0) dX10_feed_15 rfl rfl) ?_
    refine ev_step (st_iload_n (pc := 16) (j := 1) dX10_feed_16 rfl rfl) ?_
    refine ev_ck (fun ha hS => ?_)
    refine ev_callV (iv_V (As := [.int v1]) (st := []) (pc := 17) rfl m_X10_put l_X10_170 i_X10_put e_X10_put ha hS rfl (Nat.le_of_ble_eq_true rfl) rfl dX10_feed_17) (tX10_put G fu v0 v1 h) (by decide) (by decide) (fun h2 => ?_)
    refine ev_step (st_aload_n (pc := 20) (j := 0) dX10_feed_20 rfl rfl) ?_
    refine ev_step (st_iload_n (pc := 21) (j := 2) dX10_feed_21 rfl rfl) ?_
    refine ev_ck (fun ha hS => ?_)
    refine ev_callV (iv_V (As := [.int v2]) (st := []) (pc := 22) rfl m_X10_put l_X10_170 i_X10_put e_X10_put ha hS rfl (Nat.le_of_ble_eq_true rfl) rfl dX10_feed_22) (tX10_put G fu v0 v2 h2) (by decide) (by decide) (fun h3 => ?_)
    refine ev_step (st_aload_n (pc := 25) (j := 0) dX10_feed_25 rfl rfl) ?_
    refine ev_step (st_iload_n (pc := 26) (j := 3) dX10_feed_26 rfl rfl) ?_
    refine ev_ck (fun ha hS => ?_)
    refine ev_callV (iv_V (As := [.int v3]) (st := []) (pc := 27) rfl m_X10_put l_X10_170 i_X10_put e_X10_put ha hS rfl (Nat.le_of_ble_eq_true rfl) rfl dX10_feed_27) (tX10_put G fu v0 v3 h3) (by decide) (by decide) (fun h4 => ?_)
    refine ev_step (st_aload_n (pc := 30) (j := 0) dX10_feed_30 rfl rfl) ?_
    refine ev_step (st_iload (pc := 31) (j := 4) dX10_feed_31 rfl) ?_
    refine ev_ck (fun ha hS => ?_)
    refine ev_callV (iv_V (As := [.int v4]) (st := []) (pc := 33) rfl m_X10_put l_X10_170 i_X10_put e_X10_put ha hS rfl (Nat.le_of_ble_eq_true rfl) rfl dX10_feed_33) (tX10_put G fu v0 v4 h4) (by decide) (by decide) (fun h5 => ?_)
    refine ev_step (st_aload_n (pc := 36) (j := 0) dX10_feed_36 rfl rfl) ?_
    refine ev_step (st_iload (pc := 37) (j := 5) dX10_feed_37 rfl) ?_
    refine ev_ck (fun ha hS => ?_)
    refine ev_callV (iv_V (As := [.int v5]) (st := []) (pc := 39) rfl m_X10_put l_X10_170 i_X10_put e_X10_put ha hS rfl (Nat.le_of_ble_eq_true rfl) rfl dX10_feed_39) (tX10_put G fu v0 v5 h5) (by decide) (by decide) (fun h6 => ?_)
    refine ev_step (st_aload_n (pc := 42) (j := 0) dX10_feed_42 rfl rfl) ?_
    refine ev_getI (pc := 43) k_X10_167 rfl dX10_feed_43 (fun x7 => ?_)
    exact ev_iret (pc := 46) dX10_feed_46
  · refine ev_step (st_iconst (pc := 13) dX10_feed_13 ni_m1) ?_
    exact ev_iret (pc := 14) dX10_feed_14
set_option maxRecDepth 100000 in
set_option maxHeartbeats 4000000 in
theorem tX10_cut_31 (G : gx) (fu : Nat) (h0 : mh) (v0 : Nat) (v1 : Int32) (v2 : Int32) (h : mh) : Ev lV G yX10_cut cX10_cut 8 (none) 3 h0 31 [(0, .ref (gB G + v0)), (1, .int v1), (2, .int v2)] [] h (fX10_cut_31 fu v0 v1 v2 h) := by
  unfold fX10_cut_31
  refine ev_step (st_aload_n (pc := 31) (j := 0) dX10_cut_31 rfl rfl) ?_
  refine ev_step (st_iconst (pc := 32) dX10_cut_32 ni_0) ?_
  refine ev_step (st_aload_n (pc := 33) (j := 0) dX10_cut_33 rfl rfl) ?_
  refine ev_getI (pc := 34) k_X10_173 rfl dX10_cut_34 (fun x1 => ?_)
  refine ev_step (st_iconst (pc := 37) dX10_cut_37 ni_0) ?_
  refine ev_step (st_lconst (pc := 38) (v := 0) dX10_cut_38 rfl) ?_
  refine ev_ck (fun ha hS => ?_)
  refine ev_callV (iv_V (As := [.int ((0 : Int32)), .int x1, .int ((0 : Int32)), .long ((0 : Int64))]) (st := []) (pc := 39) rfl m_X10_token l_X10_185 i_X10_token e_X10_token ha hS rfl (Nat.le_of_ble_eq_true rfl) rfl dX10_cut_39) (tX10_token G fu v0 ((0 : Int32)) x1 ((0 : Int32)) ((0 : Int64)) h) (by decide) (by decide) (fun h2 => ?_)
  exact ev_vret (pc := 42) dX10_cut_42
set_option maxRecDepth 100000 in
set_option maxHeartbeats 4000000 in
theorem tX10_cut_291 (G : gx) (fu : Nat) (h0 : mh) (v0 : Nat) (v1 : Int32) (v2 : Int32) (k7 : Int32 × mh → Option (Unit × mh)) (hk7 : ∀ (v1 : Int32) (h : mh), Ev lV G yX10_cut cX10_cut 8 (none) 3 h0 7 [(0, .ref (gB G + v0)), (1, .int v1)] [] h (k7 (v1, h))) (h : mh) : Ev lV G yX10_cut cX10_cut 8 (none) 3 h0 291 [(0, .ref (gB G + v0)), (1, .int v1), (2, .int v2)] [] h (fX10_cut_291 fu k7 v0 v1 v2 h) := by
  unfold fX10_cut_291
  refine ev_step (st_goto (pc := 291) (tgt := 7) dX10_cut_291 (by decide)) ?_
  refine ev_sub (ls' := [(0, .ref (gB G + v0)), (1, .int v1)]) [0, 1] rfl ?_
  exact hk7 v1 h
set_option maxRecDepth 100000 in
set_option maxHeartbeats 4000000 in
theorem tX10_cut_67 (G : gx) (fu : Nat) (h0 : mh) (v0 : Nat) (v1 : Int32) (v2 : Int32) (k7 : Int32 × mh → Option (Unit × mh)) (hk7 : ∀ (v1 : Int32) (h : mh), Ev lV G yX10_cut cX10_cut 8 (none) 3 h0 7 [(0, .ref (gB G + v0)), (1, .int v1)] [] h (k7 (v1, h))) (h : mh) : Ev lV G yX10_cut cX10_cut 8 (none) 3 h0 67 [(0, .ref (gB G + v0)), (1, .int v1), (2, .int v2)] [] h (fX10_cut_67 fu k7 v0 v1 v2 h) := by
  unfold fX10_cut_67
  refine ev_step (st_inc (pc := 67) (j := 1) (ls' := [(1, .int (v1 + (1 : Int32))), (0, .ref (gB G + v0)), (2, .int v2)]) dX10_cut_67 rfl ni_1 (by decide) rfl) ?_
  refine ev_step (st_goto (pc := 70) (tgt := 291) dX10_cut_70 (by decide)) ?_
  refine ev_sub (ls' := [(0, .ref (gB G + v0)), (1, .int (v1 + (1 : Int32))), (2, .int v2)]) [1, 0, 2] rfl ?_
  exact tX10_cut_291 G fu h0 v0 (v1 + (1 : Int32)) v2 k7 hk7 h
set_option maxRecDepth 100000 in
set_option maxHeartbeats 4000000 in
theorem tX10_cut_118 (G : gx) (fu : Nat) (h0 : mh) (v0 : Nat) (v1 : Int32) (v2 : Int32) (v3 : Int32) (v4 : Int64) (k7 : Int32 × mh → Option (Unit × mh)) (hk7 : ∀ (v1 : Int32) (h : mh), Ev lV G yX10_cut cX10_cut 8 (none) 3 h0 7 [(0, .ref (gB G + v0)), (1, .int v1)] [] h (k7 (v1, h))) (k85 : Int32 × Int64 × mh → Option (Unit × mh)) (hk85 : ∀ (v3 : Int32) (v4 : Int64) (h : mh), Ev lV G yX10_cut cX10_cut 8 (none) 3 h0 85 [(0, .ref (gB G + v0)), (1, .int v1), (2, .int v2), (3, .int v3), (4, .long v4)] [] h (k85 (v3, v4, h))) (h : mh) : Ev lV G yX10_cut cX10_cut 8 (none) 3 h0 118 [(0, .ref (gB G + v0)), (1, .int v1), (2, .int v2), (3, .int v3), (4, .long v4)] [] h (fX10_cut_118 fu k7 k85 v0 v1 v2 v3 v4 h) := by
  unfold fX10_cut_118
  refine ev_step (st_inc (pc := 118) (j := 3) (ls' := [(3, .int (v3 + (1 : Int32))), (0, .ref (gB G + v0)), (1, .int v1), (2, .int v2), (4, .long v4)]) dX10_cut_118 rfl ni_1 (by decide) rfl) ?_
  refine ev_step (st_goto (pc := 121) (tgt := 85) dX10_cut_121 (by decide)) ?_
  refine ev_sub (ls' := [(0, .ref (gB G + v0)), (1, .int v1), (2, .int v2), (3, .int (v3 + (1 : Int32))), (4, .long v4)]) [1, 2, 3, 0, 4] rfl ?_
  exact hk85 (v3 + (1 : Int32)) v4 h
set_option maxRecDepth 100000 in
set_option maxHeartbeats 4000000 in
theorem tX10_cut_173 (G : gx) (fu : Nat) (h0 : mh) (v0 : Nat) (v1 : Int32) (v2 : Int32) (v3 : Int32) (v4 : Int64) (v6 : Int32) (v7 : Int32) (k7 : Int32 × mh → Option (Unit × mh)) (hk7 : ∀ (v1 : Int32) (h : mh), Ev lV G yX10_cut cX10_cut 8 (none) 3 h0 7 [(0, .ref (gB G + v0)), (1, .int v1)] [] h (k7 (v1, h))) (k146 : Int32 × Int32 × mh → Option (Unit × mh)) (hk146 : ∀ (v6 : Int32) (v7 : Int32) (h : mh), Ev lV G yX10_cut cX10_cut 8 (none) 3 h0 146 [(0, .ref (gB G + v0)), (1, .int v1), (2, .int v2), (3, .int v3), (4, .long v4), (6, .int v6), (7, .int v7)] [] h (k146 (v6, v7, h))) (h : mh) : Ev lV G yX10_cut cX10_cut 8 (none) 3 h0 173 [(0, .ref (gB G + v0)), (1, .int v1), (2, .int v2), (3, .int v3), (4, .long v4), (6, .int v6), (7, .int v7)] [] h (fX10_cut_173 fu k7 k146 v0 v1 v2 v3 v4 v6 v7 h) := by
  unfold fX10_cut_173
  refine ev_step (st_inc (pc := 173) (j := 6) (ls' := [(7, .int (v7 + (1 : Int32))), (0, .ref (gB G + v0)), (1, .int v1), (2, .int v2), (3, .int v3), (4, .long v4), (6, .int v6)]) dX10_cut_173 rfl ni_1 (by decide) rfl) ?_
  refine ev_step (st_goto (pc := 176) (tgt := 146) dX10_cut_176 (by decide)) ?_
  refine ev_sub (ls' := [(0, .ref (gB G + v0)), (1, .int v1), (2, .int v2), (3, .int v3), (4, .long v4), (6, .int v6), (7, .int (v7 + (1 : Int32)))]) [1, 2, 3, 4, 5, 6, 0] rfl ?_
  exact hk146 v6 (v7 + (1 : Int32)) h
set_option maxRecDepth 100000 in
set_option maxHeartbeats 4000000 in
theorem tX10_cut_179 (G : gx) (fu : Nat) (h0 : mh) (v0 : Nat) (v1 : Int32) (v2 : Int32) (v3 : Int32) (v4 : Int64) (v6 : Int32) (k7 : Int32 × mh → Option (Unit × mh)) (hk7 : ∀ (v1 : Int32) (h : mh), Ev lV G yX10_cut cX10_cut 8 (none) 3 h0 7 [(0, .ref (gB G + v0)), (1, .int v1)] [] h (k7 (v1, h))) (h : mh) : Ev lV G yX10_cut cX10_cut 8 (none) 3 h0 179 [(0, .ref (gB G + v0)), (1, .int v1), (2, .int v2), (3, .int v3), (4, .long v4), (6, .int v6)] [] h (fX10_cut_179 fu k7 v0 v1 v2 v3 v4 v6 h) := by
  unfold fX10_cut_179
  refine ev_step (st_aload_n (pc := 179) (j := 0) dX10_cut_179 rfl rfl) ?_
  refine ev_step (st_iload (pc := 180) (j := 5) dX10_cut_180 rfl) ?_
  refine ev_step (st_iload_n (pc := 182) (j := 1) dX10_cut_182 rfl rfl) ?_
  refine ev_step (st_iconst (pc := 183) dX10_cut_183 ni_0) ?_
  refine ev_step (st_lload (pc := 184) (j := 4) dX10_cut_184 rfl) ?_
  refine ev_ck (fun ha hS => ?_)
  refine ev_callV (iv_V (As := [.int v6, .int v1, .int ((0 : Int32)), .long v4]) (st := []) (pc := 186) rfl m_X10_token l_X10_185 i_X10_token e_X10_token ha hS rfl (Nat.le_of_ble_eq_true rfl) rfl dX10_cut_186) (tX10_token G fu v0 v6 v1 ((0 : Int32)) v4 h) (by decide) (by decide) (fun h1 => ?_)
  refine ev_step (st_iload_n (pc := 189) (j := 1) dX10_cut_189 rfl rfl) ?_
  refine ev_step (st_iload_n (pc := 190) (j := 3) dX10_cut_190 rfl rfl) ?_
  refine ev_step (st_iadd (pc := 191) dX10_cut_191) ?_
  refine ev_top (fun x2 => ?_)
  refine ev_step (st_istore_n (pc := 192) (ls' := [(1, .int x2), (0, .ref (gB G + v0)), (2, .int v2), (3, .int v3), (4, .long v4), (6, .int v6)]) dX10_cut_192 rfl (by decide) rfl) ?_
  refine ev_step (st_goto (pc := 193) (tgt := 291) dX10_cut_193 (by decide)) ?_
  refine ev_sub (ls' := [(0, .ref (gB G + v0)), (1, .int x2), (2, .int v2)]) [1, 0, 2] rfl ?_
  exact tX10_cut_291 G fu h0 v0 x2 v2 k7 hk7 h1
set_option maxRecDepth 100000 in
set_option maxHeartbeats 4000000 in
theorem tX10_cut_146 (G : gx) (fu : Nat) (h0 : mh) (v0 : Nat) (v1 : Int32) (v2 : Int32) (v3 : Int32) (v4 : Int64) (k7 : Int32 × mh → Option (Unit × mh)) (hk7 : ∀ (v1 : Int32) (h : mh), Ev lV G yX10_cut cX10_cut 8 (none) 3 h0 7 [(0, .ref (gB G + v0)), (1, .int v1)] [] h (k7 (v1, h))) (n : Nat) (v6 : Int32) (v7 : Int32) (h : mh) : Ev lV G yX10_cut cX10_cut 8 (none) 3 h0 146 [(0, .ref (gB G + v0)), (1, .int v1), (2, .int v2), (3, .int v3), (4, .long v4), (6, .int v6), (7, .int v7)] [] h (itr (bX10_cut_146 fu k7 v0 v1 v2 v3 v4) n (v6, v7, h)) := by
  refine ev_itr (P := fun (q : Int32 × Int32 × mh) (R9 : Option (Unit × mh)) => Ev lV G yX10_cut cX10_cut 8 (none) 3 h0 146 [(0, .ref (gB G + v0)), (1, .int v1), (2, .int v2), (3, .int v3), (4, .long v4), (6, .int q.1), (7, .int q.2.1)] [] q.2.2 R9) (fun _ => ev_none) (fun k146 hk9 q => ?_) n (v6, v7, h)
  obtain ⟨v6, v7, h⟩ := q
  have hk146 : ∀ (v6 : Int32) (v7 : Int32) (h : mh), Ev lV G yX10_cut cX10_cut 8 (none) 3 h0 146 [(0, .ref (gB G + v0)), (1, .int v1), (2, .int v2), (3, .int v3), (4, .long v4), (6, .int v6), (7, .int v7)] [] h (k146 (v6, v7, h)) := fun v6 v7 h => hk9 (v6, v7, h)
  show Ev lV G yX10_cut cX10_cut 8 (none) 3 h0 146 [(0, .ref (gB G + v0)), (1, .int v1), (2, .int v2), (3, .int v3), (4, .long v4), (6, .int v6), (7, .int v7)] [] h (bX10_cut_146 fu k7 v0 v1 v2 v3 v4 k146 (v6, v7, h))
  unfold bX10_cut_146
  refine ev_step (st_iload (pc := 146) (j := 6) dX10_cut_146 rfl) ?_
  refine ev_step (st_bipush (pc := 148) dX10_cut_148 nb_22) ?_
  refine ev_br (br_icmp_ge (tgt := 179) (pc := 150) dX10_cut_150 (by decide)) (fun _ => ?_) (fun _ => ?_)
  · refine ev_sub (ls' := [(0, .ref (gB G + v0)), (1, .int v1), (2, .int v2), (3, .int v3), (4, .long v4), (6, .int v6)]) [0, 1, 2, 3, 4, 5] rfl ?_
    exact tX10_cut_179 G fu h0 v0 v1 v2 v3 v4 v6 k7 hk7 h
  · refine ev_step (st_aload_n (pc := 153) (j := 0) dX10_cut_153 rfl rfl) ?_
    refine ev_getR (pc := 154) k_X10_34 rfl dX10_cut_154 (fun a1 => ?_)
    refine ev_step (st_iload (pc := 157) (j := 6) dX10_cut_157 rfl) ?_
    refine ev_ldj (pc := 159) dX10_cut_159 (fun x2 => ?_)
    refine ev_step (st_lload (pc := 160) (j := 4) dX10_cut_160 rfl) ?_
    refine ev_step (st_lcmp (pc := 162) dX10_cut_162) ?_
    refine ev_br (br_if_ne (tgt := 173) (pc := 163) dX10_cut_163 (by decide)) (fun _ => ?_) (fun _ => ?_)
    · refine ev_step (st_bipush (pc := 166) dX10_cut_166 nb_20) ?_
      refine ev_step (st_iload (pc := 168) (j := 6) dX10_cut_168 rfl) ?_
      refine ev_step (st_iadd (pc := 170) dX10_cut_170) ?_
      refine ev_top (fun x3 => ?_)
      refine ev_step (st_istore (pc := 171) (ls' := [(6, .int x3), (0, .ref (gB G + v0)), (1, .int v1), (2, .int v2), (3, .int v3), (4, .long v4), (7, .int v7)]) dX10_cut_171 (by decide) rfl) ?_
      refine ev_sub (ls' := [(0, .ref (gB G + v0)), (1, .int v1), (2, .int v2), (3, .int v3), (4, .long v4), (6, .int x3), (7, .int v7)]) [1, 2, 3, 4, 5, 0, 6] rfl ?_
      exact tX10_cut_173 G fu h0 v0 v1 v2 v3 v4 x3 v7 k7 hk7 k146 hk146 h
    · refine ev_sub (ls' := [(0, .ref (gB G + v0)), (1, .int v1), (2, .int v2), (3, .int v3), (4, .long v4), (6, .int v6), (7, .int v7)]) [0, 1, 2, 3, 4, 5, 6] rfl ?_
      exact tX10_cut_173 G fu h0 v0 v1 v2 v3 v4 v6 v7 k7 hk7 k146 hk146 h
set_option maxRecDepth 100000 in
set_option maxHeartbeats 4000000 in
theorem tX10_cut_135 (G : gx) (fu : Nat) (h0 : mh) (v0 : Nat) (v1 : Int32) (v2 : Int32) (v3 : Int32) (v4 : Int64) (s0 : Int32) (k7 : Int32 × mh → Option (Unit × mh)) (hk7 : ∀ (v1 : Int32) (h : mh), Ev lV G yX10_cut cX10_cut 8 (none) 3 h0 7 [(0, .ref (gB G + v0)), (1, .int v1)] [] h (k7 (v1, h))) (h : mh) : Ev lV G yX10_cut cX10_cut 8 (none) 3 h0 135 [(0, .ref (gB G + v0)), (1, .int v1), (2, .int v2), (3, .int v3), (4, .long v4)] [.int s0] h (fX10_cut_135 fu k7 v0 v1 v2 v3 v4 s0 h) := by
  unfold fX10_cut_135
  refine ev_step (st_istore (pc := 135) (ls' := [(6, .int s0), (0, .ref (gB G + v0)), (1, .int v1), (2, .int v2), (3, .int v3), (4, .long v4)]) dX10_cut_135 (by decide) rfl) ?_
  refine ev_step (st_iload_n (pc := 137) (j := 4) dX10_cut_137 rfl rfl) ?_
  refine ev_step (st_bipush (pc := 138) dX10_cut_138 nb_8) ?_
  refine ev_br (br_icmp_gt (tgt := 179) (pc := 140) dX10_cut_140 (by decide)) (fun _ => ?_) (fun _ => ?_)
  · refine ev_sub (ls' := [(0, .ref (gB G + v0)), (1, .int v1), (2, .int v2), (3, .int v3), (4, .long v4), (6, .int s0)]) [1, 2, 3, 4, 5, 0] rfl ?_
    exact tX10_cut_179 G fu h0 v0 v1 v2 v3 v4 s0 k7 hk7 h
  · refine ev_step (st_iconst (pc := 143) dX10_cut_143 ni_0) ?_
    refine ev_step (st_istore (pc := 144) (ls' := [(7, .int ((0 : Int32))), (6, .int s0), (0, .ref (gB G + v0)), (1, .int v1), (2, .int v2), (3, .int v3), (4, .long v4)]) dX10_cut_144 (by decide) rfl) ?_
    refine ev_sub (ls' := [(0, .ref (gB G + v0)), (1, .int v1), (2, .int v2), (3, .int v3), (4, .long v4), (6, .int s0), (7, .int ((0 : Int32)))]) [2, 3, 4, 5, 6, 1, 0] rfl ?_
    exact tX10_cut_146 G fu h0 v0 v1 v2 v3 v4 k7 hk7 fu s0 ((0 : Int32)) h
set_option maxRecDepth 100000 in
set_option maxHeartbeats 4000000 in
theorem tX10_cut_124 (G : gx) (fu : Nat) (h0 : mh) (v0 : Nat) (v1 : Int32) (v2 : Int32) (v3 : Int32) (v4 : Int64) (k7 : Int32 × mh → Option (Unit × mh)) (hk7 : ∀ (v1 : Int32) (h : mh), Ev lV G yX10_cut cX10_cut 8 (none) 3 h0 7 [(0, .ref (gB G + v0)), (1, .int v1)] [] h (k7 (v1, h))) (h : mh) : Ev lV G yX10_cut cX10_cut 8 (none) 3 h0 124 [(0, .ref (gB G + v0)), (1, .int v1), (2, .int v2), (3, .int v3), (4, .long v4)] [] h (fX10_cut_124 fu k7 v0 v1 v2 v3 v4 h) := by
  unfold fX10_cut_124
  refine ev_step (st_iload_n (pc := 124) (j := 3) dX10_cut_124 rfl rfl) ?_
  refine ev_step (st_bipush (pc := 125) dX10_cut_125 nb_8) ?_
  refine ev_br (br_icmp_le (tgt := 134) (pc := 127) dX10_cut_127 (by decide)) (fun _ => ?_) (fun _ => ?_)
  · refine ev_step (st_iconst (pc := 134) dX10_cut_134 ni_1) ?_
    refine ev_sub (ls' := [(0, .ref (gB G + v0)), (1, .int v1), (2, .int v2), (3, .int v3), (4, .long v4)]) [0, 1, 2, 3, 4] rfl ?_
    exact tX10_cut_135 G fu h0 v0 v1 v2 v3 v4 ((1 : Int32)) k7 hk7 h
  · refine ev_step (st_iconst (pc := 130) dX10_cut_130 ni_3) ?_
    refine ev_step (st_goto (pc := 131) (tgt := 135) dX10_cut_131 (by decide)) ?_
    refine ev_sub (ls' := [(0, .ref (gB G + v0)), (1, .int v1), (2, .int v2), (3, .int v3), (4, .long v4)]) [0, 1, 2, 3, 4] rfl ?_
    exact tX10_cut_135 G fu h0 v0 v1 v2 v3 v4 ((3 : Int32)) k7 hk7 h
set_option maxRecDepth 100000 in
set_option maxHeartbeats 4000000 in
theorem tX10_cut_85 (G : gx) (fu : Nat) (h0 : mh) (v0 : Nat) (v1 : Int32) (v2 : Int32) (k7 : Int32 × mh → Option (Unit × mh)) (hk7 : ∀ (v1 : Int32) (h : mh), Ev lV G yX10_cut cX10_cut 8 (none) 3 h0 7 [(0, .ref (gB G + v0)), (1, .int v1)] [] h (k7 (v1, h))) (n : Nat) (v3 : Int32) (v4 : Int64) (h : mh) : Ev lV G yX10_cut cX10_cut 8 (none) 3 h0 85 [(0, .ref (gB G + v0)), (1, .int v1), (2, .int v2), (3, .int v3), (4, .long v4)] [] h (itr (bX10_cut_85 fu k7 v0 v1 v2) n (v3, v4, h)) := by
  refine ev_itr (P := fun (q : Int32 × Int64 × mh) (R9 : Option (Unit × mh)) => Ev lV G yX10_cut cX10_cut 8 (none) 3 h0 85 [(0, .ref (gB G + v0)), (1, .int v1), (2, .int v2), (3, .int q.1), (4, .long q.2.1)] [] q.2.2 R9) (fun _ => ev_none) (fun k85 hk9 q => ?_) n (v3, v4, h)
  obtain ⟨v3, v4, h⟩ := q
  have hk85 : ∀ (v3 : Int32) (v4 : Int64) (h : mh), Ev lV G yX10_cut cX10_cut 8 (none) 3 h0 85 [(0, .ref (gB G + v0)), (1, .int v1), (2, .int v2), (3, .int v3), (4, .long v4)] [] h (k85 (v3, v4, h)) := fun v3 v4 h => hk9 (v3, v4, h)
  show Ev lV G yX10_cut cX10_cut 8 (none) 3 h0 85 [(0, .ref (gB G + v0)), (1, .int v1), (2, .int v2), (3, .int v3), (4, .long v4)] [] h (bX10_cut_85 fu k7 v0 v1 v2 k85 (v3, v4, h))
  unfold bX10_cut_85
  refine ev_step (st_aload_n (pc := 85) (j := 0) dX10_cut_85 rfl rfl) ?_
  refine ev_step (st_iload_n (pc := 86) (j := 1) dX10_cut_86 rfl rfl) ?_
  refine ev_step (st_iload_n (pc := 87) (j := 3) dX10_cut_87 rfl rfl) ?_
  refine ev_step (st_iadd (pc := 88) dX10_cut_88) ?_
  refine ev_ck (fun ha hS => ?_)
  refine ev_callI (iv_V (As := [.int (v1 + v3)]) (st := []) (pc := 89) rfl m_X10_byteAt l_X10_181 i_X10_byteAt e_X10_byteAt ha hS rfl (Nat.le_of_ble_eq_true rfl) rfl dX10_cut_89) (tX10_byteAt G fu v0 (v1 + v3) h) (by decide) (by decide) (fun x2 h1 => ?_)
  refine ev_callI (iv_S (As := [.int x2]) (st := []) (pc := 92) m_X10_isLetter l_X10_189 z_X10_isLetter rfl (Nat.le_of_ble_eq_true rfl) rfl dX10_cut_92) (tX10_isLetter G fu x2 h1) (by decide) (by decide) (fun x4 h3 => ?_)
  refine ev_br (br_if_eq (tgt := 124) (pc := 95) dX10_cut_95 (by decide)) (fun _ => ?_) (fun _ => ?_)
  · refine ev_sub (ls' := [(0, .ref (gB G + v0)), (1, .int v1), (2, .int v2), (3, .int v3), (4, .long v4)]) [0, 1, 2, 3, 4] rfl ?_
    exact tX10_cut_124 G fu h0 v0 v1 v2 v3 v4 k7 hk7 h3
  · refine ev_step (st_iload_n (pc := 98) (j := 3) dX10_cut_98 rfl rfl) ?_
    refine ev_step (st_bipush (pc := 99) dX10_cut_99 nb_8) ?_
    refine ev_br (br_icmp_ge (tgt := 118) (pc := 101) dX10_cut_101 (by decide)) (fun _ => ?_) (fun _ => ?_)
    · refine ev_sub (ls' := [(0, .ref (gB G + v0)), (1, .int v1), (2, .int v2), (3, .int v3), (4, .long v4)]) [0, 1, 2, 3, 4] rfl ?_
      exact tX10_cut_118 G fu h0 v0 v1 v2 v3 v4 k7 hk7 k85 hk85 h3
    · refine ev_step (st_lload (pc := 104) (j := 4) dX10_cut_104 rfl) ?_
      refine ev_step (st_aload_n (pc := 106) (j := 0) dX10_cut_106 rfl rfl) ?_
      refine ev_step (st_iload_n (pc := 107) (j := 1) dX10_cut_107 rfl rfl) ?_
      refine ev_step (st_iload_n (pc := 108) (j := 3) dX10_cut_108 rfl rfl) ?_
      refine ev_step (st_iadd (pc := 109) dX10_cut_109) ?_
      refine ev_ck (fun ha hS => ?_)
      refine ev_callI (iv_V (As := [.int (v1 + v3)]) (st := [.long v4]) (pc := 110) rfl m_X10_byteAt l_X10_181 i_X10_byteAt e_X10_byteAt ha hS rfl (Nat.le_of_ble_eq_true rfl) rfl dX10_cut_110) (tX10_byteAt G fu v0 (v1 + v3) h3) (by decide) (by decide) (fun x6 h5 => ?_)
      refine ev_callL (iv_S (As := [.long v4, .int x6]) (st := []) (pc := 113) m_X10_appends l_X10_157 z_X10_appends rfl (Nat.le_of_ble_eq_true rfl) rfl dX10_cut_113) (tX10_appends G fu v4 x6 h5) (by decide) (by decide) (fun x8 h7 => ?_)
      refine ev_step (st_lstore (pc := 116) (ls' := [(4, .long x8), (0, .ref (gB G + v0)), (1, .int v1), (2, .int v2), (3, .int v3)]) dX10_cut_116 (by decide) rfl) ?_
      refine ev_sub (ls' := [(0, .ref (gB G + v0)), (1, .int v1), (2, .int v2), (3, .int v3), (4, .long x8)]) [1, 2, 3, 4, 0] rfl ?_
      exact tX10_cut_118 G fu h0 v0 v1 v2 v3 x8 k7 hk7 k85 hk85 h7
set_option maxRecDepth 100000 in
set_option maxHeartbeats 4000000 in
theorem tX10_cut_244 (G : gx) (fu : Nat) (h0 : mh) (v0 : Nat) (v1 : Int32) (v2 : Int32) (v3 : Int32) (v4 : Int32) (k7 : Int32 × mh → Option (Unit × mh)) (hk7 : ∀ (v1 : Int32) (h : mh), Ev lV G yX10_cut cX10_cut 8 (none) 3 h0 7 [(0, .ref (gB G + v0)), (1, .int v1)] [] h (k7 (v1, h))) (k208 : Int32 × Int32 × mh → Option (Unit × mh)) (hk208 : ∀ (v3 : Int32) (v4 : Int32) (h : mh), Ev lV G yX10_cut cX10_cut 8 (none) 3 h0 208 [(0, .ref (gB G + v0)), (1, .int v1), (2, .int v2), (3, .int v3), (4, .int v4)] [] h (k208 (v3, v4, h))) (h : mh) : Ev lV G yX10_cut cX10_cut 8 (none) 3 h0 244 [(0, .ref (gB G + v0)), (1, .int v1), (2, .int v2), (3, .int v3), (4, .int v4)] [] h (fX10_cut_244 fu k7 k208 v0 v1 v2 v3 v4 h) := by
  unfold fX10_cut_244
  refine ev_step (st_inc (pc := 244) (j := 3) (ls' := [(3, .int (v3 + (1 : Int32))), (0, .ref (gB G + v0)), (1, .int v1), (2, .int v2), (4, .int v4)]) dX10_cut_244 rfl ni_1 (by decide) rfl) ?_
  refine ev_step (st_goto (pc := 247) (tgt := 208) dX10_cut_247 (by decide)) ?_
  refine ev_sub (ls' := [(0, .ref (gB G + v0)), (1, .int v1), (2, .int v2), (3, .int (v3 + (1 : Int32))), (4, .int v4)]) [1, 2, 3, 0, 4] rfl ?_
  exact hk208 (v3 + (1 : Int32)) v4 h
set_option maxRecDepth 100000 in
set_option maxHeartbeats 4000000 in
theorem tX10_cut_261 (G : gx) (fu : Nat) (h0 : mh) (v0 : Nat) (v1 : Int32) (v2 : Int32) (v3 : Int32) (v4 : Int32) (s0 : Nat) (s1 : Int32) (k7 : Int32 × mh → Option (Unit × mh)) (hk7 : ∀ (v1 : Int32) (h : mh), Ev lV G yX10_cut cX10_cut 8 (none) 3 h0 7 [(0, .ref (gB G + v0)), (1, .int v1)] [] h (k7 (v1, h))) (h : mh) : Ev lV G yX10_cut cX10_cut 8 (none) 3 h0 261 [(0, .ref (gB G + v0)), (1, .int v1), (2, .int v2), (3, .int v3), (4, .int v4)] [.int s1, .ref (gB G + s0)] h (fX10_cut_261 fu k7 v0 v1 v2 v3 v4 s0 s1 h) := by
  unfold fX10_cut_261
  refine ev_step (st_iload_n (pc := 261) (j := 1) dX10_cut_261 rfl rfl) ?_
  refine ev_step (st_iload (pc := 262) (j := 4) dX10_cut_262 rfl) ?_
  refine ev_step (st_lconst (pc := 264) (v := 0) dX10_cut_264 rfl) ?_
  refine ev_ck (fun ha hS => ?_)
  refine ev_callV (iv_V (As := [.int s1, .int v1, .int v4, .long ((0 : Int64))]) (st := []) (pc := 265) rfl m_X10_token l_X10_185 i_X10_token e_X10_token ha hS rfl (Nat.le_of_ble_eq_true rfl) rfl dX10_cut_265) (tX10_token G fu s0 s1 v1 v4 ((0 : Int64)) h) (by decide) (by decide) (fun h1 => ?_)
  refine ev_step (st_iload_n (pc := 268) (j := 1) dX10_cut_268 rfl rfl) ?_
  refine ev_step (st_iload_n (pc := 269) (j := 3) dX10_cut_269 rfl rfl) ?_
  refine ev_step (st_iadd (pc := 270) dX10_cut_270) ?_
  refine ev_top (fun x2 => ?_)
  refine ev_step (st_istore_n (pc := 271) (ls' := [(1, .int x2), (0, .ref (gB G + v0)), (2, .int v2), (3, .int v3), (4, .int v4)]) dX10_cut_271 rfl (by decide) rfl) ?_
  refine ev_step (st_goto (pc := 272) (tgt := 291) dX10_cut_272 (by decide)) ?_
  refine ev_sub (ls' := [(0, .ref (gB G + v0)), (1, .int x2), (2, .int v2)]) [1, 0, 2] rfl ?_
  exact tX10_cut_291 G fu h0 v0 x2 v2 k7 hk7 h1
set_option maxRecDepth 100000 in
set_option maxHeartbeats 4000000 in
theorem tX10_cut_250 (G : gx) (fu : Nat) (h0 : mh) (v0 : Nat) (v1 : Int32) (v2 : Int32) (v3 : Int32) (v4 : Int32) (k7 : Int32 × mh → Option (Unit × mh)) (hk7 : ∀ (v1 : Int32) (h : mh), Ev lV G yX10_cut cX10_cut 8 (none) 3 h0 7 [(0, .ref (gB G + v0)), (1, .int v1)] [] h (k7 (v1, h))) (h : mh) : Ev lV G yX10_cut cX10_cut 8 (none) 3 h0 250 [(0, .ref (gB G + v0)), (1, .int v1), (2, .int v2), (3, .int v3), (4, .int v4)] [] h (fX10_cut_250 fu k7 v0 v1 v2 v3 v4 h) := by
  unfold fX10_cut_250
  refine ev_step (st_aload_n (pc := 250) (j := 0) dX10_cut_250 rfl rfl) ?_
  refine ev_step (st_iload_n (pc := 251) (j := 3) dX10_cut_251 rfl rfl) ?_
  refine ev_step (st_iconst (pc := 252) dX10_cut_252 ni_4) ?_
  refine ev_br (br_icmp_le (tgt := 260) (pc := 253) dX10_cut_253 (by decide)) (fun _ => ?_) (fun _ => ?_)
  · refine ev_step (st_iconst (pc := 260) dX10_cut_260 ni_2) ?_
    refine ev_sub (ls' := [(0, .ref (gB G + v0)), (1, .int v1), (2, .int v2), (3, .int v3), (4, .int v4)]) [0, 1, 2, 3, 4] rfl ?_
    exact tX10_cut_261 G fu h0 v0 v1 v2 v3 v4 v0 ((2 : Int32)) k7 hk7 h
  · refine ev_step (st_iconst (pc := 256) dX10_cut_256 ni_3) ?_
    refine ev_step (st_goto (pc := 257) (tgt := 261) dX10_cut_257 (by decide)) ?_
    refine ev_sub (ls' := [(0, .ref (gB G + v0)), (1, .int v1), (2, .int v2), (3, .int v3), (4, .int v4)]) [0, 1, 2, 3, 4] rfl ?_
    exact tX10_cut_261 G fu h0 v0 v1 v2 v3 v4 v0 ((3 : Int32)) k7 hk7 h
set_option maxRecDepth 100000 in
set_option maxHeartbeats 4000000 in
theorem tX10_cut_208 (G : gx) (fu : Nat) (h0 : mh) (v0 : Nat) (v1 : Int32) (v2 : Int32) (k7 : Int32 × mh → Option (Unit × mh)) (hk7 : ∀ (v1 : Int32) (h : mh), Ev lV G yX10_cut cX10_cut 8 (none) 3 h0 7 [(0, .ref (gB G + v0)), (1, .int v1)] [] h (k7 (v1, h))) (n : Nat) (v3 : Int32) (v4 : Int32) (h : mh) : Ev lV G yX10_cut cX10_cut 8 (none) 3 h0 208 [(0, .ref (gB G + v0)), (1, .int v1), (2, .int v2), (3, .int v3), (4, .int v4)] [] h (itr (bX10_cut_208 fu k7 v0 v1 v2) n (v3, v4, h)) := by
  refine ev_itr (P := fun (q : Int32 × Int32 × mh) (R9 : Option (Unit × mh)) => Ev lV G yX10_cut cX10_cut 8 (none) 3 h0 208 [(0, .ref (gB G + v0)), (1, .int v1), (2, .int v2), (3, .int q.1), (4, .int q.2.1)] [] q.2.2 R9) (fun _ => ev_none) (fun k208 hk9 q => ?_) n (v3, v4, h)
  obtain ⟨v3, v4, h⟩ := q
  have hk208 : ∀ (v3 : Int32) (v4 : Int32) (h : mh), Ev lV G yX10_cut cX10_cut 8 (none) 3 h0 208 [(0, .ref (gB G + v0)), (1, .int v1), (2, .int v2), (3, .int v3), (4, .int v4)] [] h (k208 (v3, v4, h)) := fun v3 v4 h => hk9 (v3, v4, h)
  show Ev lV G yX10_cut cX10_cut 8 (none) 3 h0 208 [(0, .ref (gB G + v0)), (1, .int v1), (2, .int v2), (3, .int v3), (4, .int v4)] [] h (bX10_cut_208 fu k7 v0 v1 v2 k208 (v3, v4, h))
  unfold bX10_cut_208
  refine ev_step (st_aload_n (pc := 208) (j := 0) dX10_cut_208 rfl rfl) ?_
  refine ev_step (st_iload_n (pc := 209) (j := 1) dX10_cut_209 rfl rfl) ?_
  refine ev_step (st_iload_n (pc := 210) (j := 3) dX10_cut_210 rfl rfl) ?_
  refine ev_step (st_iadd (pc := 211) dX10_cut_211) ?_
  refine ev_ck (fun ha hS => ?_)
  refine ev_callI (iv_V (As := [.int (v1 + v3)]) (st := []) (pc := 212) rfl m_X10_byteAt l_X10_181 i_X10_byteAt e_X10_byteAt ha hS rfl (Nat.le_of_ble_eq_true rfl) rfl dX10_cut_212) (tX10_byteAt G fu v0 (v1 + v3) h) (by decide) (by decide) (fun x2 h1 => ?_)
  refine ev_callI (iv_S (As := [.int x2]) (st := []) (pc := 215) m_X10_isDigit l_X10_193 z_X10_isDigit rfl (Nat.le_of_ble_eq_true rfl) rfl dX10_cut_215) (tX10_isDigit G fu x2 h1) (by decide) (by decide) (fun x4 h3 => ?_)
  refine ev_br (br_if_eq (tgt := 250) (pc := 218) dX10_cut_218 (by decide)) (fun _ => ?_) (fun _ => ?_)
  · refine ev_sub (ls' := [(0, .ref (gB G + v0)), (1, .int v1), (2, .int v2), (3, .int v3), (4, .int v4)]) [0, 1, 2, 3, 4] rfl ?_
    exact tX10_cut_250 G fu h0 v0 v1 v2 v3 v4 k7 hk7 h3
  · refine ev_step (st_iload_n (pc := 221) (j := 3) dX10_cut_221 rfl rfl) ?_
    refine ev_step (st_iconst (pc := 222) dX10_cut_222 ni_4) ?_
    refine ev_br (br_icmp_ge (tgt := 244) (pc := 223) dX10_cut_223 (by decide)) (fun _ => ?_) (fun _ => ?_)
    · refine ev_sub (ls' := [(0, .ref (gB G + v0)), (1, .int v1), (2, .int v2), (3, .int v3), (4, .int v4)]) [0, 1, 2, 3, 4] rfl ?_
      exact tX10_cut_244 G fu h0 v0 v1 v2 v3 v4 k7 hk7 k208 hk208 h3
    · refine ev_step (st_bipush (pc := 226) dX10_cut_226 nb_10) ?_
      refine ev_step (st_iload (pc := 228) (j := 4) dX10_cut_228 rfl) ?_
      refine ev_step (st_imul (pc := 230) dX10_cut_230) ?_
      refine ev_step (st_aload_n (pc := 231) (j := 0) dX10_cut_231 rfl rfl) ?_
      refine ev_step (st_iload_n (pc := 232) (j := 1) dX10_cut_232 rfl rfl) ?_
      refine ev_step (st_iload_n (pc := 233) (j := 3) dX10_cut_233 rfl rfl) ?_
      refine ev_step (st_iadd (pc := 234) dX10_cut_234) ?_
      refine ev_ck (fun ha hS => ?_)
      refine ev_callI (iv_V (As := [.int (v1 + v3)]) (st := [.int (((10 : Int32)) * v4)]) (pc := 235) rfl m_X10_byteAt l_X10_181 i_X10_byteAt e_X10_byteAt ha hS rfl (Nat.le_of_ble_eq_true rfl) rfl dX10_cut_235) (tX10_byteAt G fu v0 (v1 + v3) h3) (by decide) (by decide) (fun x6 h5 => ?_)
      refine ev_step (st_iadd (pc := 238) dX10_cut_238) ?_
      refine ev_step (st_bipush (pc := 239) dX10_cut_239 nb_48) ?_
      refine ev_step (st_isub (pc := 241) dX10_cut_241) ?_
      refine ev_top (fun x7 => ?_)
      refine ev_step (st_istore (pc := 242) (ls' := [(4, .int x7), (0, .ref (gB G + v0)), (1, .int v1), (2, .int v2), (3, .int v3)]) dX10_cut_242 (by decide) rfl) ?_
      refine ev_sub (ls' := [(0, .ref (gB G + v0)), (1, .int v1), (2, .int v2), (3, .int v3), (4, .int x7)]) [1, 2, 3, 4, 0] rfl ?_
      exact tX10_cut_244 G fu h0 v0 v1 v2 v3 x7 k7 hk7 k208 hk208 h5
set_option maxRecDepth 100000 in
set_option maxHeartbeats 4000000 in
theorem tX10_cut_7 (G : gx) (fu : Nat) (h0 : mh) (v0 : Nat) (n : Nat) (v1 : Int32) (h : mh) : Ev lV G yX10_cut cX10_cut 8 (none) 3 h0 7 [(0, .ref (gB G + v0)), (1, .int v1)] [] h (itr (bX10_cut_7 fu v0) n (v1, h)) := by
  refine ev_itr (P := fun (q : Int32 × mh) (R9 : Option (Unit × mh)) => Ev lV G yX10_cut cX10_cut 8 (none) 3 h0 7 [(0, .ref (gB G + v0)), (1, .int q.1)] [] q.2 R9) (fun _ => ev_none) (fun k7 hk9 q => ?_) n (v1, h)
  obtain ⟨v1, h⟩ := q
  have hk7 : ∀ (v1 : Int32) (h : mh), Ev lV G yX10_cut cX10_cut 8 (none) 3 h0 7 [(0, .ref (gB G + v0)), (1, .int v1)] [] h (k7 (v1, h)) := fun v1 h => hk9 (v1, h)
  show Ev lV G yX10_cut cX10_cut 8 (none) 3 h0 7 [(0, .ref (gB G + v0)), (1, .int v1)] [] h (bX10_cut_7 fu v0 k7 (v1, h))
  unfold bX10_cut_7
  refine ev_step (st_aload_n (pc := 7) (j := 0) dX10_cut_7 rfl rfl) ?_
  refine ev_getI (pc := 8) k_X10_178 rfl dX10_cut_8 (fun x1 => ?_)
  refine ev_step (st_sipush (pc := 11) dX10_cut_11 ns_400) ?_
  refine ev_br (br_icmp_gt (tgt := 294) (pc := 14) dX10_cut_14 (by decide)) (fun _ => ?_) (fun _ => ?_)
  · exact ev_vret (pc := 294) dX10_cut_294
  · refine ev_step (st_aload_n (pc := 17) (j := 0) dX10_cut_17 rfl rfl) ?_
    refine ev_step (st_iload_n (pc := 18) (j := 1) dX10_cut_18 rfl rfl) ?_
    refine ev_ck (fun ha hS => ?_)
    refine ev_callI (iv_V (As := [.int v1]) (st := []) (pc := 19) rfl m_X10_byteAt l_X10_181 i_X10_byteAt e_X10_byteAt ha hS rfl (Nat.le_of_ble_eq_true rfl) rfl dX10_cut_19) (tX10_byteAt G fu v0 v1 h) (by decide) (by decide) (fun x3 h2 => ?_)
    refine ev_step (st_istore_n (pc := 22) (ls' := [(2, .int x3), (0, .ref (gB G + v0)), (1, .int v1)]) dX10_cut_22 rfl (by decide) rfl) ?_
    refine ev_step (st_iload_n (pc := 23) (j := 2) dX10_cut_23 rfl rfl) ?_
    refine ev_step (st_aload_n (pc := 24) (j := 1) dX10_cut_24 rfl rfl) ?_
    refine ev_getI (pc := 25) k_X10_173 rfl dX10_cut_25 (fun x4 => ?_)
    refine ev_br (br_icmp_lt (tgt := 43) (pc := 28) dX10_cut_28 (by decide)) (fun _ => ?_) (fun _ => ?_)
    · refine ev_step (st_iload_n (pc := 43) (j := 0) dX10_cut_43 rfl rfl) ?_
      refine ev_step (st_bipush (pc := 44) dX10_cut_44 nb_9) ?_
      refine ev_br (br_icmp_eq (tgt := 67) (pc := 46) dX10_cut_46 (by decide)) (fun _ => ?_) (fun _ => ?_)
      · refine ev_sub (ls' := [(0, .ref (gB G + v0)), (1, .int v1), (2, .int x3)]) [1, 2, 0] rfl ?_
        exact tX10_cut_67 G fu h0 v0 v1 x3 k7 hk7 h2
      · refine ev_step (st_iload_n (pc := 49) (j := 0) dX10_cut_49 rfl rfl) ?_
        refine ev_step (st_bipush (pc := 50) dX10_cut_50 nb_10) ?_
        refine ev_br (br_icmp_eq (tgt := 67) (pc := 52) dX10_cut_52 (by decide)) (fun _ => ?_) (fun _ => ?_)
        · refine ev_sub (ls' := [(0, .ref (gB G + v0)), (1, .int v1), (2, .int x3)]) [1, 2, 0] rfl ?_
          exact tX10_cut_67 G fu h0 v0 v1 x3 k7 hk7 h2
        · refine ev_step (st_iload_n (pc := 55) (j := 0) dX10_cut_55 rfl rfl) ?_
          refine ev_step (st_bipush (pc := 56) dX10_cut_56 nb_13) ?_
          refine ev_br (br_icmp_eq (tgt := 67) (pc := 58) dX10_cut_58 (by decide)) (fun _ => ?_) (fun _ => ?_)
          · refine ev_sub (ls' := [(0, .ref (gB G + v0)), (1, .int v1), (2, .int x3)]) [1, 2, 0] rfl ?_
            exact tX10_cut_67 G fu h0 v0 v1 x3 k7 hk7 h2
          · refine ev_step (st_iload_n (pc := 61) (j := 0) dX10_cut_61 rfl rfl) ?_
            refine ev_step (st_bipush (pc := 62) dX10_cut_62 nb_32) ?_
            refine ev_br (br_icmp_ne (tgt := 73) (pc := 64) dX10_cut_64 (by decide)) (fun _ => ?_) (fun _ => ?_)
            · refine ev_sub (ls' := [(0, .ref (gB G + v0)), (1, .int v1), (2, .int x3)]) [1, 2, 0] rfl ?_
              exact tX10_cut_67 G fu h0 v0 v1 x3 k7 hk7 h2
            · refine ev_step (st_iload_n (pc := 73) (j := 0) dX10_cut_73 rfl rfl) ?_
              refine ev_callI (iv_S (As := [.int x3]) (st := []) (pc := 74) m_X10_isLetter l_X10_189 z_X10_isLetter rfl (Nat.le_of_ble_eq_true rfl) rfl dX10_cut_74) (tX10_isLetter G fu x3 h2) (by decide) (by decide) (fun x6 h5 => ?_)
              refine ev_br (br_if_eq (tgt := 196) (pc := 77) dX10_cut_77 (by decide)) (fun _ => ?_) (fun _ => ?_)
              · refine ev_step (st_iload_n (pc := 196) (j := 0) dX10_cut_196 rfl rfl) ?_
                refine ev_callI (iv_S (As := [.int x3]) (st := []) (pc := 197) m_X10_isDigit l_X10_193 z_X10_isDigit rfl (Nat.le_of_ble_eq_true rfl) rfl dX10_cut_197) (tX10_isDigit G fu x3 h5) (by decide) (by decide) (fun x8 h7 => ?_)
                refine ev_br (br_if_eq (tgt := 275) (pc := 200) dX10_cut_200 (by decide)) (fun _ => ?_) (fun _ => ?_)
                · refine ev_step (st_iload_n (pc := 275) (j := 2) dX10_cut_275 rfl rfl) ?_
                  refine ev_step (st_aload_n (pc := 276) (j := 1) dX10_cut_276 rfl rfl) ?_
                  refine ev_step (st_iload_n (pc := 277) (j := 2) dX10_cut_277 rfl rfl) ?_
                  refine ev_step (st_iload_n (pc := 278) (j := 0) dX10_cut_278 rfl rfl) ?_
                  refine ev_step (st_aload_n (pc := 279) (j := 1) dX10_cut_279 rfl rfl) ?_
                  refine ev_step (st_iload_n (pc := 280) (j := 2) dX10_cut_280 rfl rfl) ?_
                  refine ev_step (st_iconst (pc := 281) dX10_cut_281 ni_1) ?_
                  refine ev_step (st_iadd (pc := 282) dX10_cut_282) ?_
                  refine ev_ck (fun ha hS => ?_)
                  refine ev_callI (iv_V (As := [.int (v1 + ((1 : Int32)))]) (st := [.int x3, .int v1, .ref (gB G + v0), .int v1]) (pc := 283) rfl m_X10_byteAt l_X10_181 i_X10_byteAt e_X10_byteAt ha hS rfl (Nat.le_of_ble_eq_true rfl) rfl dX10_cut_283) (tX10_byteAt G fu v0 (v1 + ((1 : Int32))) h7) (by decide) (by decide) (fun x10 h9 => ?_)
                  refine ev_ck (fun ha hS => ?_)
                  refine ev_callI (iv_V (As := [.int v1, .int x3, .int x10]) (st := [.int v1]) (pc := 286) rfl m_X10_sign l_X10_196 i_X10_sign e_X10_sign ha hS rfl (Nat.le_of_ble_eq_true rfl) rfl dX10_cut_286) (tX10_sign G fu v0 v1 x3 x10 h9) (by decide) (by decide) (fun x12 h11 => ?_)
                  refine ev_step (st_iadd (pc := 289) dX10_cut_289) ?_
                  refine ev_top (fun x13 => ?_)
                  refine ev_step (st_istore_n (pc := 290) (ls' := [(1, .int x13), (2, .int x3), (0, .ref (gB G + v0))]) dX10_cut_290 rfl (by decide) rfl) ?_
                  refine ev_sub (ls' := [(0, .ref (gB G + v0)), (1, .int x13), (2, .int x3)]) [2, 0, 1] rfl ?_
                  exact tX10_cut_291 G fu h0 v0 x13 x3 k7 hk7 h11
                · refine ev_step (st_iconst (pc := 203) dX10_cut_203 ni_0) ?_
                  refine ev_step (st_istore_n (pc := 204) (ls' := [(3, .int ((0 : Int32))), (2, .int x3), (0, .ref (gB G + v0)), (1, .int v1)]) dX10_cut_204 rfl (by decide) rfl) ?_
                  refine ev_step (st_iconst (pc := 205) dX10_cut_205 ni_0) ?_
                  refine ev_step (st_istore (pc := 206) (ls' := [(4, .int ((0 : Int32))), (3, .int ((0 : Int32))), (2, .int x3), (0, .ref (gB G + v0)), (1, .int v1)]) dX10_cut_206 (by decide) rfl) ?_
                  refine ev_sub (ls' := [(0, .ref (gB G + v0)), (1, .int v1), (2, .int x3), (3, .int ((0 : Int32))), (4, .int ((0 : Int32)))]) [3, 4, 2, 1, 0] rfl ?_
                  exact tX10_cut_208 G fu h0 v0 v1 x3 k7 hk7 fu ((0 : Int32)) ((0 : Int32)) h7
              · refine ev_step (st_iconst (pc := 80) dX10_cut_80 ni_0) ?_
                refine ev_step (st_istore_n (pc := 81) (ls' := [(3, .int ((0 : Int32))), (2, .int x3), (0, .ref (gB G + v0)), (1, .int v1)]) dX10_cut_81 rfl (by decide) rfl) ?_
                refine ev_step (st_lconst (pc := 82) (v := 0) dX10_cut_82 rfl) ?_
                refine ev_step (st_lstore (pc := 83) (ls' := [(4, .long ((0 : Int64))), (3, .int ((0 : Int32))), (2, .int x3), (0, .ref (gB G + v0)), (1, .int v1)]) dX10_cut_83 (by decide) rfl) ?_
                refine ev_sub (ls' := [(0, .ref (gB G + v0)), (1, .int v1), (2, .int x3), (3, .int ((0 : Int32))), (4, .long ((0 : Int64)))]) [3, 4, 2, 1, 0] rfl ?_
                exact tX10_cut_85 G fu h0 v0 v1 x3 k7 hk7 fu ((0 : Int32)) ((0 : Int64)) h5
    · refine ev_sub (ls' := [(0, .ref (gB G + v0)), (1, .int v1), (2, .int x3)]) [1, 2, 0] rfl ?_
      exact tX10_cut_31 G fu h0 v0 v1 x3 h2
set_option maxRecDepth 100000 in
set_option maxHeartbeats 4000000 in
theorem tX10_cut (G : gx) (fu : Nat) (v0 : Nat) (h : mh) : Ct lV G yX10_cut cX10_cut 8 (none) 3 [.ref (gB G + v0)] h (fX10_cut fu v0 h) := by
  refine ct_ls (ls := [(0, .ref (gB G + v0))]) rfl (by decide) (Nat.le_of_ble_eq_true rfl) ?_
  unfold fX10_cut
  refine ev_step (st_aload_n (pc := 0) (j := 0) dX10_cut_0 rfl rfl) ?_
  refine ev_step (st_iconst (pc := 1) dX10_cut_1 ni_0) ?_
  refine ev_putI (pc := 2) (p_X10_178 _ rfl) rfl dX10_cut_2 (fun h1 => ?_)
  refine ev_step (st_iconst (pc := 5) dX10_cut_5 ni_0) ?_
  refine ev_step (st_istore_n (pc := 6) (ls' := [(1, .int ((0 : Int32))), (0, .ref (gB G + v0))]) dX10_cut_6 rfl (by decide) rfl) ?_
  refine ev_sub (ls' := [(0, .ref (gB G + v0)), (1, .int ((0 : Int32)))]) [1, 0] rfl ?_
  exact tX10_cut_7 G fu h v0 fu ((0 : Int32)) h1
set_option maxRecDepth 100000 in
set_option maxHeartbeats 4000000 in
theorem tX10_toldInt (G : gx) (fu : Nat) (v0 : Nat) (v1 : Int32) (v2 : Int32) (h : mh) : Ct lI G yX10_toldInt cX10_toldInt 4 (some .int) 4 [.ref (gB G + v0), .int v1, .int v2] h (fX10_toldInt fu v0 v1 v2 h) := by
  refine ct_ls (ls := [(0, .ref (gB G + v0)), (1, .int v1), (2, .int v2)]) rfl (by decide) (Nat.le_of_ble_eq_true rfl) ?_
  unfold fX10_toldInt
  refine ev_step (st_aload_n (pc := 0) (j := 0) dX10_toldInt_0 rfl rfl) ?_
  refine ev_ck (fun ha hS => ?_)
  refine ev_callV (iv_V (As := []) (st := []) (pc := 1) rfl m_X10_goesOn l_X10_221 i_X10_goesOn e_X10_goesOn ha hS rfl (Nat.le_of_ble_eq_true rfl) rfl dX10_toldInt_1) (tX10_goesOn G fu v0 h) (by decide) (by decide) (fun h1 => ?_)
  refine ev_step (st_aload_n (pc := 4) (j := 0) dX10_toldInt_4 rfl rfl) ?_
  refine ev_step (st_iload_n (pc := 5) (j := 1) dX10_toldInt_5 rfl rfl) ?_
  refine ev_step (st_iload_n (pc := 6) (j := 2) dX10_toldInt_6 rfl rfl) ?_
  refine ev_ck (fun ha hS => ?_)
  refine ev_callI (iv_V (As := [.int v1, .int v2]) (st := []) (pc := 7) rfl m_X10_bounded l_X10_254 i_X10_bounded e_X10_bounded ha hS rfl (Nat.le_of_ble_eq_true rfl) rfl dX10_toldInt_7) (tX10_bounded G fu v0 v1 v2 h1) (by decide) (by decide) (fun x3 h2 => ?_)
  refine ev_step (st_istore_n (pc := 10) (ls' := [(3, .int x3), (0, .ref (gB G + v0)), (1, .int v1), (2, .int v2)]) dX10_toldInt_10 rfl (by decide) rfl) ?_
  refine ev_step (st_aload_n (pc := 11) (j := 1) dX10_toldInt_11 rfl rfl) ?_
  refine ev_step (st_iconst (pc := 12) dX10_toldInt_12 ni_4) ?_
  refine ev_ck (fun ha hS => ?_)
  refine ev_callV (iv_V (As := [.int ((4 : Int32))]) (st := []) (pc := 13) rfl m_X10_must l_X10_258 i_X10_must e_X10_must ha hS rfl (Nat.le_of_ble_eq_true rfl) rfl dX10_toldInt_13) (tX10_must G fu v0 ((4 : Int32)) h2) (by decide) (by decide) (fun h4 => ?_)
  refine ev_step (st_iload_n (pc := 16) (j := 0) dX10_toldInt_16 rfl rfl) ?_
  exact ev_iret (pc := 17) dX10_toldInt_17
set_option maxRecDepth 100000 in
set_option maxHeartbeats 4000000 in
theorem tX10_expression_46 (G : gx) (fu : Nat) (h0 : mh) (v0 : Nat) (v1 : Int32) (v2 : Int32) (k12 : Int32 × mh → Option (Unit × mh)) (hk12 : ∀ (v2 : Int32) (h : mh), Ev lV G yX10_expression cX10_expression 3 (none) 4 h0 12 [(0, .ref (gB G + v0)), (1, .int v1), (2, .int v2)] [] h (k12 (v2, h))) (k23 : mh → Option (Unit × mh)) (hk23 : ∀ (h : mh), Ev lV G yX10_expression cX10_expression 3 (none) 4 h0 23 [(0, .ref (gB G + v0)), (1, .int v1), (2, .int v2)] [] h (k23 (h))) (h : mh) : Ev lV G yX10_expression cX10_expression 3 (none) 4 h0 46 [(0, .ref (gB G + v0)), (1, .int v1), (2, .int v2)] [] h (fX10_expression_46 fu k12 k23 v0 v1 v2 h) := by
  unfold fX10_expression_46
  refine ev_step (st_aload_n (pc := 46) (j := 0) dX10_expression_46 rfl rfl) ?_
  refine ev_step (st_dup (pc := 47) dX10_expression_47 rfl) ?_
  refine ev_getI (pc := 48) k_X10_227 rfl dX10_expression_48 (fun x1 => ?_)
  refine ev_step (st_iconst (pc := 51) dX10_expression_51 ni_1) ?_
  refine ev_step (st_iadd (pc := 52) dX10_expression_52) ?_
  refine ev_putI (pc := 53) (p_X10_227 _ rfl) rfl dX10_expression_53 (fun h2 => ?_)
  refine ev_step (st_aload_n (pc := 56) (j := 0) dX10_expression_56 rfl rfl) ?_
  refine ev_ck (fun ha hS => ?_)
  refine ev_callV (iv_V (As := []) (st := []) (pc := 57) rfl m_X10_goesOn l_X10_221 i_X10_goesOn e_X10_goesOn ha hS rfl (Nat.le_of_ble_eq_true rfl) rfl dX10_expression_57) (tX10_goesOn G fu v0 h2) (by decide) (by decide) (fun h3 => ?_)
  refine ev_step (st_aload_n (pc := 60) (j := 0) dX10_expression_60 rfl rfl) ?_
  refine ev_getR (pc := 61) k_X10_110 rfl dX10_expression_61 (fun a4 => ?_)
  refine ev_step (st_aload_n (pc := 64) (j := 0) dX10_expression_64 rfl rfl) ?_
  refine ev_getI (pc := 65) k_X10_293 rfl dX10_expression_65 (fun x5 => ?_)
  refine ev_step (st_bipush (pc := 68) dX10_expression_68 nb_6) ?_
  refine ev_sti (pc := 70) dX10_expression_70 (fun h6 => ?_)
  refine ev_step (st_aload_n (pc := 71) (j := 0) dX10_expression_71 rfl rfl) ?_
  refine ev_step (st_dup (pc := 72) dX10_expression_72 rfl) ?_
  refine ev_getI (pc := 73) k_X10_293 rfl dX10_expression_73 (fun x7 => ?_)
  refine ev_step (st_iconst (pc := 76) dX10_expression_76 ni_1) ?_
  refine ev_step (st_iadd (pc := 77) dX10_expression_77) ?_
  refine ev_putI (pc := 78) (p_X10_293 _ rfl) rfl dX10_expression_78 (fun h8 => ?_)
  refine ev_step (st_goto (pc := 81) (tgt := 23) dX10_expression_81 (by decide)) ?_
  refine ev_sub (ls' := [(0, .ref (gB G + v0)), (1, .int v1), (2, .int v2)]) [0, 1, 2] rfl ?_
  exact hk23  h8
set_option maxRecDepth 100000 in
set_option maxHeartbeats 4000000 in
theorem tX10_expression_204 (G : gx) (fu : Nat) (h0 : mh) (v0 : Nat) (v1 : Int32) (v2 : Int32) (h : mh) : Ev lV G yX10_expression cX10_expression 3 (none) 4 h0 204 [(0, .ref (gB G + v0)), (1, .int v1), (2, .int v2)] [] h (fX10_expression_204 fu v0 v1 v2 h) := by
  unfold fX10_expression_204
  refine ev_step (st_aload_n (pc := 204) (j := 0) dX10_expression_204 rfl rfl) ?_
  refine ev_step (st_iconst (pc := 205) dX10_expression_205 ni_0) ?_
  refine ev_ck (fun ha hS => ?_)
  refine ev_callV (iv_V (As := [.int ((0 : Int32))]) (st := []) (pc := 206) rfl m_X10_comesOut l_X10_302 i_X10_comesOut e_X10_comesOut ha hS rfl (Nat.le_of_ble_eq_true rfl) rfl dX10_expression_206) (tX10_comesOut G fu v0 ((0 : Int32)) h) (by decide) (by decide) (fun h1 => ?_)
  exact ev_vret (pc := 209) dX10_expression_209
set_option maxRecDepth 100000 in
set_option maxHeartbeats 4000000 in
theorem tX10_expression_191 (G : gx) (fu : Nat) (h0 : mh) (v0 : Nat) (v1 : Int32) (v2 : Int32) (h : mh) : Ev lV G yX10_expression cX10_expression 3 (none) 4 h0 191 [(0, .ref (gB G + v0)), (1, .int v1), (2, .int v2)] [] h (fX10_expression_191 fu v0 v1 v2 h) := by
  unfold fX10_expression_191
  refine ev_step (st_aload_n (pc := 191) (j := 0) dX10_expression_191 rfl rfl) ?_
  refine ev_getI (pc := 192) k_X10_227 rfl dX10_expression_192 (fun x1 => ?_)
  refine ev_step (st_iload_n (pc := 195) (j := 1) dX10_expression_195 rfl rfl) ?_
  refine ev_br (br_icmp_le (tgt := 204) (pc := 196) dX10_expression_196 (by decide)) (fun _ => ?_) (fun _ => ?_)
  · refine ev_sub (ls' := [(0, .ref (gB G + v0)), (1, .int v1), (2, .int v2)]) [0, 1, 2] rfl ?_
    exact tX10_expression_204 G fu h0 v0 v1 v2 h
  · refine ev_step (st_aload_n (pc := 199) (j := 0) dX10_expression_199 rfl rfl) ?_
    refine ev_step (st_iconst (pc := 200) dX10_expression_200 ni_1) ?_
    refine ev_ck (fun ha hS => ?_)
    refine ev_callV (iv_V (As := [.int ((1 : Int32))]) (st := []) (pc := 201) rfl m_X10_fail l_X10_215 i_X10_fail e_X10_fail ha hS rfl (Nat.le_of_ble_eq_true rfl) rfl dX10_expression_201) (tX10_fail G fu v0 ((1 : Int32)) h) (by decide) (by decide) (fun h2 => ?_)
    refine ev_sub (ls' := [(0, .ref (gB G + v0)), (1, .int v1), (2, .int v2)]) [0, 1, 2] rfl ?_
    exact tX10_expression_204 G fu h0 v0 v1 v2 h2
set_option maxRecDepth 100000 in
set_option maxHeartbeats 4000000 in
theorem tX10_expression_234 (G : gx) (fu : Nat) (h0 : mh) (v0 : Nat) (v1 : Int32) (v2 : Int32) (s0 : Nat) (s1 : Int32) (k12 : Int32 × mh → Option (Unit × mh)) (hk12 : ∀ (v2 : Int32) (h : mh), Ev lV G yX10_expression cX10_expression 3 (none) 4 h0 12 [(0, .ref (gB G + v0)), (1, .int v1), (2, .int v2)] [] h (k12 (v2, h))) (h : mh) : Ev lV G yX10_expression cX10_expression 3 (none) 4 h0 234 [(0, .ref (gB G + v0)), (1, .int v1), (2, .int v2)] [.int s1, .ref (gB G + s0)] h (fX10_expression_234 fu k12 v0 v1 v2 s0 s1 h) := by
  unfold fX10_expression_234
  refine ev_ck (fun ha hS => ?_)
  refine ev_callV (iv_V (As := [.int s1]) (st := []) (pc := 234) rfl m_X10_comesOut l_X10_302 i_X10_comesOut e_X10_comesOut ha hS rfl (Nat.le_of_ble_eq_true rfl) rfl dX10_expression_234) (tX10_comesOut G fu s0 s1 h) (by decide) (by decide) (fun h1 => ?_)
  refine ev_step (st_aload_n (pc := 237) (j := 0) dX10_expression_237 rfl rfl) ?_
  refine ev_getR (pc := 238) k_X10_110 rfl dX10_expression_238 (fun a2 => ?_)
  refine ev_step (st_aload_n (pc := 241) (j := 0) dX10_expression_241 rfl rfl) ?_
  refine ev_getI (pc := 242) k_X10_293 rfl dX10_expression_242 (fun x3 => ?_)
  refine ev_step (st_aload_n (pc := 245) (j := 0) dX10_expression_245 rfl rfl) ?_
  refine ev_getR (pc := 246) k_X10_20 rfl dX10_expression_246 (fun a4 => ?_)
  refine ev_step (st_aload_n (pc := 249) (j := 0) dX10_expression_249 rfl rfl) ?_
  refine ev_getI (pc := 250) k_X10_203 rfl dX10_expression_250 (fun x5 => ?_)
  refine ev_ldi (pc := 253) dX10_expression_253 (fun x6 => ?_)
  refine ev_sti (pc := 254) dX10_expression_254 (fun h7 => ?_)
  refine ev_step (st_aload_n (pc := 255) (j := 0) dX10_expression_255 rfl rfl) ?_
  refine ev_step (st_dup (pc := 256) dX10_expression_256 rfl) ?_
  refine ev_getI (pc := 257) k_X10_293 rfl dX10_expression_257 (fun x8 => ?_)
  refine ev_step (st_iconst (pc := 260) dX10_expression_260 ni_1) ?_
  refine ev_step (st_iadd (pc := 261) dX10_expression_261) ?_
  refine ev_putI (pc := 262) (p_X10_293 _ rfl) rfl dX10_expression_262 (fun h9 => ?_)
  refine ev_step (st_aload_n (pc := 265) (j := 0) dX10_expression_265 rfl rfl) ?_
  refine ev_ck (fun ha hS => ?_)
  refine ev_callV (iv_V (As := []) (st := []) (pc := 266) rfl m_X10_goesOn l_X10_221 i_X10_goesOn e_X10_goesOn ha hS rfl (Nat.le_of_ble_eq_true rfl) rfl dX10_expression_266) (tX10_goesOn G fu v0 h9) (by decide) (by decide) (fun h10 => ?_)
  refine ev_step (st_goto (pc := 269) (tgt := 12) dX10_expression_269 (by decide)) ?_
  refine ev_sub (ls' := [(0, .ref (gB G + v0)), (1, .int v1), (2, .int v2)]) [0, 1, 2] rfl ?_
  exact hk12 v2 h10
set_option maxRecDepth 100000 in
set_option maxHeartbeats 4000000 in
theorem tX10_expression_229 (G : gx) (fu : Nat) (h0 : mh) (v0 : Nat) (v1 : Int32) (v2 : Int32) (s0 : Nat) (k12 : Int32 × mh → Option (Unit × mh)) (hk12 : ∀ (v2 : Int32) (h : mh), Ev lV G yX10_expression cX10_expression 3 (none) 4 h0 12 [(0, .ref (gB G + v0)), (1, .int v1), (2, .int v2)] [] h (k12 (v2, h))) (h : mh) : Ev lV G yX10_expression cX10_expression 3 (none) 4 h0 229 [(0, .ref (gB G + v0)), (1, .int v1), (2, .int v2)] [.ref (gB G + s0)] h (fX10_expression_229 fu k12 v0 v1 v2 s0 h) := by
  unfold fX10_expression_229
  refine ev_step (st_iconst (pc := 229) dX10_expression_229 ni_1) ?_
  refine ev_step (st_goto (pc := 230) (tgt := 234) dX10_expression_230 (by decide)) ?_
  refine ev_sub (ls' := [(0, .ref (gB G + v0)), (1, .int v1), (2, .int v2)]) [0, 1, 2] rfl ?_
  exact tX10_expression_234 G fu h0 v0 v1 v2 s0 ((1 : Int32)) k12 hk12 h
set_option maxRecDepth 100000 in
set_option maxHeartbeats 4000000 in
theorem tX10_expression_186 (G : gx) (fu : Nat) (h0 : mh) (v0 : Nat) (v1 : Int32) (v2 : Int32) (s0 : Int32) (k12 : Int32 × mh → Option (Unit × mh)) (hk12 : ∀ (v2 : Int32) (h : mh), Ev lV G yX10_expression cX10_expression 3 (none) 4 h0 12 [(0, .ref (gB G + v0)), (1, .int v1), (2, .int v2)] [] h (k12 (v2, h))) (h : mh) : Ev lV G yX10_expression cX10_expression 3 (none) 4 h0 186 [(0, .ref (gB G + v0)), (1, .int v1), (2, .int v2)] [.int s0] h (fX10_expression_186 fu k12 v0 v1 v2 s0 h) := by
  unfold fX10_expression_186
  refine ev_step (st_istore_n (pc := 186) (ls' := [(2, .int s0), (0, .ref (gB G + v0)), (1, .int v1)]) dX10_expression_186 rfl (by decide) rfl) ?_
  refine ev_step (st_iload_n (pc := 187) (j := 0) dX10_expression_187 rfl rfl) ?_
  refine ev_br (br_if_ne (tgt := 210) (pc := 188) dX10_expression_188 (by decide)) (fun _ => ?_) (fun _ => ?_)
  · refine ev_sub (ls' := [(0, .ref (gB G + v0)), (1, .int v1), (2, .int s0)]) [1, 2, 0] rfl ?_
    exact tX10_expression_191 G fu h0 v0 v1 s0 h
  · refine ev_step (st_aload_n (pc := 210) (j := 1) dX10_expression_210 rfl rfl) ?_
    refine ev_step (st_aload_n (pc := 211) (j := 1) dX10_expression_211 rfl rfl) ?_
    refine ev_step (st_bipush (pc := 212) dX10_expression_212 nb_10) ?_
    refine ev_ck (fun ha hS => ?_)
    refine ev_callI (iv_V (As := [.int ((10 : Int32))]) (st := [.ref (gB G + v0)]) (pc := 214) rfl m_X10_is l_X10_218 i_X10_is e_X10_is ha hS rfl (Nat.le_of_ble_eq_true rfl) rfl dX10_expression_214) (tX10_is G fu v0 ((10 : Int32)) h) (by decide) (by decide) (fun x2 h1 => ?_)
    refine ev_br (br_if_ne (tgt := 229) (pc := 217) dX10_expression_217 (by decide)) (fun _ => ?_) (fun _ => ?_)
    · refine ev_step (st_aload_n (pc := 220) (j := 1) dX10_expression_220 rfl rfl) ?_
      refine ev_step (st_bipush (pc := 221) dX10_expression_221 nb_15) ?_
      refine ev_ck (fun ha hS => ?_)
      refine ev_callI (iv_V (As := [.int ((15 : Int32))]) (st := [.ref (gB G + v0)]) (pc := 223) rfl m_X10_is l_X10_218 i_X10_is e_X10_is ha hS rfl (Nat.le_of_ble_eq_true rfl) rfl dX10_expression_223) (tX10_is G fu v0 ((15 : Int32)) h1) (by decide) (by decide) (fun x4 h3 => ?_)
      refine ev_br (br_if_eq (tgt := 233) (pc := 226) dX10_expression_226 (by decide)) (fun _ => ?_) (fun _ => ?_)
      · refine ev_step (st_iconst (pc := 233) dX10_expression_233 ni_0) ?_
        refine ev_sub (ls' := [(0, .ref (gB G + v0)), (1, .int v1), (2, .int s0)]) [1, 2, 0] rfl ?_
        exact tX10_expression_234 G fu h0 v0 v1 s0 v0 ((0 : Int32)) k12 hk12 h3
      · refine ev_sub (ls' := [(0, .ref (gB G + v0)), (1, .int v1), (2, .int s0)]) [1, 2, 0] rfl ?_
        exact tX10_expression_229 G fu h0 v0 v1 s0 v0 k12 hk12 h3
    · refine ev_sub (ls' := [(0, .ref (gB G + v0)), (1, .int v1), (2, .int s0)]) [1, 2, 0] rfl ?_
      exact tX10_expression_229 G fu h0 v0 v1 s0 v0 k12 hk12 h1
set_option maxRecDepth 100000 in
set_option maxHeartbeats 4000000 in
theorem tX10_expression_181 (G : gx) (fu : Nat) (h0 : mh) (v0 : Nat) (v1 : Int32) (v2 : Int32) (k12 : Int32 × mh → Option (Unit × mh)) (hk12 : ∀ (v2 : Int32) (h : mh), Ev lV G yX10_expression cX10_expression 3 (none) 4 h0 12 [(0, .ref (gB G + v0)), (1, .int v1), (2, .int v2)] [] h (k12 (v2, h))) (h : mh) : Ev lV G yX10_expression cX10_expression 3 (none) 4 h0 181 [(0, .ref (gB G + v0)), (1, .int v1), (2, .int v2)] [] h (fX10_expression_181 fu k12 v0 v1 v2 h) := by
  unfold fX10_expression_181
  refine ev_step (st_iconst (pc := 181) dX10_expression_181 ni_1) ?_
  refine ev_step (st_goto (pc := 182) (tgt := 186) dX10_expression_182 (by decide)) ?_
  refine ev_sub (ls' := [(0, .ref (gB G + v0)), (1, .int v1), (2, .int v2)]) [0, 1, 2] rfl ?_
  exact tX10_expression_186 G fu h0 v0 v1 v2 ((1 : Int32)) k12 hk12 h
set_option maxRecDepth 100000 in
set_option maxHeartbeats 4000000 in
theorem tX10_expression_145 (G : gx) (fu : Nat) (h0 : mh) (v0 : Nat) (v1 : Int32) (v2 : Int32) (k12 : Int32 × mh → Option (Unit × mh)) (hk12 : ∀ (v2 : Int32) (h : mh), Ev lV G yX10_expression cX10_expression 3 (none) 4 h0 12 [(0, .ref (gB G + v0)), (1, .int v1), (2, .int v2)] [] h (k12 (v2, h))) (h : mh) : Ev lV G yX10_expression cX10_expression 3 (none) 4 h0 145 [(0, .ref (gB G + v0)), (1, .int v1), (2, .int v2)] [] h (fX10_expression_145 fu k12 v0 v1 v2 h) := by
  unfold fX10_expression_145
  refine ev_step (st_aload_n (pc := 145) (j := 0) dX10_expression_145 rfl rfl) ?_
  refine ev_step (st_bipush (pc := 146) dX10_expression_146 nb_8) ?_
  refine ev_ck (fun ha hS => ?_)
  refine ev_callI (iv_V (As := [.int ((8 : Int32))]) (st := []) (pc := 148) rfl m_X10_is l_X10_218 i_X10_is e_X10_is ha hS rfl (Nat.le_of_ble_eq_true rfl) rfl dX10_expression_148) (tX10_is G fu v0 ((8 : Int32)) h) (by decide) (by decide) (fun x2 h1 => ?_)
  refine ev_br (br_if_ne (tgt := 181) (pc := 151) dX10_expression_151 (by decide)) (fun _ => ?_) (fun _ => ?_)
  · refine ev_step (st_aload_n (pc := 154) (j := 0) dX10_expression_154 rfl rfl) ?_
    refine ev_step (st_bipush (pc := 155) dX10_expression_155 nb_9) ?_
    refine ev_ck (fun ha hS => ?_)
    refine ev_callI (iv_V (As := [.int ((9 : Int32))]) (st := []) (pc := 157) rfl m_X10_is l_X10_218 i_X10_is e_X10_is ha hS rfl (Nat.le_of_ble_eq_true rfl) rfl dX10_expression_157) (tX10_is G fu v0 ((9 : Int32)) h1) (by decide) (by decide) (fun x4 h3 => ?_)
    refine ev_br (br_if_ne (tgt := 181) (pc := 160) dX10_expression_160 (by decide)) (fun _ => ?_) (fun _ => ?_)
    · refine ev_step (st_aload_n (pc := 163) (j := 0) dX10_expression_163 rfl rfl) ?_
      refine ev_step (st_bipush (pc := 164) dX10_expression_164 nb_10) ?_
      refine ev_ck (fun ha hS => ?_)
      refine ev_callI (iv_V (As := [.int ((10 : Int32))]) (st := []) (pc := 166) rfl m_X10_is l_X10_218 i_X10_is e_X10_is ha hS rfl (Nat.le_of_ble_eq_true rfl) rfl dX10_expression_166) (tX10_is G fu v0 ((10 : Int32)) h3) (by decide) (by decide) (fun x6 h5 => ?_)
      refine ev_br (br_if_ne (tgt := 181) (pc := 169) dX10_expression_169 (by decide)) (fun _ => ?_) (fun _ => ?_)
      · refine ev_step (st_aload_n (pc := 172) (j := 0) dX10_expression_172 rfl rfl) ?_
        refine ev_step (st_bipush (pc := 173) dX10_expression_173 nb_15) ?_
        refine ev_ck (fun ha hS => ?_)
        refine ev_callI (iv_V (As := [.int ((15 : Int32))]) (st := []) (pc := 175) rfl m_X10_is l_X10_218 i_X10_is e_X10_is ha hS rfl (Nat.le_of_ble_eq_true rfl) rfl dX10_expression_175) (tX10_is G fu v0 ((15 : Int32)) h5) (by decide) (by decide) (fun x8 h7 => ?_)
        refine ev_br (br_if_eq (tgt := 185) (pc := 178) dX10_expression_178 (by decide)) (fun _ => ?_) (fun _ => ?_)
        · refine ev_step (st_iconst (pc := 185) dX10_expression_185 ni_0) ?_
          refine ev_sub (ls' := [(0, .ref (gB G + v0)), (1, .int v1), (2, .int v2)]) [0, 1, 2] rfl ?_
          exact tX10_expression_186 G fu h0 v0 v1 v2 ((0 : Int32)) k12 hk12 h7
        · refine ev_sub (ls' := [(0, .ref (gB G + v0)), (1, .int v1), (2, .int v2)]) [0, 1, 2] rfl ?_
          exact tX10_expression_181 G fu h0 v0 v1 v2 k12 hk12 h7
      · refine ev_sub (ls' := [(0, .ref (gB G + v0)), (1, .int v1), (2, .int v2)]) [0, 1, 2] rfl ?_
        exact tX10_expression_181 G fu h0 v0 v1 v2 k12 hk12 h5
    · refine ev_sub (ls' := [(0, .ref (gB G + v0)), (1, .int v1), (2, .int v2)]) [0, 1, 2] rfl ?_
      exact tX10_expression_181 G fu h0 v0 v1 v2 k12 hk12 h3
  · refine ev_sub (ls' := [(0, .ref (gB G + v0)), (1, .int v1), (2, .int v2)]) [0, 1, 2] rfl ?_
    exact tX10_expression_181 G fu h0 v0 v1 v2 k12 hk12 h1
set_option maxRecDepth 100000 in
set_option maxHeartbeats 4000000 in
theorem tX10_expression_96 (G : gx) (fu : Nat) (h0 : mh) (v0 : Nat) (v1 : Int32) (v2 : Int32) (k12 : Int32 × mh → Option (Unit × mh)) (hk12 : ∀ (v2 : Int32) (h : mh), Ev lV G yX10_expression cX10_expression 3 (none) 4 h0 12 [(0, .ref (gB G + v0)), (1, .int v1), (2, .int v2)] [] h (k12 (v2, h))) (n : Nat) (h : mh) : Ev lV G yX10_expression cX10_expression 3 (none) 4 h0 96 [(0, .ref (gB G + v0)), (1, .int v1), (2, .int v2)] [] h (itr (bX10_expression_96 fu k12 v0 v1 v2) n (h)) := by
  refine ev_itr (P := fun (q : mh) (R9 : Option (Unit × mh)) => Ev lV G yX10_expression cX10_expression 3 (none) 4 h0 96 [(0, .ref (gB G + v0)), (1, .int v1), (2, .int v2)] [] q R9) (fun _ => ev_none) (fun k96 hk9 h => ?_) n (h)
  have hk96 : ∀ (h : mh), Ev lV G yX10_expression cX10_expression 3 (none) 4 h0 96 [(0, .ref (gB G + v0)), (1, .int v1), (2, .int v2)] [] h (k96 (h)) := fun h => hk9 (h)
  show Ev lV G yX10_expression cX10_expression 3 (none) 4 h0 96 [(0, .ref (gB G + v0)), (1, .int v1), (2, .int v2)] [] h (bX10_expression_96 fu k12 v0 v1 v2 k96 (h))
  unfold bX10_expression_96
  refine ev_step (st_aload_n (pc := 96) (j := 0) dX10_expression_96 rfl rfl) ?_
  refine ev_step (st_bipush (pc := 97) dX10_expression_97 nb_7) ?_
  refine ev_ck (fun ha hS => ?_)
  refine ev_callI (iv_V (As := [.int ((7 : Int32))]) (st := []) (pc := 99) rfl m_X10_is l_X10_218 i_X10_is e_X10_is ha hS rfl (Nat.le_of_ble_eq_true rfl) rfl dX10_expression_99) (tX10_is G fu v0 ((7 : Int32)) h) (by decide) (by decide) (fun x2 h1 => ?_)
  refine ev_br (br_if_eq (tgt := 145) (pc := 102) dX10_expression_102 (by decide)) (fun _ => ?_) (fun _ => ?_)
  · refine ev_sub (ls' := [(0, .ref (gB G + v0)), (1, .int v1), (2, .int v2)]) [0, 1, 2] rfl ?_
    exact tX10_expression_145 G fu h0 v0 v1 v2 k12 hk12 h1
  · refine ev_step (st_aload_n (pc := 105) (j := 0) dX10_expression_105 rfl rfl) ?_
    refine ev_getI (pc := 106) k_X10_227 rfl dX10_expression_106 (fun x3 => ?_)
    refine ev_step (st_iload_n (pc := 109) (j := 1) dX10_expression_109 rfl rfl) ?_
    refine ev_br (br_icmp_le (tgt := 145) (pc := 110) dX10_expression_110 (by decide)) (fun _ => ?_) (fun _ => ?_)
    · refine ev_sub (ls' := [(0, .ref (gB G + v0)), (1, .int v1), (2, .int v2)]) [0, 1, 2] rfl ?_
      exact tX10_expression_145 G fu h0 v0 v1 v2 k12 hk12 h1
    · refine ev_step (st_aload_n (pc := 113) (j := 0) dX10_expression_113 rfl rfl) ?_
      refine ev_step (st_iconst (pc := 114) dX10_expression_114 ni_0) ?_
      refine ev_ck (fun ha hS => ?_)
      refine ev_callV (iv_V (As := [.int ((0 : Int32))]) (st := []) (pc := 115) rfl m_X10_comesOut l_X10_302 i_X10_comesOut e_X10_comesOut ha hS rfl (Nat.le_of_ble_eq_true rfl) rfl dX10_expression_115) (tX10_comesOut G fu v0 ((0 : Int32)) h1) (by decide) (by decide) (fun h4 => ?_)
      refine ev_step (st_aload_n (pc := 118) (j := 0) dX10_expression_118 rfl rfl) ?_
      refine ev_step (st_dup (pc := 119) dX10_expression_119 rfl) ?_
      refine ev_getI (pc := 120) k_X10_293 rfl dX10_expression_120 (fun x5 => ?_)
      refine ev_step (st_iconst (pc := 123) dX10_expression_123 ni_1) ?_
      refine ev_step (st_isub (pc := 124) dX10_expression_124) ?_
      refine ev_putI (pc := 125) (p_X10_293 _ rfl) rfl dX10_expression_125 (fun h6 => ?_)
      refine ev_step (st_aload_n (pc := 128) (j := 0) dX10_expression_128 rfl rfl) ?_
      refine ev_step (st_dup (pc := 129) dX10_expression_129 rfl) ?_
      refine ev_getI (pc := 130) k_X10_227 rfl dX10_expression_130 (fun x7 => ?_)
      refine ev_step (st_iconst (pc := 133) dX10_expression_133 ni_1) ?_
      refine ev_step (st_isub (pc := 134) dX10_expression_134) ?_
      refine ev_putI (pc := 135) (p_X10_227 _ rfl) rfl dX10_expression_135 (fun h8 => ?_)
      refine ev_step (st_aload_n (pc := 138) (j := 0) dX10_expression_138 rfl rfl) ?_
      refine ev_ck (fun ha hS => ?_)
      refine ev_callV (iv_V (As := []) (st := []) (pc := 139) rfl m_X10_goesOn l_X10_221 i_X10_goesOn e_X10_goesOn ha hS rfl (Nat.le_of_ble_eq_true rfl) rfl dX10_expression_139) (tX10_goesOn G fu v0 h8) (by decide) (by decide) (fun h9 => ?_)
      refine ev_step (st_goto (pc := 142) (tgt := 96) dX10_expression_142 (by decide)) ?_
      refine ev_sub (ls' := [(0, .ref (gB G + v0)), (1, .int v1), (2, .int v2)]) [0, 1, 2] rfl ?_
      exact hk96  h9
set_option maxRecDepth 100000 in
set_option maxHeartbeats 4000000 in
theorem tX10_expression_84 (G : gx) (fu : Nat) (h0 : mh) (v0 : Nat) (v1 : Int32) (v2 : Int32) (k12 : Int32 × mh → Option (Unit × mh)) (hk12 : ∀ (v2 : Int32) (h : mh), Ev lV G yX10_expression cX10_expression 3 (none) 4 h0 12 [(0, .ref (gB G + v0)), (1, .int v1), (2, .int v2)] [] h (k12 (v2, h))) (h : mh) : Ev lV G yX10_expression cX10_expression 3 (none) 4 h0 84 [(0, .ref (gB G + v0)), (1, .int v1), (2, .int v2)] [] h (fX10_expression_84 fu k12 v0 v1 v2 h) := by
  unfold fX10_expression_84
  refine ev_step (st_aload_n (pc := 84) (j := 0) dX10_expression_84 rfl rfl) ?_
  refine ev_ck (fun ha hS => ?_)
  refine ev_callV (iv_V (As := []) (st := []) (pc := 85) rfl m_X10_unit l_X10_299 i_X10_unit e_X10_unit ha hS rfl (Nat.le_of_ble_eq_true rfl) rfl dX10_expression_85) (tX10_unit G fu v0 h) (by decide) (by decide) (fun h1 => ?_)
  refine ev_step (st_aload_n (pc := 88) (j := 0) dX10_expression_88 rfl rfl) ?_
  refine ev_getI (pc := 89) k_X10_200 rfl dX10_expression_89 (fun x2 => ?_)
  refine ev_br (br_if_le (tgt := 96) (pc := 92) dX10_expression_92 (by decide)) (fun _ => ?_) (fun _ => ?_)
  · refine ev_sub (ls' := [(0, .ref (gB G + v0)), (1, .int v1), (2, .int v2)]) [0, 1, 2] rfl ?_
    exact tX10_expression_96 G fu h0 v0 v1 v2 k12 hk12 fu  h1
  · exact ev_vret (pc := 95) dX10_expression_95
set_option maxRecDepth 100000 in
set_option maxHeartbeats 4000000 in
theorem tX10_expression_23 (G : gx) (fu : Nat) (h0 : mh) (v0 : Nat) (v1 : Int32) (v2 : Int32) (k12 : Int32 × mh → Option (Unit × mh)) (hk12 : ∀ (v2 : Int32) (h : mh), Ev lV G yX10_expression cX10_expression 3 (none) 4 h0 12 [(0, .ref (gB G + v0)), (1, .int v1), (2, .int v2)] [] h (k12 (v2, h))) (n : Nat) (h : mh) : Ev lV G yX10_expression cX10_expression 3 (none) 4 h0 23 [(0, .ref (gB G + v0)), (1, .int v1), (2, .int v2)] [] h (itr (bX10_expression_23 fu k12 v0 v1 v2) n (h)) := by
  refine ev_itr (P := fun (q : mh) (R9 : Option (Unit × mh)) => Ev lV G yX10_expression cX10_expression 3 (none) 4 h0 23 [(0, .ref (gB G + v0)), (1, .int v1), (2, .int v2)] [] q R9) (fun _ => ev_none) (fun k23 hk9 h => ?_) n (h)
  have hk23 : ∀ (h : mh), Ev lV G yX10_expression cX10_expression 3 (none) 4 h0 23 [(0, .ref (gB G + v0)), (1, .int v1), (2, .int v2)] [] h (k23 (h)) := fun h => hk9 (h)
  show Ev lV G yX10_expression cX10_expression 3 (none) 4 h0 23 [(0, .ref (gB G + v0)), (1, .int v1), (2, .int v2)] [] h (bX10_expression_23 fu k12 v0 v1 v2 k23 (h))
  unfold bX10_expression_23
  refine ev_step (st_aload_n (pc := 23) (j := 0) dX10_expression_23 rfl rfl) ?_
  refine ev_step (st_bipush (pc := 24) dX10_expression_24 nb_6) ?_
  refine ev_ck (fun ha hS => ?_)
  refine ev_callI (iv_V (As := [.int ((6 : Int32))]) (st := []) (pc := 26) rfl m_X10_is l_X10_218 i_X10_is e_X10_is ha hS rfl (Nat.le_of_ble_eq_true rfl) rfl dX10_expression_26) (tX10_is G fu v0 ((6 : Int32)) h) (by decide) (by decide) (fun x2 h1 => ?_)
  refine ev_br (br_if_eq (tgt := 84) (pc := 29) dX10_expression_29 (by decide)) (fun _ => ?_) (fun _ => ?_)
  · refine ev_sub (ls' := [(0, .ref (gB G + v0)), (1, .int v1), (2, .int v2)]) [0, 1, 2] rfl ?_
    exact tX10_expression_84 G fu h0 v0 v1 v2 k12 hk12 h1
  · refine ev_step (st_aload_n (pc := 32) (j := 0) dX10_expression_32 rfl rfl) ?_
    refine ev_getI (pc := 33) k_X10_227 rfl dX10_expression_33 (fun x3 => ?_)
    refine ev_step (st_bipush (pc := 36) dX10_expression_36 nb_6) ?_
    refine ev_br (br_icmp_ne (tgt := 46) (pc := 38) dX10_expression_38 (by decide)) (fun _ => ?_) (fun _ => ?_)
    · refine ev_step (st_aload_n (pc := 41) (j := 0) dX10_expression_41 rfl rfl) ?_
      refine ev_step (st_iconst (pc := 42) dX10_expression_42 ni_2) ?_
      refine ev_ck (fun ha hS => ?_)
      refine ev_callV (iv_V (As := [.int ((2 : Int32))]) (st := []) (pc := 43) rfl m_X10_fail l_X10_215 i_X10_fail e_X10_fail ha hS rfl (Nat.le_of_ble_eq_true rfl) rfl dX10_expression_43) (tX10_fail G fu v0 ((2 : Int32)) h1) (by decide) (by decide) (fun h4 => ?_)
      refine ev_sub (ls' := [(0, .ref (gB G + v0)), (1, .int v1), (2, .int v2)]) [0, 1, 2] rfl ?_
      exact tX10_expression_46 G fu h0 v0 v1 v2 k12 hk12 k23 hk23 h4
    · refine ev_sub (ls' := [(0, .ref (gB G + v0)), (1, .int v1), (2, .int v2)]) [0, 1, 2] rfl ?_
      exact tX10_expression_46 G fu h0 v0 v1 v2 k12 hk12 k23 hk23 h1
set_option maxRecDepth 100000 in
set_option maxHeartbeats 4000000 in
theorem tX10_expression_12 (G : gx) (fu : Nat) (h0 : mh) (v0 : Nat) (v1 : Int32) (n : Nat) (v2 : Int32) (h : mh) : Ev lV G yX10_expression cX10_expression 3 (none) 4 h0 12 [(0, .ref (gB G + v0)), (1, .int v1), (2, .int v2)] [] h (itr (bX10_expression_12 fu v0 v1) n (v2, h)) := by
  refine ev_itr (P := fun (q : Int32 × mh) (R9 : Option (Unit × mh)) => Ev lV G yX10_expression cX10_expression 3 (none) 4 h0 12 [(0, .ref (gB G + v0)), (1, .int v1), (2, .int q.1)] [] q.2 R9) (fun _ => ev_none) (fun k12 hk9 q => ?_) n (v2, h)
  obtain ⟨v2, h⟩ := q
  have hk12 : ∀ (v2 : Int32) (h : mh), Ev lV G yX10_expression cX10_expression 3 (none) 4 h0 12 [(0, .ref (gB G + v0)), (1, .int v1), (2, .int v2)] [] h (k12 (v2, h)) := fun v2 h => hk9 (v2, h)
  show Ev lV G yX10_expression cX10_expression 3 (none) 4 h0 12 [(0, .ref (gB G + v0)), (1, .int v1), (2, .int v2)] [] h (bX10_expression_12 fu v0 v1 k12 (v2, h))
  unfold bX10_expression_12
  refine ev_step (st_iload_n (pc := 12) (j := 2) dX10_expression_12 rfl rfl) ?_
  refine ev_br (br_if_eq (tgt := 272) (pc := 13) dX10_expression_13 (by decide)) (fun _ => ?_) (fun _ => ?_)
  · exact ev_vret (pc := 272) dX10_expression_272
  · refine ev_step (st_aload_n (pc := 16) (j := 0) dX10_expression_16 rfl rfl) ?_
    refine ev_getI (pc := 17) k_X10_200 rfl dX10_expression_17 (fun x1 => ?_)
    refine ev_br (br_if_ne (tgt := 272) (pc := 20) dX10_expression_20 (by decide)) (fun _ => ?_) (fun _ => ?_)
    · refine ev_sub (ls' := [(0, .ref (gB G + v0)), (1, .int v1), (2, .int v2)]) [0, 1, 2] rfl ?_
      exact tX10_expression_23 G fu h0 v0 v1 v2 k12 hk12 fu  h
    · exact ev_vret (pc := 272) dX10_expression_272
set_option maxRecDepth 100000 in
set_option maxHeartbeats 4000000 in
theorem tX10_expression (G : gx) (fu : Nat) (v0 : Nat) (h : mh) : Ct lV G yX10_expression cX10_expression 3 (none) 4 [.ref (gB G + v0)] h (fX10_expression fu v0 h) := by
  refine ct_ls (ls := [(0, .ref (gB G + v0))]) rfl (by decide) (Nat.le_of_ble_eq_true rfl) ?_
  unfold fX10_expression
  refine ev_step (st_aload_n (pc := 0) (j := 0) dX10_expression_0 rfl rfl) ?_
  refine ev_step (st_iconst (pc := 1) dX10_expression_1 ni_0) ?_
  refine ev_putI (pc := 2) (p_X10_293 _ rfl) rfl dX10_expression_2 (fun h1 => ?_)
  refine ev_step (st_aload_n (pc := 5) (j := 0) dX10_expression_5 rfl rfl) ?_
  refine ev_getI (pc := 6) k_X10_227 rfl dX10_expression_6 (fun x2 => ?_)
  refine ev_step (st_istore_n (pc := 9) (ls' := [(1, .int x2), (0, .ref (gB G + v0))]) dX10_expression_9 rfl (by decide) rfl) ?_
  refine ev_step (st_iconst (pc := 10) dX10_expression_10 ni_1) ?_
  refine ev_step (st_istore_n (pc := 11) (ls' := [(2, .int ((1 : Int32))), (1, .int x2), (0, .ref (gB G + v0))]) dX10_expression_11 rfl (by decide) rfl) ?_
  refine ev_sub (ls' := [(0, .ref (gB G + v0)), (1, .int x2), (2, .int ((1 : Int32)))]) [2, 1, 0] rfl ?_
  exact tX10_expression_12 G fu h v0 x2 fu ((1 : Int32)) h1
set_option maxRecDepth 100000 in
set_option maxHeartbeats 4000000 in
theorem tX0_takeClosing (G : gx) (fu : Nat) (v0 : Nat) (v1 : Int32) (v2 : Nat) (h : mh) : Ct lI G yX0_takeClosing cX0_takeClosing 3 (some .int) 3 [.ref (gB G + v0), .int v1, .ref (gB G + v2)] h (fX0_takeClosing fu v0 v1 v2 h) := by
  refine ct_ls (ls := [(0, .ref (gB G + v0)), (1, .int v1), (2, .ref (gB G + v2))]) rfl (by decide) (Nat.le_of_ble_eq_true rfl) ?_
  unfold fX0_takeClosing
  refine ev_step (st_iload_n (pc := 0) (j := 1) dX0_takeClosing_0 rfl rfl) ?_
  refine ev_step (st_bipush (pc := 1) dX0_takeClosing_1 nb_41) ?_
  refine ev_br (br_icmp_eq (tgt := 8) (pc := 3) dX0_takeClosing_3 (by decide)) (fun _ => ?_) (fun _ => ?_)
  · refine ev_step (st_aload_n (pc := 8) (j := 0) dX0_takeClosing_8 rfl rfl) ?_
    refine ev_step (st_iconst (pc := 9) dX0_takeClosing_9 ni_1) ?_
    refine ev_step (st_aload_n (pc := 10) (j := 2) dX0_takeClosing_10 rfl rfl) ?_
    refine ev_ck (fun ha hS => ?_)
    refine ev_callV (iv_V (As := [.int ((1 : Int32)), .ref (gB G + v2)]) (st := []) (pc := 11) rfl m_X0_putHanging l_X0_81 i_X0_putHanging e_X0_putHanging ha hS rfl (Nat.le_of_ble_eq_true rfl) rfl dX0_takeClosing_11) (tX0_putHanging G fu v0 ((1 : Int32)) v2 h) (by decide) (by decide) (fun h1 => ?_)
    refine ev_step (st_aload_n (pc := 14) (j := 0) dX0_takeClosing_14 rfl rfl) ?_
    refine ev_step (st_iconst (pc := 15) dX0_takeClosing_15 ni_0) ?_
    refine ev_step (st_aload_n (pc := 16) (j := 0) dX0_takeClosing_16 rfl rfl) ?_
    refine ev_getI (pc := 17) k_X0_41 rfl dX0_takeClosing_17 (fun x2 => ?_)
    refine ev_step (st_iconst (pc := 20) dX0_takeClosing_20 ni_1) ?_
    refine ev_step (st_isub (pc := 21) dX0_takeClosing_21) ?_
    refine ev_mmax (pc := 22) mm_X0_96 (by decide) (Nat.le_of_ble_eq_true rfl) dX0_takeClosing_22 ?_
    refine ev_putI (pc := 25) (p_X0_41 _ rfl) rfl dX0_takeClosing_25 (fun h3 => ?_)
    refine ev_step (st_aload_n (pc := 28) (j := 0) dX0_takeClosing_28 rfl rfl) ?_
    refine ev_step (st_dup (pc := 29) dX0_takeClosing_29 rfl) ?_
    refine ev_getI (pc := 30) k_X0_21 rfl dX0_takeClosing_30 (fun x4 => ?_)
    refine ev_step (st_iconst (pc := 33) dX0_takeClosing_33 ni_1) ?_
    refine ev_step (st_isub (pc := 34) dX0_takeClosing_34) ?_
    refine ev_putI (pc := 35) (p_X0_21 _ rfl) rfl dX0_takeClosing_35 (fun h5 => ?_)
    refine ev_step (st_iconst (pc := 38) dX0_takeClosing_38 ni_0) ?_
    exact ev_iret (pc := 39) dX0_takeClosing_39
  · refine ev_step (st_iconst (pc := 6) dX0_takeClosing_6 ni_1) ?_
    exact ev_iret (pc := 7) dX0_takeClosing_7
set_option maxRecDepth 100000 in
set_option maxHeartbeats 4000000 in
theorem tX0_endPart_45 (G : gx) (fu : Nat) (h0 : mh) (v0 : Nat) (v1 : Nat) (s0 : Nat) (s1 : Int32) (h : mh) : Ev lV G yX0_endPart cX0_endPart 2 (none) 3 h0 45 [(0, .ref (gB G + v0)), (1, .ref (gB G + v1))] [.int s1, .ref (gB G + s0)] h (fX0_endPart_45 fu v0 v1 s0 s1 h) := by
  unfold fX0_endPart_45
  refine ev_putZ (pc := 45) (p_X0_34 _ rfl) rfl dX0_endPart_45 (fun h1 => ?_)
  refine ev_step (st_aload_n (pc := 48) (j := 0) dX0_endPart_48 rfl rfl) ?_
  refine ev_step (st_iconst (pc := 49) dX0_endPart_49 ni_3) ?_
  refine ev_step (st_aload_n (pc := 50) (j := 0) dX0_endPart_50 rfl rfl) ?_
  refine ev_getI (pc := 51) k_X0_15 rfl dX0_endPart_51 (fun x2 => ?_)
  refine ev_step (st_iconst (pc := 54) dX0_endPart_54 ni_1) ?_
  refine ev_step (st_iadd (pc := 55) dX0_endPart_55) ?_
  refine ev_mmin (pc := 56) mm_X0_104 (by decide) (Nat.le_of_ble_eq_true rfl) dX0_endPart_56 ?_
  refine ev_putI (pc := 59) (p_X0_15 _ rfl) rfl dX0_endPart_59 (fun h3 => ?_)
  refine ev_step (st_aload_n (pc := 62) (j := 0) dX0_endPart_62 rfl rfl) ?_
  refine ev_step (st_iconst (pc := 63) dX0_endPart_63 ni_1) ?_
  refine ev_putZ (pc := 64) (p_X0_28 _ rfl) rfl dX0_endPart_64 (fun h4 => ?_)
  exact ev_vret (pc := 67) dX0_endPart_67
set_option maxRecDepth 100000 in
set_option maxHeartbeats 4000000 in
theorem tX0_endPart_28 (G : gx) (fu : Nat) (h0 : mh) (v0 : Nat) (v1 : Nat) (s0 : Nat) (s1 : Int32) (h : mh) : Ev lV G yX0_endPart cX0_endPart 2 (none) 3 h0 28 [(0, .ref (gB G + v0)), (1, .ref (gB G + v1))] [.int s1, .ref (gB G + s0)] h (fX0_endPart_28 fu v0 v1 s0 s1 h) := by
  unfold fX0_endPart_28
  refine ev_putZ (pc := 28) (p_X0_31 _ rfl) rfl dX0_endPart_28 (fun h1 => ?_)
  refine ev_step (st_aload_n (pc := 31) (j := 0) dX0_endPart_31 rfl rfl) ?_
  refine ev_step (st_aload_n (pc := 32) (j := 0) dX0_endPart_32 rfl rfl) ?_
  refine ev_getI (pc := 33) k_X0_15 rfl dX0_endPart_33 (fun x2 => ?_)
  refine ev_step (st_iconst (pc := 36) dX0_endPart_36 ni_2) ?_
  refine ev_br (br_icmp_ne (tgt := 44) (pc := 37) dX0_endPart_37 (by decide)) (fun _ => ?_) (fun _ => ?_)
  · refine ev_step (st_iconst (pc := 40) dX0_endPart_40 ni_1) ?_
    refine ev_step (st_goto (pc := 41) (tgt := 45) dX0_endPart_41 (by decide)) ?_
    refine ev_sub (ls' := [(0, .ref (gB G + v0)), (1, .ref (gB G + v1))]) [0, 1] rfl ?_
    exact tX0_endPart_45 G fu h0 v0 v1 v0 ((1 : Int32)) h1
  · refine ev_step (st_iconst (pc := 44) dX0_endPart_44 ni_0) ?_
    refine ev_sub (ls' := [(0, .ref (gB G + v0)), (1, .ref (gB G + v1))]) [0, 1] rfl ?_
    exact tX0_endPart_45 G fu h0 v0 v1 v0 ((0 : Int32)) h1
set_option maxRecDepth 100000 in
set_option maxHeartbeats 4000000 in
theorem tX0_endPart (G : gx) (fu : Nat) (v0 : Nat) (v1 : Nat) (h : mh) : Ct lV G yX0_endPart cX0_endPart 2 (none) 3 [.ref (gB G + v0), .ref (gB G + v1)] h (fX0_endPart fu v0 v1 h) := by
  refine ct_ls (ls := [(0, .ref (gB G + v0)), (1, .ref (gB G + v1))]) rfl (by decide) (Nat.le_of_ble_eq_true rfl) ?_
  unfold fX0_endPart
  refine ev_step (st_aload_n (pc := 0) (j := 0) dX0_endPart_0 rfl rfl) ?_
  refine ev_step (st_iconst (pc := 1) dX0_endPart_1 ni_1) ?_
  refine ev_step (st_aload_n (pc := 2) (j := 1) dX0_endPart_2 rfl rfl) ?_
  refine ev_ck (fun ha hS => ?_)
  refine ev_callV (iv_V (As := [.int ((1 : Int32)), .ref (gB G + v1)]) (st := []) (pc := 3) rfl m_X0_putHanging l_X0_81 i_X0_putHanging e_X0_putHanging ha hS rfl (Nat.le_of_ble_eq_true rfl) rfl dX0_endPart_3) (tX0_putHanging G fu v0 ((1 : Int32)) v1 h) (by decide) (by decide) (fun h1 => ?_)
  refine ev_step (st_aload_n (pc := 6) (j := 1) dX0_endPart_6 rfl rfl) ?_
  refine ev_step (st_aload_n (pc := 7) (j := 0) dX0_endPart_7 rfl rfl) ?_
  refine ev_getI (pc := 8) k_X0_9 rfl dX0_endPart_8 (fun x2 => ?_)
  refine ev_ck (fun ha hS => ?_)
  refine ev_callV (iv_V (As := [.int x2]) (st := []) (pc := 11) rfl m_X1_endPart l_X0_102 i_X1_endPart e_X1_endPart ha hS rfl (Nat.le_of_ble_eq_true rfl) rfl dX0_endPart_11) (tX1_endPart G fu v1 x2 h1) (by decide) (by decide) (fun h3 => ?_)
  refine ev_step (st_aload_n (pc := 14) (j := 0) dX0_endPart_14 rfl rfl) ?_
  refine ev_step (st_aload_n (pc := 15) (j := 0) dX0_endPart_15 rfl rfl) ?_
  refine ev_getI (pc := 16) k_X0_15 rfl dX0_endPart_16 (fun x4 => ?_)
  refine ev_step (st_iconst (pc := 19) dX0_endPart_19 ni_3) ?_
  refine ev_br (br_icmp_ne (tgt := 27) (pc := 20) dX0_endPart_20 (by decide)) (fun _ => ?_) (fun _ => ?_)
  · refine ev_step (st_iconst (pc := 23) dX0_endPart_23 ni_1) ?_
    refine ev_step (st_goto (pc := 24) (tgt := 28) dX0_endPart_24 (by decide)) ?_
    refine ev_sub (ls' := [(0, .ref (gB G + v0)), (1, .ref (gB G + v1))]) [0, 1] rfl ?_
    exact tX0_endPart_28 G fu h v0 v1 v0 ((1 : Int32)) h3
  · refine ev_step (st_iconst (pc := 27) dX0_endPart_27 ni_0) ?_
    refine ev_sub (ls' := [(0, .ref (gB G + v0)), (1, .ref (gB G + v1))]) [0, 1] rfl ?_
    exact tX0_endPart_28 G fu h v0 v1 v0 ((0 : Int32)) h3
set_option maxRecDepth 100000 in
set_option maxHeartbeats 4000000 in
theorem tX1_tell_75 (G : gx) (fu : Nat) (h0 : mh) (v0 : Nat) (v1 : Int32) (v2 : Int32) (v3 : Int32) (v4 : Int32) (k38 : Int32 × Int32 × mh → Option (Int32 × mh)) (hk38 : ∀ (v3 : Int32) (v4 : Int32) (h : mh), Ev lI G yX1_tell cX1_tell 5 (some .int) 3 h0 38 [(0, .ref (gB G + v0)), (1, .int v1), (2, .int v2), (3, .int v3), (4, .int v4)] [] h (k38 (v3, v4, h))) (h : mh) : Ev lI G yX1_tell cX1_tell 5 (some .int) 3 h0 75 [(0, .ref (gB G + v0)), (1, .int v1), (2, .int v2), (3, .int v3), (4, .int v4)] [] h (fX1_tell_75 fu k38 v0 v1 v2 v3 v4 h) := by
  unfold fX1_tell_75
  refine ev_step (st_inc (pc := 75) (j := 4) (ls' := [(4, .int (v4 + (3 : Int32))), (0, .ref (gB G + v0)), (1, .int v1), (2, .int v2), (3, .int v3)]) dX1_tell_75 rfl ni_3 (by decide) rfl) ?_
  refine ev_step (st_goto (pc := 78) (tgt := 38) dX1_tell_78 (by decide)) ?_
  refine ev_sub (ls' := [(0, .ref (gB G + v0)), (1, .int v1), (2, .int v2), (3, .int v3), (4, .int (v4 + (3 : Int32)))]) [1, 2, 3, 4, 0] rfl ?_
  exact hk38 v3 (v4 + (3 : Int32)) h
set_option maxRecDepth 100000 in
set_option maxHeartbeats 4000000 in
theorem tX1_tell_98 (G : gx) (fu : Nat) (h0 : mh) (v0 : Nat) (v1 : Int32) (v2 : Int32) (v3 : Int32) (v4 : Int32) (s0 : Int32) (h : mh) : Ev lI G yX1_tell cX1_tell 5 (some .int) 3 h0 98 [(0, .ref (gB G + v0)), (1, .int v1), (2, .int v2), (3, .int v3), (4, .int v4)] [.int s0] h (fX1_tell_98 fu v0 v1 v2 v3 v4 s0 h) := by
  unfold fX1_tell_98
  refine ev_step (st_istore (pc := 98) (ls' := [(4, .int s0), (0, .ref (gB G + v0)), (1, .int v1), (2, .int v2), (3, .int v3)]) dX1_tell_98 (by decide) rfl) ?_
  refine ev_step (st_aload_n (pc := 100) (j := 1) dX1_tell_100 rfl rfl) ?_
  refine ev_getI (pc := 101) k_X1_34 rfl dX1_tell_101 (fun x1 => ?_)
  refine ev_br (br_if_eq (tgt := 111) (pc := 104) dX1_tell_104 (by decide)) (fun _ => ?_) (fun _ => ?_)
  · refine ev_step (st_iload_n (pc := 111) (j := 2) dX1_tell_111 rfl rfl) ?_
    refine ev_step (st_iconst (pc := 112) dX1_tell_112 ni_2) ?_
    refine ev_br (br_icmp_ne (tgt := 128) (pc := 113) dX1_tell_113 (by decide)) (fun _ => ?_) (fun _ => ?_)
    · refine ev_step (st_iload (pc := 116) (j := 0) dX1_tell_116 rfl) ?_
      refine ev_step (st_bipush (pc := 118) dX1_tell_118 nb_m99) ?_
      refine ev_step (st_bipush (pc := 120) dX1_tell_120 nb_99) ?_
      refine ev_callI (iv_S (As := [.int s0, .int ((-99 : Int32)), .int ((99 : Int32))]) (st := []) (pc := 122) m_X9_within l_X1_48 z_X9_within rfl (Nat.le_of_ble_eq_true rfl) rfl dX1_tell_122) (tX9_within G fu s0 ((-99 : Int32)) ((99 : Int32)) h) (by decide) (by decide) (fun x3 h2 => ?_)
      refine ev_step (st_goto (pc := 125) (tgt := 130) dX1_tell_125 (by decide)) ?_
      exact ev_iret (pc := 130) dX1_tell_130
    · refine ev_step (st_iload (pc := 128) (j := 0) dX1_tell_128 rfl) ?_
      exact ev_iret (pc := 130) dX1_tell_130
  · refine ev_step (st_iconst (pc := 107) dX1_tell_107 ni_0) ?_
    refine ev_step (st_goto (pc := 108) (tgt := 130) dX1_tell_108 (by decide)) ?_
    exact ev_iret (pc := 130) dX1_tell_130
set_option maxRecDepth 100000 in
set_option maxHeartbeats 4000000 in
theorem tX1_tell_81 (G : gx) (fu : Nat) (h0 : mh) (v0 : Nat) (v1 : Int32) (v2 : Int32) (v3 : Int32) (v4 : Int32) (h : mh) : Ev lI G yX1_tell cX1_tell 5 (some .int) 3 h0 81 [(0, .ref (gB G + v0)), (1, .int v1), (2, .int v2), (3, .int v3), (4, .int v4)] [] h (fX1_tell_81 fu v0 v1 v2 v3 v4 h) := by
  unfold fX1_tell_81
  refine ev_step (st_aload_n (pc := 81) (j := 0) dX1_tell_81 rfl rfl) ?_
  refine ev_getI (pc := 82) k_X1_34 rfl dX1_tell_82 (fun x1 => ?_)
  refine ev_br (br_if_eq (tgt := 92) (pc := 85) dX1_tell_85 (by decide)) (fun _ => ?_) (fun _ => ?_)
  · refine ev_step (st_aload_n (pc := 92) (j := 0) dX1_tell_92 rfl rfl) ?_
    refine ev_step (st_iload_n (pc := 93) (j := 1) dX1_tell_93 rfl rfl) ?_
    refine ev_step (st_iload_n (pc := 94) (j := 3) dX1_tell_94 rfl rfl) ?_
    refine ev_ck (fun ha hS => ?_)
    refine ev_callI (iv_V (As := [.int v1, .int v3]) (st := []) (pc := 95) rfl m_X1_valueOf l_X1_44 i_X1_valueOf e_X1_valueOf ha hS rfl (Nat.le_of_ble_eq_true rfl) rfl dX1_tell_95) (tX1_valueOf G fu v0 v1 v3 h) (by decide) (by decide) (fun x3 h2 => ?_)
    refine ev_sub (ls' := [(0, .ref (gB G + v0)), (1, .int v1), (2, .int v2), (3, .int v3), (4, .int v4)]) [0, 1, 2, 3, 4] rfl ?_
    exact tX1_tell_98 G fu h0 v0 v1 v2 v3 v4 x3 h2
  · refine ev_step (st_iconst (pc := 88) dX1_tell_88 ni_0) ?_
    refine ev_step (st_goto (pc := 89) (tgt := 98) dX1_tell_89 (by decide)) ?_
    refine ev_sub (ls' := [(0, .ref (gB G + v0)), (1, .int v1), (2, .int v2), (3, .int v3), (4, .int v4)]) [0, 1, 2, 3, 4] rfl ?_
    exact tX1_tell_98 G fu h0 v0 v1 v2 v3 v4 ((0 : Int32)) h
set_option maxRecDepth 100000 in
set_option maxHeartbeats 4000000 in
theorem tX1_tell_38 (G : gx) (fu : Nat) (h0 : mh) (v0 : Nat) (v1 : Int32) (v2 : Int32) (n : Nat) (v3 : Int32) (v4 : Int32) (h : mh) : Ev lI G yX1_tell cX1_tell 5 (some .int) 3 h0 38 [(0, .ref (gB G + v0)), (1, .int v1), (2, .int v2), (3, .int v3), (4, .int v4)] [] h (itr (bX1_tell_38 fu v0 v1 v2) n (v3, v4, h)) := by
  refine ev_itr (P := fun (q : Int32 × Int32 × mh) (R9 : Option (Int32 × mh)) => Ev lI G yX1_tell cX1_tell 5 (some .int) 3 h0 38 [(0, .ref (gB G + v0)), (1, .int v1), (2, .int v2), (3, .int q.1), (4, .int q.2.1)] [] q.2.2 R9) (fun _ => ev_none) (fun k38 hk9 q => ?_) n (v3, v4, h)
  obtain ⟨v3, v4, h⟩ := q
  have hk38 : ∀ (v3 : Int32) (v4 : Int32) (h : mh), Ev lI G yX1_tell cX1_tell 5 (some .int) 3 h0 38 [(0, .ref (gB G + v0)), (1, .int v1), (2, .int v2), (3, .int v3), (4, .int v4)] [] h (k38 (v3, v4, h)) := fun v3 v4 h => hk9 (v3, v4, h)
  show Ev lI G yX1_tell cX1_tell 5 (some .int) 3 h0 38 [(0, .ref (gB G + v0)), (1, .int v1), (2, .int v2), (3, .int v3), (4, .int v4)] [] h (bX1_tell_38 fu v0 v1 v2 k38 (v3, v4, h))
  unfold bX1_tell_38
  refine ev_step (st_iload (pc := 38) (j := 4) dX1_tell_38 rfl) ?_
  refine ev_step (st_iconst (pc := 40) dX1_tell_40 ni_2) ?_
  refine ev_step (st_iadd (pc := 41) dX1_tell_41) ?_
  refine ev_step (st_iload_n (pc := 42) (j := 2) dX1_tell_42 rfl rfl) ?_
  refine ev_br (br_icmp_ge (tgt := 81) (pc := 43) dX1_tell_43 (by decide)) (fun _ => ?_) (fun _ => ?_)
  · refine ev_sub (ls' := [(0, .ref (gB G + v0)), (1, .int v1), (2, .int v2), (3, .int v3), (4, .int v4)]) [0, 1, 2, 3, 4] rfl ?_
    exact tX1_tell_81 G fu h0 v0 v1 v2 v3 v4 h
  · refine ev_step (st_iload_n (pc := 46) (j := 3) dX1_tell_46 rfl rfl) ?_
    refine ev_step (st_iload_n (pc := 47) (j := 2) dX1_tell_47 rfl rfl) ?_
    refine ev_br (br_icmp_ne (tgt := 81) (pc := 48) dX1_tell_48 (by decide)) (fun _ => ?_) (fun _ => ?_)
    · refine ev_step (st_aload_n (pc := 51) (j := 0) dX1_tell_51 rfl rfl) ?_
      refine ev_step (st_iload_n (pc := 52) (j := 1) dX1_tell_52 rfl rfl) ?_
      refine ev_step (st_iload (pc := 53) (j := 4) dX1_tell_53 rfl) ?_
      refine ev_ck (fun ha hS => ?_)
      refine ev_callI (iv_V (As := [.int v1, .int v4]) (st := []) (pc := 55) rfl m_X1_valueOf l_X1_44 i_X1_valueOf e_X1_valueOf ha hS rfl (Nat.le_of_ble_eq_true rfl) rfl dX1_tell_55) (tX1_valueOf G fu v0 v1 v4 h) (by decide) (by decide) (fun x2 h1 => ?_)
      refine ev_step (st_aload_n (pc := 58) (j := 0) dX1_tell_58 rfl rfl) ?_
      refine ev_step (st_iload_n (pc := 59) (j := 1) dX1_tell_59 rfl rfl) ?_
      refine ev_step (st_iload (pc := 60) (j := 4) dX1_tell_60 rfl) ?_
      refine ev_step (st_iconst (pc := 62) dX1_tell_62 ni_1) ?_
      refine ev_step (st_iadd (pc := 63) dX1_tell_63) ?_
      refine ev_ck (fun ha hS => ?_)
      refine ev_callI (iv_V (As := [.int v1, .int (v4 + ((1 : Int32)))]) (st := [.int x2]) (pc := 64) rfl m_X1_valueOf l_X1_44 i_X1_valueOf e_X1_valueOf ha hS rfl (Nat.le_of_ble_eq_true rfl) rfl dX1_tell_64) (tX1_valueOf G fu v0 v1 (v4 + ((1 : Int32))) h1) (by decide) (by decide) (fun x4 h3 => ?_)
      refine ev_br (br_icmp_ge (tgt := 75) (pc := 67) dX1_tell_67 (by decide)) (fun _ => ?_) (fun _ => ?_)
      · refine ev_sub (ls' := [(0, .ref (gB G + v0)), (1, .int v1), (2, .int v2), (3, .int v3), (4, .int v4)]) [0, 1, 2, 3, 4] rfl ?_
        exact tX1_tell_75 G fu h0 v0 v1 v2 v3 v4 k38 hk38 h3
      · refine ev_step (st_iload (pc := 70) (j := 4) dX1_tell_70 rfl) ?_
        refine ev_step (st_iconst (pc := 72) dX1_tell_72 ni_2) ?_
        refine ev_step (st_iadd (pc := 73) dX1_tell_73) ?_
        refine ev_top (fun x5 => ?_)
        refine ev_step (st_istore_n (pc := 74) (ls' := [(3, .int x5), (0, .ref (gB G + v0)), (1, .int v1), (2, .int v2), (4, .int v4)]) dX1_tell_74 rfl (by decide) rfl) ?_
        refine ev_sub (ls' := [(0, .ref (gB G + v0)), (1, .int v1), (2, .int v2), (3, .int x5), (4, .int v4)]) [1, 2, 3, 0, 4] rfl ?_
        exact tX1_tell_75 G fu h0 v0 v1 v2 x5 v4 k38 hk38 h3
    · refine ev_sub (ls' := [(0, .ref (gB G + v0)), (1, .int v1), (2, .int v2), (3, .int v3), (4, .int v4)]) [0, 1, 2, 3, 4] rfl ?_
      exact tX1_tell_81 G fu h0 v0 v1 v2 v3 v4 h
set_option maxRecDepth 100000 in
set_option maxHeartbeats 4000000 in
theorem tX1_tell (G : gx) (fu : Nat) (v0 : Nat) (v1 : Int32) (h : mh) : Ct lI G yX1_tell cX1_tell 5 (some .int) 3 [.ref (gB G + v0), .int v1] h (fX1_tell fu v0 v1 h) := by
  refine ct_ls (ls := [(0, .ref (gB G + v0)), (1, .int v1)]) rfl (by decide) (Nat.le_of_ble_eq_true rfl) ?_
  unfold fX1_tell
  refine ev_step (st_aload_n (pc := 0) (j := 0) dX1_tell_0 rfl rfl) ?_
  refine ev_getR (pc := 1) k_X1_25 rfl dX1_tell_1 (fun a1 => ?_)
  refine ev_step (st_iload_n (pc := 4) (j := 1) dX1_tell_4 rfl rfl) ?_
  refine ev_ldi (pc := 5) dX1_tell_5 (fun x2 => ?_)
  refine ev_step (st_iconst (pc := 6) dX1_tell_6 ni_1) ?_
  refine ev_step (st_isub (pc := 7) dX1_tell_7) ?_
  refine ev_top (fun x3 => ?_)
  refine ev_step (st_istore_n (pc := 8) (ls' := [(2, .int x3), (0, .ref (gB G + v0)), (1, .int v1)]) dX1_tell_8 rfl (by decide) rfl) ?_
  refine ev_step (st_iload_n (pc := 9) (j := 0) dX1_tell_9 rfl rfl) ?_
  refine ev_br (br_if_ge (tgt := 28) (pc := 10) dX1_tell_10 (by decide)) (fun _ => ?_) (fun _ => ?_)
  · refine ev_step (st_aload_n (pc := 28) (j := 1) dX1_tell_28 rfl rfl) ?_
    refine ev_step (st_iconst (pc := 29) dX1_tell_29 ni_0) ?_
    refine ev_putZ (pc := 30) (p_X1_34 _ rfl) rfl dX1_tell_30 (fun h4 => ?_)
    refine ev_step (st_iload_n (pc := 33) (j := 0) dX1_tell_33 rfl rfl) ?_
    refine ev_step (st_istore_n (pc := 34) (ls' := [(3, .int x3), (2, .int x3), (0, .ref (gB G + v0)), (1, .int v1)]) dX1_tell_34 rfl (by decide) rfl) ?_
    refine ev_step (st_iconst (pc := 35) dX1_tell_35 ni_0) ?_
    refine ev_step (st_istore (pc := 36) (ls' := [(4, .int ((0 : Int32))), (3, .int x3), (2, .int x3), (0, .ref (gB G + v0)), (1, .int v1)]) dX1_tell_36 (by decide) rfl) ?_
    refine ev_sub (ls' := [(0, .ref (gB G + v0)), (1, .int v1), (2, .int x3), (3, .int x3), (4, .int ((0 : Int32)))]) [3, 4, 2, 1, 0] rfl ?_
    exact tX1_tell_38 G fu h v0 v1 x3 fu x3 ((0 : Int32)) h4
  · refine ev_step (st_iload_n (pc := 13) (j := 2) dX1_tell_13 rfl rfl) ?_
    refine ev_br (br_if_eq (tgt := 22) (pc := 14) dX1_tell_14 (by decide)) (fun _ => ?_) (fun _ => ?_)
    · refine ev_step (st_iconst (pc := 22) dX1_tell_22 ni_1) ?_
      refine ev_step (st_goto (pc := 23) (tgt := 27) dX1_tell_23 (by decide)) ?_
      exact ev_iret (pc := 27) dX1_tell_27
    · refine ev_step (st_iload_n (pc := 17) (j := 2) dX1_tell_17 rfl rfl) ?_
      refine ev_step (st_iconst (pc := 18) dX1_tell_18 ni_1) ?_
      refine ev_br (br_icmp_ne (tgt := 26) (pc := 19) dX1_tell_19 (by decide)) (fun _ => ?_) (fun _ => ?_)
      · refine ev_step (st_iconst (pc := 22) dX1_tell_22 ni_1) ?_
        refine ev_step (st_goto (pc := 23) (tgt := 27) dX1_tell_23 (by decide)) ?_
        exact ev_iret (pc := 27) dX1_tell_27
      · refine ev_step (st_iconst (pc := 26) dX1_tell_26 ni_0) ?_
        exact ev_iret (pc := 27) dX1_tell_27
