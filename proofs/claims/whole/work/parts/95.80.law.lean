theorem dL_law_0 : decode cL_law 0 = .ok (.new 7, 3) := by decide +kernel
theorem dL_law_3 : decode cL_law 3 = .ok (.dup, 1) := by decide +kernel
theorem dL_law_4 : decode cL_law 4 = .ok (.invokespecial 9, 3) := by decide +kernel
theorem dL_law_7 : decode cL_law 7 = .ok (.astore_n 1, 1) := by decide +kernel
theorem dL_law_8 : decode cL_law 8 = .ok (.new 10, 3) := by decide +kernel
theorem dL_law_11 : decode cL_law 11 = .ok (.dup, 1) := by decide +kernel
theorem dL_law_12 : decode cL_law 12 = .ok (.invokespecial 12, 3) := by decide +kernel
theorem dL_law_15 : decode cL_law 15 = .ok (.astore_n 2, 1) := by decide +kernel
theorem dL_law_16 : decode cL_law 16 = .ok (.iconst 0, 1) := by decide +kernel
theorem dL_law_17 : decode cL_law 17 = .ok (.istore_n 3, 1) := by decide +kernel
theorem dL_law_18 : decode cL_law 18 = .ok (.iload_n 3, 1) := by decide +kernel
theorem dL_law_19 : decode cL_law 19 = .ok (.aload_n 0, 1) := by decide +kernel
theorem dL_law_20 : decode cL_law 20 = .ok (.arraylength, 1) := by decide +kernel
theorem dL_law_21 : decode cL_law 21 = .ok (.bipush 6, 2) := by decide +kernel
theorem dL_law_23 : decode cL_law 23 = .ok (.isub, 1) := by decide +kernel
theorem dL_law_24 : decode cL_law 24 = .ok (.if_icmp .gt 1476, 3) := by decide +kernel
theorem dL_law_27 : decode cL_law 27 = .ok (.aload_n 0, 1) := by decide +kernel
theorem dL_law_28 : decode cL_law 28 = .ok (.iload_n 3, 1) := by decide +kernel
theorem dL_law_29 : decode cL_law 29 = .ok (.iaload, 1) := by decide +kernel
theorem dL_law_30 : decode cL_law 30 = .ok (.bipush 63, 2) := by decide +kernel
theorem dL_law_32 : decode cL_law 32 = .ok (.iand, 1) := by decide +kernel
theorem dL_law_33 : decode cL_law 33 = .ok (.tableswitch 1461 0 43 #[191, 254, 277, 290, 303, 336, 369, 412, 435, 484, 517, 550, 573, 586, 619, 642, 675, 698, 721, 744, 767, 790, 823, 856, 879, 902, 935, 948, 971, 994, 1017, 1050, 1073, 1096, 1139, 1172, 1225, 1274, 1323, 1336, 1369, 1392, 1415, 1438], 191) := by decide +kernel
theorem dL_law_224 : decode cL_law 224 = .ok (.aload_n 1, 1) := by decide +kernel
theorem dL_law_225 : decode cL_law 225 = .ok (.aload_n 0, 1) := by decide +kernel
theorem dL_law_226 : decode cL_law 226 = .ok (.iload_n 3, 1) := by decide +kernel
theorem dL_law_227 : decode cL_law 227 = .ok (.iconst 1, 1) := by decide +kernel
theorem dL_law_228 : decode cL_law 228 = .ok (.iadd, 1) := by decide +kernel
theorem dL_law_229 : decode cL_law 229 = .ok (.iaload, 1) := by decide +kernel
theorem dL_law_230 : decode cL_law 230 = .ok (.aload_n 0, 1) := by decide +kernel
theorem dL_law_231 : decode cL_law 231 = .ok (.iload_n 3, 1) := by decide +kernel
theorem dL_law_232 : decode cL_law 232 = .ok (.iconst 2, 1) := by decide +kernel
theorem dL_law_233 : decode cL_law 233 = .ok (.iadd, 1) := by decide +kernel
theorem dL_law_234 : decode cL_law 234 = .ok (.iaload, 1) := by decide +kernel
theorem dL_law_235 : decode cL_law 235 = .ok (.aload_n 0, 1) := by decide +kernel
theorem dL_law_236 : decode cL_law 236 = .ok (.iload_n 3, 1) := by decide +kernel
theorem dL_law_237 : decode cL_law 237 = .ok (.iconst 3, 1) := by decide +kernel
theorem dL_law_238 : decode cL_law 238 = .ok (.iadd, 1) := by decide +kernel
theorem dL_law_239 : decode cL_law 239 = .ok (.iaload, 1) := by decide +kernel
theorem dL_law_240 : decode cL_law 240 = .ok (.aload_n 0, 1) := by decide +kernel
theorem dL_law_241 : decode cL_law 241 = .ok (.iload_n 3, 1) := by decide +kernel
theorem dL_law_242 : decode cL_law 242 = .ok (.iconst 4, 1) := by decide +kernel
theorem dL_law_243 : decode cL_law 243 = .ok (.iadd, 1) := by decide +kernel
theorem dL_law_244 : decode cL_law 244 = .ok (.iaload, 1) := by decide +kernel
theorem dL_law_245 : decode cL_law 245 = .ok (.aload_n 0, 1) := by decide +kernel
theorem dL_law_246 : decode cL_law 246 = .ok (.iload_n 3, 1) := by decide +kernel
theorem dL_law_247 : decode cL_law 247 = .ok (.iconst 5, 1) := by decide +kernel
theorem dL_law_248 : decode cL_law 248 = .ok (.iadd, 1) := by decide +kernel
theorem dL_law_249 : decode cL_law 249 = .ok (.iaload, 1) := by decide +kernel
theorem dL_law_250 : decode cL_law 250 = .ok (.invokevirtual 13, 3) := by decide +kernel
theorem dL_law_253 : decode cL_law 253 = .ok (.aload_n 2, 1) := by decide +kernel
theorem dL_law_254 : decode cL_law 254 = .ok (.aload_n 0, 1) := by decide +kernel
theorem dL_law_255 : decode cL_law 255 = .ok (.iload_n 3, 1) := by decide +kernel
theorem dL_law_256 : decode cL_law 256 = .ok (.iconst 1, 1) := by decide +kernel
theorem dL_law_257 : decode cL_law 257 = .ok (.iadd, 1) := by decide +kernel
theorem dL_law_258 : decode cL_law 258 = .ok (.iaload, 1) := by decide +kernel
theorem dL_law_259 : decode cL_law 259 = .ok (.aload_n 0, 1) := by decide +kernel
theorem dL_law_260 : decode cL_law 260 = .ok (.iload_n 3, 1) := by decide +kernel
theorem dL_law_261 : decode cL_law 261 = .ok (.iconst 2, 1) := by decide +kernel
theorem dL_law_262 : decode cL_law 262 = .ok (.iadd, 1) := by decide +kernel
theorem dL_law_263 : decode cL_law 263 = .ok (.iaload, 1) := by decide +kernel
theorem dL_law_264 : decode cL_law 264 = .ok (.aload_n 0, 1) := by decide +kernel
theorem dL_law_265 : decode cL_law 265 = .ok (.iload_n 3, 1) := by decide +kernel
theorem dL_law_266 : decode cL_law 266 = .ok (.iconst 3, 1) := by decide +kernel
theorem dL_law_267 : decode cL_law 267 = .ok (.iadd, 1) := by decide +kernel
theorem dL_law_268 : decode cL_law 268 = .ok (.iaload, 1) := by decide +kernel
theorem dL_law_269 : decode cL_law 269 = .ok (.aload_n 0, 1) := by decide +kernel
theorem dL_law_270 : decode cL_law 270 = .ok (.iload_n 3, 1) := by decide +kernel
theorem dL_law_271 : decode cL_law 271 = .ok (.iconst 4, 1) := by decide +kernel
theorem dL_law_272 : decode cL_law 272 = .ok (.iadd, 1) := by decide +kernel
theorem dL_law_273 : decode cL_law 273 = .ok (.iaload, 1) := by decide +kernel
theorem dL_law_274 : decode cL_law 274 = .ok (.aload_n 0, 1) := by decide +kernel
theorem dL_law_275 : decode cL_law 275 = .ok (.iload_n 3, 1) := by decide +kernel
theorem dL_law_276 : decode cL_law 276 = .ok (.iconst 5, 1) := by decide +kernel
theorem dL_law_277 : decode cL_law 277 = .ok (.iadd, 1) := by decide +kernel
theorem dL_law_278 : decode cL_law 278 = .ok (.iaload, 1) := by decide +kernel
theorem dL_law_279 : decode cL_law 279 = .ok (.invokevirtual 17, 3) := by decide +kernel
theorem dL_law_282 : decode cL_law 282 = .ok (.if_icmp .eq 1212, 3) := by decide +kernel
theorem dL_law_285 : decode cL_law 285 = .ok (.iconst 0, 1) := by decide +kernel
theorem dL_law_286 : decode cL_law 286 = .ok (.ireturn, 1) := by decide +kernel
theorem dL_law_287 : decode cL_law 287 = .ok (.aload_n 1, 1) := by decide +kernel
theorem dL_law_288 : decode cL_law 288 = .ok (.aload_n 0, 1) := by decide +kernel
theorem dL_law_289 : decode cL_law 289 = .ok (.iload_n 3, 1) := by decide +kernel
theorem dL_law_290 : decode cL_law 290 = .ok (.iconst 1, 1) := by decide +kernel
theorem dL_law_291 : decode cL_law 291 = .ok (.iadd, 1) := by decide +kernel
theorem dL_law_292 : decode cL_law 292 = .ok (.iaload, 1) := by decide +kernel
theorem dL_law_293 : decode cL_law 293 = .ok (.invokevirtual 18, 3) := by decide +kernel
theorem dL_law_296 : decode cL_law 296 = .ok (.aload_n 2, 1) := by decide +kernel
theorem dL_law_297 : decode cL_law 297 = .ok (.aload_n 0, 1) := by decide +kernel
theorem dL_law_298 : decode cL_law 298 = .ok (.iload_n 3, 1) := by decide +kernel
theorem dL_law_299 : decode cL_law 299 = .ok (.iconst 1, 1) := by decide +kernel
theorem dL_law_300 : decode cL_law 300 = .ok (.iadd, 1) := by decide +kernel
theorem dL_law_301 : decode cL_law 301 = .ok (.iaload, 1) := by decide +kernel
theorem dL_law_302 : decode cL_law 302 = .ok (.invokevirtual 22, 3) := by decide +kernel
theorem dL_law_305 : decode cL_law 305 = .ok (.if_icmp .eq 1189, 3) := by decide +kernel
theorem dL_law_308 : decode cL_law 308 = .ok (.iconst 0, 1) := by decide +kernel
theorem dL_law_309 : decode cL_law 309 = .ok (.ireturn, 1) := by decide +kernel
theorem dL_law_310 : decode cL_law 310 = .ok (.aload_n 1, 1) := by decide +kernel
theorem dL_law_311 : decode cL_law 311 = .ok (.invokevirtual 23, 3) := by decide +kernel
theorem dL_law_314 : decode cL_law 314 = .ok (.aload_n 2, 1) := by decide +kernel
theorem dL_law_315 : decode cL_law 315 = .ok (.invokevirtual 27, 3) := by decide +kernel
theorem dL_law_318 : decode cL_law 318 = .ok (.if_icmp .eq 1176, 3) := by decide +kernel
theorem dL_law_321 : decode cL_law 321 = .ok (.iconst 0, 1) := by decide +kernel
theorem dL_law_322 : decode cL_law 322 = .ok (.ireturn, 1) := by decide +kernel
theorem dL_law_323 : decode cL_law 323 = .ok (.aload_n 1, 1) := by decide +kernel
theorem dL_law_324 : decode cL_law 324 = .ok (.invokevirtual 28, 3) := by decide +kernel
theorem dL_law_327 : decode cL_law 327 = .ok (.aload_n 2, 1) := by decide +kernel
theorem dL_law_328 : decode cL_law 328 = .ok (.invokevirtual 31, 3) := by decide +kernel
theorem dL_law_331 : decode cL_law 331 = .ok (.if_icmp .eq 1163, 3) := by decide +kernel
theorem dL_law_334 : decode cL_law 334 = .ok (.iconst 0, 1) := by decide +kernel
theorem dL_law_335 : decode cL_law 335 = .ok (.ireturn, 1) := by decide +kernel
theorem dL_law_336 : decode cL_law 336 = .ok (.aload_n 1, 1) := by decide +kernel
theorem dL_law_337 : decode cL_law 337 = .ok (.aload_n 0, 1) := by decide +kernel
theorem dL_law_338 : decode cL_law 338 = .ok (.iload_n 3, 1) := by decide +kernel
theorem dL_law_339 : decode cL_law 339 = .ok (.iconst 1, 1) := by decide +kernel
theorem dL_law_340 : decode cL_law 340 = .ok (.iadd, 1) := by decide +kernel
theorem dL_law_341 : decode cL_law 341 = .ok (.iaload, 1) := by decide +kernel
theorem dL_law_342 : decode cL_law 342 = .ok (.aload_n 0, 1) := by decide +kernel
theorem dL_law_343 : decode cL_law 343 = .ok (.iload_n 3, 1) := by decide +kernel
theorem dL_law_344 : decode cL_law 344 = .ok (.iconst 2, 1) := by decide +kernel
theorem dL_law_345 : decode cL_law 345 = .ok (.iadd, 1) := by decide +kernel
theorem dL_law_346 : decode cL_law 346 = .ok (.iaload, 1) := by decide +kernel
theorem dL_law_347 : decode cL_law 347 = .ok (.invokevirtual 32, 3) := by decide +kernel
theorem dL_law_350 : decode cL_law 350 = .ok (.aload_n 2, 1) := by decide +kernel
theorem dL_law_351 : decode cL_law 351 = .ok (.aload_n 0, 1) := by decide +kernel
theorem dL_law_352 : decode cL_law 352 = .ok (.iload_n 3, 1) := by decide +kernel
theorem dL_law_353 : decode cL_law 353 = .ok (.iconst 1, 1) := by decide +kernel
theorem dL_law_354 : decode cL_law 354 = .ok (.iadd, 1) := by decide +kernel
theorem dL_law_355 : decode cL_law 355 = .ok (.iaload, 1) := by decide +kernel
theorem dL_law_356 : decode cL_law 356 = .ok (.aload_n 0, 1) := by decide +kernel
theorem dL_law_357 : decode cL_law 357 = .ok (.iload_n 3, 1) := by decide +kernel
theorem dL_law_358 : decode cL_law 358 = .ok (.iconst 2, 1) := by decide +kernel
theorem dL_law_359 : decode cL_law 359 = .ok (.iadd, 1) := by decide +kernel
theorem dL_law_360 : decode cL_law 360 = .ok (.iaload, 1) := by decide +kernel
theorem dL_law_361 : decode cL_law 361 = .ok (.invokevirtual 36, 3) := by decide +kernel
theorem dL_law_364 : decode cL_law 364 = .ok (.if_icmp .eq 1130, 3) := by decide +kernel
theorem dL_law_367 : decode cL_law 367 = .ok (.iconst 0, 1) := by decide +kernel
theorem dL_law_368 : decode cL_law 368 = .ok (.ireturn, 1) := by decide +kernel
theorem dL_law_369 : decode cL_law 369 = .ok (.aload_n 1, 1) := by decide +kernel
theorem dL_law_370 : decode cL_law 370 = .ok (.aload_n 0, 1) := by decide +kernel
theorem dL_law_371 : decode cL_law 371 = .ok (.iload_n 3, 1) := by decide +kernel
theorem dL_law_372 : decode cL_law 372 = .ok (.iconst 1, 1) := by decide +kernel
theorem dL_law_373 : decode cL_law 373 = .ok (.iadd, 1) := by decide +kernel
theorem dL_law_374 : decode cL_law 374 = .ok (.iaload, 1) := by decide +kernel
theorem dL_law_375 : decode cL_law 375 = .ok (.aload_n 0, 1) := by decide +kernel
theorem dL_law_376 : decode cL_law 376 = .ok (.iload_n 3, 1) := by decide +kernel
theorem dL_law_377 : decode cL_law 377 = .ok (.iconst 2, 1) := by decide +kernel
theorem dL_law_378 : decode cL_law 378 = .ok (.iadd, 1) := by decide +kernel
theorem dL_law_379 : decode cL_law 379 = .ok (.iaload, 1) := by decide +kernel
theorem dL_law_380 : decode cL_law 380 = .ok (.invokevirtual 37, 3) := by decide +kernel
theorem dL_law_383 : decode cL_law 383 = .ok (.aload_n 2, 1) := by decide +kernel
theorem dL_law_384 : decode cL_law 384 = .ok (.aload_n 0, 1) := by decide +kernel
theorem dL_law_385 : decode cL_law 385 = .ok (.iload_n 3, 1) := by decide +kernel
theorem dL_law_386 : decode cL_law 386 = .ok (.iconst 1, 1) := by decide +kernel
theorem dL_law_387 : decode cL_law 387 = .ok (.iadd, 1) := by decide +kernel
theorem dL_law_388 : decode cL_law 388 = .ok (.iaload, 1) := by decide +kernel
theorem dL_law_389 : decode cL_law 389 = .ok (.aload_n 0, 1) := by decide +kernel
theorem dL_law_390 : decode cL_law 390 = .ok (.iload_n 3, 1) := by decide +kernel
theorem dL_law_391 : decode cL_law 391 = .ok (.iconst 2, 1) := by decide +kernel
theorem dL_law_392 : decode cL_law 392 = .ok (.iadd, 1) := by decide +kernel
theorem dL_law_393 : decode cL_law 393 = .ok (.iaload, 1) := by decide +kernel
theorem dL_law_394 : decode cL_law 394 = .ok (.invokevirtual 40, 3) := by decide +kernel
theorem dL_law_397 : decode cL_law 397 = .ok (.if_icmp .eq 1097, 3) := by decide +kernel
theorem dL_law_400 : decode cL_law 400 = .ok (.iconst 0, 1) := by decide +kernel
theorem dL_law_401 : decode cL_law 401 = .ok (.ireturn, 1) := by decide +kernel
theorem dL_law_402 : decode cL_law 402 = .ok (.aload_n 1, 1) := by decide +kernel
theorem dL_law_403 : decode cL_law 403 = .ok (.aload_n 0, 1) := by decide +kernel
theorem dL_law_404 : decode cL_law 404 = .ok (.iload_n 3, 1) := by decide +kernel
theorem dL_law_405 : decode cL_law 405 = .ok (.iconst 1, 1) := by decide +kernel
theorem dL_law_406 : decode cL_law 406 = .ok (.iadd, 1) := by decide +kernel
theorem dL_law_407 : decode cL_law 407 = .ok (.iaload, 1) := by decide +kernel
theorem dL_law_408 : decode cL_law 408 = .ok (.aload_n 0, 1) := by decide +kernel
theorem dL_law_409 : decode cL_law 409 = .ok (.iload_n 3, 1) := by decide +kernel
theorem dL_law_410 : decode cL_law 410 = .ok (.iconst 2, 1) := by decide +kernel
theorem dL_law_411 : decode cL_law 411 = .ok (.iadd, 1) := by decide +kernel
theorem dL_law_412 : decode cL_law 412 = .ok (.iaload, 1) := by decide +kernel
theorem dL_law_413 : decode cL_law 413 = .ok (.aload_n 0, 1) := by decide +kernel
theorem dL_law_414 : decode cL_law 414 = .ok (.iload_n 3, 1) := by decide +kernel
theorem dL_law_415 : decode cL_law 415 = .ok (.iconst 3, 1) := by decide +kernel
theorem dL_law_416 : decode cL_law 416 = .ok (.iadd, 1) := by decide +kernel
theorem dL_law_417 : decode cL_law 417 = .ok (.iaload, 1) := by decide +kernel
theorem dL_law_418 : decode cL_law 418 = .ok (.invokevirtual 41, 3) := by decide +kernel
theorem dL_law_421 : decode cL_law 421 = .ok (.aload_n 2, 1) := by decide +kernel
theorem dL_law_422 : decode cL_law 422 = .ok (.aload_n 0, 1) := by decide +kernel
theorem dL_law_423 : decode cL_law 423 = .ok (.iload_n 3, 1) := by decide +kernel
theorem dL_law_424 : decode cL_law 424 = .ok (.iconst 1, 1) := by decide +kernel
theorem dL_law_425 : decode cL_law 425 = .ok (.iadd, 1) := by decide +kernel
theorem dL_law_426 : decode cL_law 426 = .ok (.iaload, 1) := by decide +kernel
theorem dL_law_427 : decode cL_law 427 = .ok (.aload_n 0, 1) := by decide +kernel
theorem dL_law_428 : decode cL_law 428 = .ok (.iload_n 3, 1) := by decide +kernel
theorem dL_law_429 : decode cL_law 429 = .ok (.iconst 2, 1) := by decide +kernel
theorem dL_law_430 : decode cL_law 430 = .ok (.iadd, 1) := by decide +kernel
theorem dL_law_431 : decode cL_law 431 = .ok (.iaload, 1) := by decide +kernel
theorem dL_law_432 : decode cL_law 432 = .ok (.aload_n 0, 1) := by decide +kernel
theorem dL_law_433 : decode cL_law 433 = .ok (.iload_n 3, 1) := by decide +kernel
theorem dL_law_434 : decode cL_law 434 = .ok (.iconst 3, 1) := by decide +kernel
theorem dL_law_435 : decode cL_law 435 = .ok (.iadd, 1) := by decide +kernel
theorem dL_law_436 : decode cL_law 436 = .ok (.iaload, 1) := by decide +kernel
theorem dL_law_437 : decode cL_law 437 = .ok (.invokevirtual 45, 3) := by decide +kernel
theorem dL_law_440 : decode cL_law 440 = .ok (.if_icmp .eq 1054, 3) := by decide +kernel
theorem dL_law_443 : decode cL_law 443 = .ok (.iconst 0, 1) := by decide +kernel
theorem dL_law_444 : decode cL_law 444 = .ok (.ireturn, 1) := by decide +kernel
theorem dL_law_445 : decode cL_law 445 = .ok (.aload_n 1, 1) := by decide +kernel
theorem dL_law_446 : decode cL_law 446 = .ok (.aload_n 0, 1) := by decide +kernel
theorem dL_law_447 : decode cL_law 447 = .ok (.iload_n 3, 1) := by decide +kernel
theorem dL_law_448 : decode cL_law 448 = .ok (.iconst 1, 1) := by decide +kernel
theorem dL_law_449 : decode cL_law 449 = .ok (.iadd, 1) := by decide +kernel
theorem dL_law_450 : decode cL_law 450 = .ok (.iaload, 1) := by decide +kernel
theorem dL_law_451 : decode cL_law 451 = .ok (.invokevirtual 46, 3) := by decide +kernel
theorem dL_law_454 : decode cL_law 454 = .ok (.aload_n 2, 1) := by decide +kernel
theorem dL_law_455 : decode cL_law 455 = .ok (.aload_n 0, 1) := by decide +kernel
theorem dL_law_456 : decode cL_law 456 = .ok (.iload_n 3, 1) := by decide +kernel
theorem dL_law_457 : decode cL_law 457 = .ok (.iconst 1, 1) := by decide +kernel
theorem dL_law_458 : decode cL_law 458 = .ok (.iadd, 1) := by decide +kernel
theorem dL_law_459 : decode cL_law 459 = .ok (.iaload, 1) := by decide +kernel
theorem dL_law_460 : decode cL_law 460 = .ok (.invokevirtual 50, 3) := by decide +kernel
theorem dL_law_463 : decode cL_law 463 = .ok (.if_icmp .eq 1031, 3) := by decide +kernel
theorem dL_law_466 : decode cL_law 466 = .ok (.iconst 0, 1) := by decide +kernel
theorem dL_law_467 : decode cL_law 467 = .ok (.ireturn, 1) := by decide +kernel
theorem dL_law_468 : decode cL_law 468 = .ok (.aload_n 1, 1) := by decide +kernel
theorem dL_law_469 : decode cL_law 469 = .ok (.aload_n 0, 1) := by decide +kernel
theorem dL_law_470 : decode cL_law 470 = .ok (.iload_n 3, 1) := by decide +kernel
theorem dL_law_471 : decode cL_law 471 = .ok (.iconst 1, 1) := by decide +kernel
theorem dL_law_472 : decode cL_law 472 = .ok (.iadd, 1) := by decide +kernel
theorem dL_law_473 : decode cL_law 473 = .ok (.iaload, 1) := by decide +kernel
theorem dL_law_474 : decode cL_law 474 = .ok (.aload_n 0, 1) := by decide +kernel
theorem dL_law_475 : decode cL_law 475 = .ok (.iload_n 3, 1) := by decide +kernel
theorem dL_law_476 : decode cL_law 476 = .ok (.iconst 2, 1) := by decide +kernel
theorem dL_law_477 : decode cL_law 477 = .ok (.iadd, 1) := by decide +kernel
theorem dL_law_478 : decode cL_law 478 = .ok (.iaload, 1) := by decide +kernel
theorem dL_law_479 : decode cL_law 479 = .ok (.ifCond .eq 7, 3) := by decide +kernel
theorem dL_law_482 : decode cL_law 482 = .ok (.iconst 1, 1) := by decide +kernel
theorem dL_law_483 : decode cL_law 483 = .ok (.goto 4, 3) := by decide +kernel
theorem dL_law_486 : decode cL_law 486 = .ok (.iconst 0, 1) := by decide +kernel
theorem dL_law_487 : decode cL_law 487 = .ok (.invokevirtual 51, 3) := by decide +kernel
theorem dL_law_490 : decode cL_law 490 = .ok (.aload_n 2, 1) := by decide +kernel
theorem dL_law_491 : decode cL_law 491 = .ok (.aload_n 0, 1) := by decide +kernel
theorem dL_law_492 : decode cL_law 492 = .ok (.iload_n 3, 1) := by decide +kernel
theorem dL_law_493 : decode cL_law 493 = .ok (.iconst 1, 1) := by decide +kernel
theorem dL_law_494 : decode cL_law 494 = .ok (.iadd, 1) := by decide +kernel
theorem dL_law_495 : decode cL_law 495 = .ok (.iaload, 1) := by decide +kernel
theorem dL_law_496 : decode cL_law 496 = .ok (.aload_n 0, 1) := by decide +kernel
theorem dL_law_497 : decode cL_law 497 = .ok (.iload_n 3, 1) := by decide +kernel
theorem dL_law_498 : decode cL_law 498 = .ok (.iconst 2, 1) := by decide +kernel
theorem dL_law_499 : decode cL_law 499 = .ok (.iadd, 1) := by decide +kernel
theorem dL_law_500 : decode cL_law 500 = .ok (.iaload, 1) := by decide +kernel
theorem dL_law_501 : decode cL_law 501 = .ok (.ifCond .eq 7, 3) := by decide +kernel
theorem dL_law_504 : decode cL_law 504 = .ok (.iconst 1, 1) := by decide +kernel
theorem dL_law_505 : decode cL_law 505 = .ok (.goto 4, 3) := by decide +kernel
theorem dL_law_508 : decode cL_law 508 = .ok (.iconst 0, 1) := by decide +kernel
theorem dL_law_509 : decode cL_law 509 = .ok (.invokevirtual 55, 3) := by decide +kernel
theorem dL_law_512 : decode cL_law 512 = .ok (.if_icmp .eq 982, 3) := by decide +kernel
theorem dL_law_515 : decode cL_law 515 = .ok (.iconst 0, 1) := by decide +kernel
theorem dL_law_516 : decode cL_law 516 = .ok (.ireturn, 1) := by decide +kernel
theorem dL_law_517 : decode cL_law 517 = .ok (.aload_n 1, 1) := by decide +kernel
theorem dL_law_518 : decode cL_law 518 = .ok (.aload_n 0, 1) := by decide +kernel
theorem dL_law_519 : decode cL_law 519 = .ok (.iload_n 3, 1) := by decide +kernel
theorem dL_law_520 : decode cL_law 520 = .ok (.iconst 1, 1) := by decide +kernel
theorem dL_law_521 : decode cL_law 521 = .ok (.iadd, 1) := by decide +kernel
theorem dL_law_522 : decode cL_law 522 = .ok (.iaload, 1) := by decide +kernel
theorem dL_law_523 : decode cL_law 523 = .ok (.aload_n 0, 1) := by decide +kernel
theorem dL_law_524 : decode cL_law 524 = .ok (.iload_n 3, 1) := by decide +kernel
theorem dL_law_525 : decode cL_law 525 = .ok (.iconst 2, 1) := by decide +kernel
theorem dL_law_526 : decode cL_law 526 = .ok (.iadd, 1) := by decide +kernel
theorem dL_law_527 : decode cL_law 527 = .ok (.iaload, 1) := by decide +kernel
theorem dL_law_528 : decode cL_law 528 = .ok (.invokevirtual 56, 3) := by decide +kernel
theorem dL_law_531 : decode cL_law 531 = .ok (.aload_n 2, 1) := by decide +kernel
theorem dL_law_532 : decode cL_law 532 = .ok (.aload_n 0, 1) := by decide +kernel
theorem dL_law_533 : decode cL_law 533 = .ok (.iload_n 3, 1) := by decide +kernel
theorem dL_law_534 : decode cL_law 534 = .ok (.iconst 1, 1) := by decide +kernel
theorem dL_law_535 : decode cL_law 535 = .ok (.iadd, 1) := by decide +kernel
theorem dL_law_536 : decode cL_law 536 = .ok (.iaload, 1) := by decide +kernel
theorem dL_law_537 : decode cL_law 537 = .ok (.aload_n 0, 1) := by decide +kernel
theorem dL_law_538 : decode cL_law 538 = .ok (.iload_n 3, 1) := by decide +kernel
theorem dL_law_539 : decode cL_law 539 = .ok (.iconst 2, 1) := by decide +kernel
theorem dL_law_540 : decode cL_law 540 = .ok (.iadd, 1) := by decide +kernel
theorem dL_law_541 : decode cL_law 541 = .ok (.iaload, 1) := by decide +kernel
theorem dL_law_542 : decode cL_law 542 = .ok (.invokevirtual 60, 3) := by decide +kernel
theorem dL_law_545 : decode cL_law 545 = .ok (.if_icmp .eq 949, 3) := by decide +kernel
theorem dL_law_548 : decode cL_law 548 = .ok (.iconst 0, 1) := by decide +kernel
theorem dL_law_549 : decode cL_law 549 = .ok (.ireturn, 1) := by decide +kernel
theorem dL_law_550 : decode cL_law 550 = .ok (.aload_n 1, 1) := by decide +kernel
theorem dL_law_551 : decode cL_law 551 = .ok (.aload_n 0, 1) := by decide +kernel
theorem dL_law_552 : decode cL_law 552 = .ok (.iload_n 3, 1) := by decide +kernel
theorem dL_law_553 : decode cL_law 553 = .ok (.iconst 1, 1) := by decide +kernel
theorem dL_law_554 : decode cL_law 554 = .ok (.iadd, 1) := by decide +kernel
theorem dL_law_555 : decode cL_law 555 = .ok (.iaload, 1) := by decide +kernel
theorem dL_law_556 : decode cL_law 556 = .ok (.aload_n 0, 1) := by decide +kernel
theorem dL_law_557 : decode cL_law 557 = .ok (.iload_n 3, 1) := by decide +kernel
theorem dL_law_558 : decode cL_law 558 = .ok (.iconst 2, 1) := by decide +kernel
theorem dL_law_559 : decode cL_law 559 = .ok (.iadd, 1) := by decide +kernel
theorem dL_law_560 : decode cL_law 560 = .ok (.iaload, 1) := by decide +kernel
theorem dL_law_561 : decode cL_law 561 = .ok (.invokevirtual 61, 3) := by decide +kernel
theorem dL_law_564 : decode cL_law 564 = .ok (.aload_n 2, 1) := by decide +kernel
theorem dL_law_565 : decode cL_law 565 = .ok (.aload_n 0, 1) := by decide +kernel
theorem dL_law_566 : decode cL_law 566 = .ok (.iload_n 3, 1) := by decide +kernel
theorem dL_law_567 : decode cL_law 567 = .ok (.iconst 1, 1) := by decide +kernel
theorem dL_law_568 : decode cL_law 568 = .ok (.iadd, 1) := by decide +kernel
theorem dL_law_569 : decode cL_law 569 = .ok (.iaload, 1) := by decide +kernel
theorem dL_law_570 : decode cL_law 570 = .ok (.aload_n 0, 1) := by decide +kernel
theorem dL_law_571 : decode cL_law 571 = .ok (.iload_n 3, 1) := by decide +kernel
theorem dL_law_572 : decode cL_law 572 = .ok (.iconst 2, 1) := by decide +kernel
theorem dL_law_573 : decode cL_law 573 = .ok (.iadd, 1) := by decide +kernel
theorem dL_law_574 : decode cL_law 574 = .ok (.iaload, 1) := by decide +kernel
theorem dL_law_575 : decode cL_law 575 = .ok (.invokevirtual 64, 3) := by decide +kernel
theorem dL_law_578 : decode cL_law 578 = .ok (.if_icmp .eq 916, 3) := by decide +kernel
theorem dL_law_581 : decode cL_law 581 = .ok (.iconst 0, 1) := by decide +kernel
theorem dL_law_582 : decode cL_law 582 = .ok (.ireturn, 1) := by decide +kernel
theorem dL_law_583 : decode cL_law 583 = .ok (.aload_n 1, 1) := by decide +kernel
theorem dL_law_584 : decode cL_law 584 = .ok (.aload_n 0, 1) := by decide +kernel
theorem dL_law_585 : decode cL_law 585 = .ok (.iload_n 3, 1) := by decide +kernel
theorem dL_law_586 : decode cL_law 586 = .ok (.iconst 1, 1) := by decide +kernel
theorem dL_law_587 : decode cL_law 587 = .ok (.iadd, 1) := by decide +kernel
theorem dL_law_588 : decode cL_law 588 = .ok (.iaload, 1) := by decide +kernel
theorem dL_law_589 : decode cL_law 589 = .ok (.invokevirtual 65, 3) := by decide +kernel
theorem dL_law_592 : decode cL_law 592 = .ok (.aload_n 2, 1) := by decide +kernel
theorem dL_law_593 : decode cL_law 593 = .ok (.aload_n 0, 1) := by decide +kernel
theorem dL_law_594 : decode cL_law 594 = .ok (.iload_n 3, 1) := by decide +kernel
theorem dL_law_595 : decode cL_law 595 = .ok (.iconst 1, 1) := by decide +kernel
theorem dL_law_596 : decode cL_law 596 = .ok (.iadd, 1) := by decide +kernel
theorem dL_law_597 : decode cL_law 597 = .ok (.iaload, 1) := by decide +kernel
theorem dL_law_598 : decode cL_law 598 = .ok (.invokevirtual 68, 3) := by decide +kernel
theorem dL_law_601 : decode cL_law 601 = .ok (.if_icmp .eq 893, 3) := by decide +kernel
theorem dL_law_604 : decode cL_law 604 = .ok (.iconst 0, 1) := by decide +kernel
theorem dL_law_605 : decode cL_law 605 = .ok (.ireturn, 1) := by decide +kernel
theorem dL_law_606 : decode cL_law 606 = .ok (.aload_n 1, 1) := by decide +kernel
theorem dL_law_607 : decode cL_law 607 = .ok (.invokevirtual 69, 3) := by decide +kernel
theorem dL_law_610 : decode cL_law 610 = .ok (.aload_n 2, 1) := by decide +kernel
theorem dL_law_611 : decode cL_law 611 = .ok (.invokevirtual 73, 3) := by decide +kernel
theorem dL_law_614 : decode cL_law 614 = .ok (.if_icmp .eq 880, 3) := by decide +kernel
theorem dL_law_617 : decode cL_law 617 = .ok (.iconst 0, 1) := by decide +kernel
theorem dL_law_618 : decode cL_law 618 = .ok (.ireturn, 1) := by decide +kernel
theorem dL_law_619 : decode cL_law 619 = .ok (.aload_n 1, 1) := by decide +kernel
theorem dL_law_620 : decode cL_law 620 = .ok (.aload_n 0, 1) := by decide +kernel
theorem dL_law_621 : decode cL_law 621 = .ok (.iload_n 3, 1) := by decide +kernel
theorem dL_law_622 : decode cL_law 622 = .ok (.iconst 1, 1) := by decide +kernel
theorem dL_law_623 : decode cL_law 623 = .ok (.iadd, 1) := by decide +kernel
theorem dL_law_624 : decode cL_law 624 = .ok (.iaload, 1) := by decide +kernel
theorem dL_law_625 : decode cL_law 625 = .ok (.aload_n 0, 1) := by decide +kernel
theorem dL_law_626 : decode cL_law 626 = .ok (.iload_n 3, 1) := by decide +kernel
theorem dL_law_627 : decode cL_law 627 = .ok (.iconst 2, 1) := by decide +kernel
theorem dL_law_628 : decode cL_law 628 = .ok (.iadd, 1) := by decide +kernel
theorem dL_law_629 : decode cL_law 629 = .ok (.iaload, 1) := by decide +kernel
theorem dL_law_630 : decode cL_law 630 = .ok (.invokevirtual 74, 3) := by decide +kernel
theorem dL_law_633 : decode cL_law 633 = .ok (.aload_n 2, 1) := by decide +kernel
theorem dL_law_634 : decode cL_law 634 = .ok (.aload_n 0, 1) := by decide +kernel
theorem dL_law_635 : decode cL_law 635 = .ok (.iload_n 3, 1) := by decide +kernel
theorem dL_law_636 : decode cL_law 636 = .ok (.iconst 1, 1) := by decide +kernel
theorem dL_law_637 : decode cL_law 637 = .ok (.iadd, 1) := by decide +kernel
theorem dL_law_638 : decode cL_law 638 = .ok (.iaload, 1) := by decide +kernel
theorem dL_law_639 : decode cL_law 639 = .ok (.aload_n 0, 1) := by decide +kernel
theorem dL_law_640 : decode cL_law 640 = .ok (.iload_n 3, 1) := by decide +kernel
theorem dL_law_641 : decode cL_law 641 = .ok (.iconst 2, 1) := by decide +kernel
theorem dL_law_642 : decode cL_law 642 = .ok (.iadd, 1) := by decide +kernel
theorem dL_law_643 : decode cL_law 643 = .ok (.iaload, 1) := by decide +kernel
theorem dL_law_644 : decode cL_law 644 = .ok (.invokevirtual 77, 3) := by decide +kernel
theorem dL_law_647 : decode cL_law 647 = .ok (.if_icmp .eq 847, 3) := by decide +kernel
theorem dL_law_650 : decode cL_law 650 = .ok (.iconst 0, 1) := by decide +kernel
theorem dL_law_651 : decode cL_law 651 = .ok (.ireturn, 1) := by decide +kernel
theorem dL_law_652 : decode cL_law 652 = .ok (.aload_n 1, 1) := by decide +kernel
theorem dL_law_653 : decode cL_law 653 = .ok (.aload_n 0, 1) := by decide +kernel
theorem dL_law_654 : decode cL_law 654 = .ok (.iload_n 3, 1) := by decide +kernel
theorem dL_law_655 : decode cL_law 655 = .ok (.iconst 1, 1) := by decide +kernel
theorem dL_law_656 : decode cL_law 656 = .ok (.iadd, 1) := by decide +kernel
theorem dL_law_657 : decode cL_law 657 = .ok (.iaload, 1) := by decide +kernel
theorem dL_law_658 : decode cL_law 658 = .ok (.invokevirtual 78, 3) := by decide +kernel
theorem dL_law_661 : decode cL_law 661 = .ok (.aload_n 2, 1) := by decide +kernel
theorem dL_law_662 : decode cL_law 662 = .ok (.aload_n 0, 1) := by decide +kernel
theorem dL_law_663 : decode cL_law 663 = .ok (.iload_n 3, 1) := by decide +kernel
theorem dL_law_664 : decode cL_law 664 = .ok (.iconst 1, 1) := by decide +kernel
theorem dL_law_665 : decode cL_law 665 = .ok (.iadd, 1) := by decide +kernel
theorem dL_law_666 : decode cL_law 666 = .ok (.iaload, 1) := by decide +kernel
theorem dL_law_667 : decode cL_law 667 = .ok (.invokevirtual 81, 3) := by decide +kernel
theorem dL_law_670 : decode cL_law 670 = .ok (.if_icmp .eq 824, 3) := by decide +kernel
theorem dL_law_673 : decode cL_law 673 = .ok (.iconst 0, 1) := by decide +kernel
theorem dL_law_674 : decode cL_law 674 = .ok (.ireturn, 1) := by decide +kernel
theorem dL_law_675 : decode cL_law 675 = .ok (.aload_n 1, 1) := by decide +kernel
theorem dL_law_676 : decode cL_law 676 = .ok (.aload_n 0, 1) := by decide +kernel
theorem dL_law_677 : decode cL_law 677 = .ok (.iload_n 3, 1) := by decide +kernel
theorem dL_law_678 : decode cL_law 678 = .ok (.iconst 1, 1) := by decide +kernel
theorem dL_law_679 : decode cL_law 679 = .ok (.iadd, 1) := by decide +kernel
theorem dL_law_680 : decode cL_law 680 = .ok (.iaload, 1) := by decide +kernel
theorem dL_law_681 : decode cL_law 681 = .ok (.aload_n 0, 1) := by decide +kernel
theorem dL_law_682 : decode cL_law 682 = .ok (.iload_n 3, 1) := by decide +kernel
theorem dL_law_683 : decode cL_law 683 = .ok (.iconst 2, 1) := by decide +kernel
theorem dL_law_684 : decode cL_law 684 = .ok (.iadd, 1) := by decide +kernel
theorem dL_law_685 : decode cL_law 685 = .ok (.iaload, 1) := by decide +kernel
theorem dL_law_686 : decode cL_law 686 = .ok (.invokevirtual 82, 3) := by decide +kernel
theorem dL_law_689 : decode cL_law 689 = .ok (.aload_n 2, 1) := by decide +kernel
theorem dL_law_690 : decode cL_law 690 = .ok (.aload_n 0, 1) := by decide +kernel
theorem dL_law_691 : decode cL_law 691 = .ok (.iload_n 3, 1) := by decide +kernel
theorem dL_law_692 : decode cL_law 692 = .ok (.iconst 1, 1) := by decide +kernel
theorem dL_law_693 : decode cL_law 693 = .ok (.iadd, 1) := by decide +kernel
theorem dL_law_694 : decode cL_law 694 = .ok (.iaload, 1) := by decide +kernel
theorem dL_law_695 : decode cL_law 695 = .ok (.aload_n 0, 1) := by decide +kernel
theorem dL_law_696 : decode cL_law 696 = .ok (.iload_n 3, 1) := by decide +kernel
theorem dL_law_697 : decode cL_law 697 = .ok (.iconst 2, 1) := by decide +kernel
theorem dL_law_698 : decode cL_law 698 = .ok (.iadd, 1) := by decide +kernel
theorem dL_law_699 : decode cL_law 699 = .ok (.iaload, 1) := by decide +kernel
theorem dL_law_700 : decode cL_law 700 = .ok (.invokevirtual 85, 3) := by decide +kernel
theorem dL_law_703 : decode cL_law 703 = .ok (.if_icmp .eq 791, 3) := by decide +kernel
theorem dL_law_706 : decode cL_law 706 = .ok (.iconst 0, 1) := by decide +kernel
theorem dL_law_707 : decode cL_law 707 = .ok (.ireturn, 1) := by decide +kernel
theorem dL_law_708 : decode cL_law 708 = .ok (.aload_n 1, 1) := by decide +kernel
theorem dL_law_709 : decode cL_law 709 = .ok (.aload_n 0, 1) := by decide +kernel
theorem dL_law_710 : decode cL_law 710 = .ok (.iload_n 3, 1) := by decide +kernel
theorem dL_law_711 : decode cL_law 711 = .ok (.iconst 1, 1) := by decide +kernel
theorem dL_law_712 : decode cL_law 712 = .ok (.iadd, 1) := by decide +kernel
theorem dL_law_713 : decode cL_law 713 = .ok (.iaload, 1) := by decide +kernel
theorem dL_law_714 : decode cL_law 714 = .ok (.invokevirtual 86, 3) := by decide +kernel
theorem dL_law_717 : decode cL_law 717 = .ok (.aload_n 2, 1) := by decide +kernel
theorem dL_law_718 : decode cL_law 718 = .ok (.aload_n 0, 1) := by decide +kernel
theorem dL_law_719 : decode cL_law 719 = .ok (.iload_n 3, 1) := by decide +kernel
theorem dL_law_720 : decode cL_law 720 = .ok (.iconst 1, 1) := by decide +kernel
theorem dL_law_721 : decode cL_law 721 = .ok (.iadd, 1) := by decide +kernel
theorem dL_law_722 : decode cL_law 722 = .ok (.iaload, 1) := by decide +kernel
theorem dL_law_723 : decode cL_law 723 = .ok (.invokevirtual 89, 3) := by decide +kernel
theorem dL_law_726 : decode cL_law 726 = .ok (.if_icmp .eq 768, 3) := by decide +kernel
theorem dL_law_729 : decode cL_law 729 = .ok (.iconst 0, 1) := by decide +kernel
theorem dL_law_730 : decode cL_law 730 = .ok (.ireturn, 1) := by decide +kernel
theorem dL_law_731 : decode cL_law 731 = .ok (.aload_n 1, 1) := by decide +kernel
theorem dL_law_732 : decode cL_law 732 = .ok (.aload_n 0, 1) := by decide +kernel
theorem dL_law_733 : decode cL_law 733 = .ok (.iload_n 3, 1) := by decide +kernel
theorem dL_law_734 : decode cL_law 734 = .ok (.iconst 1, 1) := by decide +kernel
theorem dL_law_735 : decode cL_law 735 = .ok (.iadd, 1) := by decide +kernel
theorem dL_law_736 : decode cL_law 736 = .ok (.iaload, 1) := by decide +kernel
theorem dL_law_737 : decode cL_law 737 = .ok (.invokevirtual 90, 3) := by decide +kernel
theorem dL_law_740 : decode cL_law 740 = .ok (.aload_n 2, 1) := by decide +kernel
theorem dL_law_741 : decode cL_law 741 = .ok (.aload_n 0, 1) := by decide +kernel
theorem dL_law_742 : decode cL_law 742 = .ok (.iload_n 3, 1) := by decide +kernel
theorem dL_law_743 : decode cL_law 743 = .ok (.iconst 1, 1) := by decide +kernel
theorem dL_law_744 : decode cL_law 744 = .ok (.iadd, 1) := by decide +kernel
theorem dL_law_745 : decode cL_law 745 = .ok (.iaload, 1) := by decide +kernel
theorem dL_law_746 : decode cL_law 746 = .ok (.invokevirtual 93, 3) := by decide +kernel
theorem dL_law_749 : decode cL_law 749 = .ok (.if_icmp .eq 745, 3) := by decide +kernel
theorem dL_law_752 : decode cL_law 752 = .ok (.iconst 0, 1) := by decide +kernel
theorem dL_law_753 : decode cL_law 753 = .ok (.ireturn, 1) := by decide +kernel
theorem dL_law_754 : decode cL_law 754 = .ok (.aload_n 1, 1) := by decide +kernel
theorem dL_law_755 : decode cL_law 755 = .ok (.aload_n 0, 1) := by decide +kernel
theorem dL_law_756 : decode cL_law 756 = .ok (.iload_n 3, 1) := by decide +kernel
theorem dL_law_757 : decode cL_law 757 = .ok (.iconst 1, 1) := by decide +kernel
theorem dL_law_758 : decode cL_law 758 = .ok (.iadd, 1) := by decide +kernel
theorem dL_law_759 : decode cL_law 759 = .ok (.iaload, 1) := by decide +kernel
theorem dL_law_760 : decode cL_law 760 = .ok (.invokevirtual 94, 3) := by decide +kernel
theorem dL_law_763 : decode cL_law 763 = .ok (.aload_n 2, 1) := by decide +kernel
theorem dL_law_764 : decode cL_law 764 = .ok (.aload_n 0, 1) := by decide +kernel
theorem dL_law_765 : decode cL_law 765 = .ok (.iload_n 3, 1) := by decide +kernel
theorem dL_law_766 : decode cL_law 766 = .ok (.iconst 1, 1) := by decide +kernel
theorem dL_law_767 : decode cL_law 767 = .ok (.iadd, 1) := by decide +kernel
theorem dL_law_768 : decode cL_law 768 = .ok (.iaload, 1) := by decide +kernel
theorem dL_law_769 : decode cL_law 769 = .ok (.invokevirtual 97, 3) := by decide +kernel
theorem dL_law_772 : decode cL_law 772 = .ok (.if_icmp .eq 722, 3) := by decide +kernel
theorem dL_law_775 : decode cL_law 775 = .ok (.iconst 0, 1) := by decide +kernel
theorem dL_law_776 : decode cL_law 776 = .ok (.ireturn, 1) := by decide +kernel
theorem dL_law_777 : decode cL_law 777 = .ok (.aload_n 1, 1) := by decide +kernel
theorem dL_law_778 : decode cL_law 778 = .ok (.aload_n 0, 1) := by decide +kernel
theorem dL_law_779 : decode cL_law 779 = .ok (.iload_n 3, 1) := by decide +kernel
theorem dL_law_780 : decode cL_law 780 = .ok (.iconst 1, 1) := by decide +kernel
theorem dL_law_781 : decode cL_law 781 = .ok (.iadd, 1) := by decide +kernel
theorem dL_law_782 : decode cL_law 782 = .ok (.iaload, 1) := by decide +kernel
theorem dL_law_783 : decode cL_law 783 = .ok (.invokevirtual 98, 3) := by decide +kernel
theorem dL_law_786 : decode cL_law 786 = .ok (.aload_n 2, 1) := by decide +kernel
theorem dL_law_787 : decode cL_law 787 = .ok (.aload_n 0, 1) := by decide +kernel
theorem dL_law_788 : decode cL_law 788 = .ok (.iload_n 3, 1) := by decide +kernel
theorem dL_law_789 : decode cL_law 789 = .ok (.iconst 1, 1) := by decide +kernel
theorem dL_law_790 : decode cL_law 790 = .ok (.iadd, 1) := by decide +kernel
theorem dL_law_791 : decode cL_law 791 = .ok (.iaload, 1) := by decide +kernel
theorem dL_law_792 : decode cL_law 792 = .ok (.invokevirtual 101, 3) := by decide +kernel
theorem dL_law_795 : decode cL_law 795 = .ok (.if_icmp .eq 699, 3) := by decide +kernel
theorem dL_law_798 : decode cL_law 798 = .ok (.iconst 0, 1) := by decide +kernel
theorem dL_law_799 : decode cL_law 799 = .ok (.ireturn, 1) := by decide +kernel
theorem dL_law_800 : decode cL_law 800 = .ok (.aload_n 1, 1) := by decide +kernel
theorem dL_law_801 : decode cL_law 801 = .ok (.aload_n 0, 1) := by decide +kernel
theorem dL_law_802 : decode cL_law 802 = .ok (.iload_n 3, 1) := by decide +kernel
theorem dL_law_803 : decode cL_law 803 = .ok (.iconst 1, 1) := by decide +kernel
theorem dL_law_804 : decode cL_law 804 = .ok (.iadd, 1) := by decide +kernel
theorem dL_law_805 : decode cL_law 805 = .ok (.iaload, 1) := by decide +kernel
theorem dL_law_806 : decode cL_law 806 = .ok (.invokevirtual 102, 3) := by decide +kernel
theorem dL_law_809 : decode cL_law 809 = .ok (.aload_n 2, 1) := by decide +kernel
theorem dL_law_810 : decode cL_law 810 = .ok (.aload_n 0, 1) := by decide +kernel
theorem dL_law_811 : decode cL_law 811 = .ok (.iload_n 3, 1) := by decide +kernel
theorem dL_law_812 : decode cL_law 812 = .ok (.iconst 1, 1) := by decide +kernel
theorem dL_law_813 : decode cL_law 813 = .ok (.iadd, 1) := by decide +kernel
theorem dL_law_814 : decode cL_law 814 = .ok (.iaload, 1) := by decide +kernel
theorem dL_law_815 : decode cL_law 815 = .ok (.invokevirtual 105, 3) := by decide +kernel
theorem dL_law_818 : decode cL_law 818 = .ok (.if_icmp .eq 676, 3) := by decide +kernel
theorem dL_law_821 : decode cL_law 821 = .ok (.iconst 0, 1) := by decide +kernel
theorem dL_law_822 : decode cL_law 822 = .ok (.ireturn, 1) := by decide +kernel
theorem dL_law_823 : decode cL_law 823 = .ok (.aload_n 1, 1) := by decide +kernel
theorem dL_law_824 : decode cL_law 824 = .ok (.aload_n 0, 1) := by decide +kernel
theorem dL_law_825 : decode cL_law 825 = .ok (.iload_n 3, 1) := by decide +kernel
theorem dL_law_826 : decode cL_law 826 = .ok (.iconst 1, 1) := by decide +kernel
theorem dL_law_827 : decode cL_law 827 = .ok (.iadd, 1) := by decide +kernel
theorem dL_law_828 : decode cL_law 828 = .ok (.iaload, 1) := by decide +kernel
theorem dL_law_829 : decode cL_law 829 = .ok (.aload_n 0, 1) := by decide +kernel
theorem dL_law_830 : decode cL_law 830 = .ok (.iload_n 3, 1) := by decide +kernel
theorem dL_law_831 : decode cL_law 831 = .ok (.iconst 2, 1) := by decide +kernel
theorem dL_law_832 : decode cL_law 832 = .ok (.iadd, 1) := by decide +kernel
theorem dL_law_833 : decode cL_law 833 = .ok (.iaload, 1) := by decide +kernel
theorem dL_law_834 : decode cL_law 834 = .ok (.invokevirtual 106, 3) := by decide +kernel
theorem dL_law_837 : decode cL_law 837 = .ok (.aload_n 2, 1) := by decide +kernel
theorem dL_law_838 : decode cL_law 838 = .ok (.aload_n 0, 1) := by decide +kernel
theorem dL_law_839 : decode cL_law 839 = .ok (.iload_n 3, 1) := by decide +kernel
theorem dL_law_840 : decode cL_law 840 = .ok (.iconst 1, 1) := by decide +kernel
theorem dL_law_841 : decode cL_law 841 = .ok (.iadd, 1) := by decide +kernel
theorem dL_law_842 : decode cL_law 842 = .ok (.iaload, 1) := by decide +kernel
theorem dL_law_843 : decode cL_law 843 = .ok (.aload_n 0, 1) := by decide +kernel
theorem dL_law_844 : decode cL_law 844 = .ok (.iload_n 3, 1) := by decide +kernel
theorem dL_law_845 : decode cL_law 845 = .ok (.iconst 2, 1) := by decide +kernel
theorem dL_law_846 : decode cL_law 846 = .ok (.iadd, 1) := by decide +kernel
theorem dL_law_847 : decode cL_law 847 = .ok (.iaload, 1) := by decide +kernel
theorem dL_law_848 : decode cL_law 848 = .ok (.invokevirtual 109, 3) := by decide +kernel
theorem dL_law_851 : decode cL_law 851 = .ok (.if_icmp .eq 643, 3) := by decide +kernel
theorem dL_law_854 : decode cL_law 854 = .ok (.iconst 0, 1) := by decide +kernel
theorem dL_law_855 : decode cL_law 855 = .ok (.ireturn, 1) := by decide +kernel
theorem dL_law_856 : decode cL_law 856 = .ok (.aload_n 1, 1) := by decide +kernel
theorem dL_law_857 : decode cL_law 857 = .ok (.aload_n 0, 1) := by decide +kernel
theorem dL_law_858 : decode cL_law 858 = .ok (.iload_n 3, 1) := by decide +kernel
theorem dL_law_859 : decode cL_law 859 = .ok (.iconst 1, 1) := by decide +kernel
theorem dL_law_860 : decode cL_law 860 = .ok (.iadd, 1) := by decide +kernel
theorem dL_law_861 : decode cL_law 861 = .ok (.iaload, 1) := by decide +kernel
theorem dL_law_862 : decode cL_law 862 = .ok (.aload_n 0, 1) := by decide +kernel
theorem dL_law_863 : decode cL_law 863 = .ok (.iload_n 3, 1) := by decide +kernel
theorem dL_law_864 : decode cL_law 864 = .ok (.iconst 2, 1) := by decide +kernel
theorem dL_law_865 : decode cL_law 865 = .ok (.iadd, 1) := by decide +kernel
theorem dL_law_866 : decode cL_law 866 = .ok (.iaload, 1) := by decide +kernel
theorem dL_law_867 : decode cL_law 867 = .ok (.invokevirtual 110, 3) := by decide +kernel
theorem dL_law_870 : decode cL_law 870 = .ok (.aload_n 2, 1) := by decide +kernel
theorem dL_law_871 : decode cL_law 871 = .ok (.aload_n 0, 1) := by decide +kernel
theorem dL_law_872 : decode cL_law 872 = .ok (.iload_n 3, 1) := by decide +kernel
theorem dL_law_873 : decode cL_law 873 = .ok (.iconst 1, 1) := by decide +kernel
theorem dL_law_874 : decode cL_law 874 = .ok (.iadd, 1) := by decide +kernel
theorem dL_law_875 : decode cL_law 875 = .ok (.iaload, 1) := by decide +kernel
theorem dL_law_876 : decode cL_law 876 = .ok (.aload_n 0, 1) := by decide +kernel
theorem dL_law_877 : decode cL_law 877 = .ok (.iload_n 3, 1) := by decide +kernel
theorem dL_law_878 : decode cL_law 878 = .ok (.iconst 2, 1) := by decide +kernel
theorem dL_law_879 : decode cL_law 879 = .ok (.iadd, 1) := by decide +kernel
theorem dL_law_880 : decode cL_law 880 = .ok (.iaload, 1) := by decide +kernel
theorem dL_law_881 : decode cL_law 881 = .ok (.invokevirtual 113, 3) := by decide +kernel
theorem dL_law_884 : decode cL_law 884 = .ok (.if_icmp .eq 610, 3) := by decide +kernel
theorem dL_law_887 : decode cL_law 887 = .ok (.iconst 0, 1) := by decide +kernel
theorem dL_law_888 : decode cL_law 888 = .ok (.ireturn, 1) := by decide +kernel
theorem dL_law_889 : decode cL_law 889 = .ok (.aload_n 1, 1) := by decide +kernel
theorem dL_law_890 : decode cL_law 890 = .ok (.aload_n 0, 1) := by decide +kernel
theorem dL_law_891 : decode cL_law 891 = .ok (.iload_n 3, 1) := by decide +kernel
theorem dL_law_892 : decode cL_law 892 = .ok (.iconst 1, 1) := by decide +kernel
theorem dL_law_893 : decode cL_law 893 = .ok (.iadd, 1) := by decide +kernel
theorem dL_law_894 : decode cL_law 894 = .ok (.iaload, 1) := by decide +kernel
theorem dL_law_895 : decode cL_law 895 = .ok (.invokevirtual 114, 3) := by decide +kernel
theorem dL_law_898 : decode cL_law 898 = .ok (.aload_n 2, 1) := by decide +kernel
theorem dL_law_899 : decode cL_law 899 = .ok (.aload_n 0, 1) := by decide +kernel
theorem dL_law_900 : decode cL_law 900 = .ok (.iload_n 3, 1) := by decide +kernel
theorem dL_law_901 : decode cL_law 901 = .ok (.iconst 1, 1) := by decide +kernel
theorem dL_law_902 : decode cL_law 902 = .ok (.iadd, 1) := by decide +kernel
theorem dL_law_903 : decode cL_law 903 = .ok (.iaload, 1) := by decide +kernel
theorem dL_law_904 : decode cL_law 904 = .ok (.invokevirtual 117, 3) := by decide +kernel
theorem dL_law_907 : decode cL_law 907 = .ok (.if_icmp .eq 587, 3) := by decide +kernel
theorem dL_law_910 : decode cL_law 910 = .ok (.iconst 0, 1) := by decide +kernel
theorem dL_law_911 : decode cL_law 911 = .ok (.ireturn, 1) := by decide +kernel
theorem dL_law_912 : decode cL_law 912 = .ok (.aload_n 1, 1) := by decide +kernel
theorem dL_law_913 : decode cL_law 913 = .ok (.aload_n 0, 1) := by decide +kernel
theorem dL_law_914 : decode cL_law 914 = .ok (.iload_n 3, 1) := by decide +kernel
theorem dL_law_915 : decode cL_law 915 = .ok (.iconst 1, 1) := by decide +kernel
theorem dL_law_916 : decode cL_law 916 = .ok (.iadd, 1) := by decide +kernel
theorem dL_law_917 : decode cL_law 917 = .ok (.iaload, 1) := by decide +kernel
theorem dL_law_918 : decode cL_law 918 = .ok (.invokevirtual 118, 3) := by decide +kernel
theorem dL_law_921 : decode cL_law 921 = .ok (.aload_n 2, 1) := by decide +kernel
theorem dL_law_922 : decode cL_law 922 = .ok (.aload_n 0, 1) := by decide +kernel
theorem dL_law_923 : decode cL_law 923 = .ok (.iload_n 3, 1) := by decide +kernel
theorem dL_law_924 : decode cL_law 924 = .ok (.iconst 1, 1) := by decide +kernel
theorem dL_law_925 : decode cL_law 925 = .ok (.iadd, 1) := by decide +kernel
theorem dL_law_926 : decode cL_law 926 = .ok (.iaload, 1) := by decide +kernel
theorem dL_law_927 : decode cL_law 927 = .ok (.invokevirtual 121, 3) := by decide +kernel
theorem dL_law_930 : decode cL_law 930 = .ok (.if_icmp .eq 564, 3) := by decide +kernel
theorem dL_law_933 : decode cL_law 933 = .ok (.iconst 0, 1) := by decide +kernel
theorem dL_law_934 : decode cL_law 934 = .ok (.ireturn, 1) := by decide +kernel
theorem dL_law_935 : decode cL_law 935 = .ok (.aload_n 1, 1) := by decide +kernel
theorem dL_law_936 : decode cL_law 936 = .ok (.aload_n 0, 1) := by decide +kernel
theorem dL_law_937 : decode cL_law 937 = .ok (.iload_n 3, 1) := by decide +kernel
theorem dL_law_938 : decode cL_law 938 = .ok (.iconst 1, 1) := by decide +kernel
theorem dL_law_939 : decode cL_law 939 = .ok (.iadd, 1) := by decide +kernel
theorem dL_law_940 : decode cL_law 940 = .ok (.iaload, 1) := by decide +kernel
theorem dL_law_941 : decode cL_law 941 = .ok (.aload_n 0, 1) := by decide +kernel
theorem dL_law_942 : decode cL_law 942 = .ok (.iload_n 3, 1) := by decide +kernel
theorem dL_law_943 : decode cL_law 943 = .ok (.iconst 2, 1) := by decide +kernel
theorem dL_law_944 : decode cL_law 944 = .ok (.iadd, 1) := by decide +kernel
theorem dL_law_945 : decode cL_law 945 = .ok (.iaload, 1) := by decide +kernel
theorem dL_law_946 : decode cL_law 946 = .ok (.invokevirtual 122, 3) := by decide +kernel
theorem dL_law_949 : decode cL_law 949 = .ok (.aload_n 2, 1) := by decide +kernel
theorem dL_law_950 : decode cL_law 950 = .ok (.aload_n 0, 1) := by decide +kernel
theorem dL_law_951 : decode cL_law 951 = .ok (.iload_n 3, 1) := by decide +kernel
theorem dL_law_952 : decode cL_law 952 = .ok (.iconst 1, 1) := by decide +kernel
theorem dL_law_953 : decode cL_law 953 = .ok (.iadd, 1) := by decide +kernel
theorem dL_law_954 : decode cL_law 954 = .ok (.iaload, 1) := by decide +kernel
theorem dL_law_955 : decode cL_law 955 = .ok (.aload_n 0, 1) := by decide +kernel
theorem dL_law_956 : decode cL_law 956 = .ok (.iload_n 3, 1) := by decide +kernel
theorem dL_law_957 : decode cL_law 957 = .ok (.iconst 2, 1) := by decide +kernel
theorem dL_law_958 : decode cL_law 958 = .ok (.iadd, 1) := by decide +kernel
theorem dL_law_959 : decode cL_law 959 = .ok (.iaload, 1) := by decide +kernel
theorem dL_law_960 : decode cL_law 960 = .ok (.invokevirtual 125, 3) := by decide +kernel
theorem dL_law_963 : decode cL_law 963 = .ok (.if_icmp .eq 531, 3) := by decide +kernel
theorem dL_law_966 : decode cL_law 966 = .ok (.iconst 0, 1) := by decide +kernel
theorem dL_law_967 : decode cL_law 967 = .ok (.ireturn, 1) := by decide +kernel
theorem dL_law_968 : decode cL_law 968 = .ok (.aload_n 1, 1) := by decide +kernel
theorem dL_law_969 : decode cL_law 969 = .ok (.invokevirtual 126, 3) := by decide +kernel
theorem dL_law_972 : decode cL_law 972 = .ok (.aload_n 2, 1) := by decide +kernel
theorem dL_law_973 : decode cL_law 973 = .ok (.invokevirtual 129, 3) := by decide +kernel
theorem dL_law_976 : decode cL_law 976 = .ok (.if_icmp .eq 518, 3) := by decide +kernel
theorem dL_law_979 : decode cL_law 979 = .ok (.iconst 0, 1) := by decide +kernel
theorem dL_law_980 : decode cL_law 980 = .ok (.ireturn, 1) := by decide +kernel
theorem dL_law_981 : decode cL_law 981 = .ok (.aload_n 1, 1) := by decide +kernel
theorem dL_law_982 : decode cL_law 982 = .ok (.aload_n 0, 1) := by decide +kernel
theorem dL_law_983 : decode cL_law 983 = .ok (.iload_n 3, 1) := by decide +kernel
theorem dL_law_984 : decode cL_law 984 = .ok (.iconst 1, 1) := by decide +kernel
theorem dL_law_985 : decode cL_law 985 = .ok (.iadd, 1) := by decide +kernel
theorem dL_law_986 : decode cL_law 986 = .ok (.iaload, 1) := by decide +kernel
theorem dL_law_987 : decode cL_law 987 = .ok (.invokevirtual 130, 3) := by decide +kernel
theorem dL_law_990 : decode cL_law 990 = .ok (.aload_n 2, 1) := by decide +kernel
theorem dL_law_991 : decode cL_law 991 = .ok (.aload_n 0, 1) := by decide +kernel
theorem dL_law_992 : decode cL_law 992 = .ok (.iload_n 3, 1) := by decide +kernel
theorem dL_law_993 : decode cL_law 993 = .ok (.iconst 1, 1) := by decide +kernel
theorem dL_law_994 : decode cL_law 994 = .ok (.iadd, 1) := by decide +kernel
theorem dL_law_995 : decode cL_law 995 = .ok (.iaload, 1) := by decide +kernel
theorem dL_law_996 : decode cL_law 996 = .ok (.invokevirtual 133, 3) := by decide +kernel
theorem dL_law_999 : decode cL_law 999 = .ok (.if_icmp .eq 495, 3) := by decide +kernel
theorem dL_law_1002 : decode cL_law 1002 = .ok (.iconst 0, 1) := by decide +kernel
theorem dL_law_1003 : decode cL_law 1003 = .ok (.ireturn, 1) := by decide +kernel
theorem dL_law_1004 : decode cL_law 1004 = .ok (.aload_n 1, 1) := by decide +kernel
theorem dL_law_1005 : decode cL_law 1005 = .ok (.aload_n 0, 1) := by decide +kernel
theorem dL_law_1006 : decode cL_law 1006 = .ok (.iload_n 3, 1) := by decide +kernel
theorem dL_law_1007 : decode cL_law 1007 = .ok (.iconst 1, 1) := by decide +kernel
theorem dL_law_1008 : decode cL_law 1008 = .ok (.iadd, 1) := by decide +kernel
theorem dL_law_1009 : decode cL_law 1009 = .ok (.iaload, 1) := by decide +kernel
theorem dL_law_1010 : decode cL_law 1010 = .ok (.invokevirtual 134, 3) := by decide +kernel
theorem dL_law_1013 : decode cL_law 1013 = .ok (.aload_n 2, 1) := by decide +kernel
theorem dL_law_1014 : decode cL_law 1014 = .ok (.aload_n 0, 1) := by decide +kernel
theorem dL_law_1015 : decode cL_law 1015 = .ok (.iload_n 3, 1) := by decide +kernel
theorem dL_law_1016 : decode cL_law 1016 = .ok (.iconst 1, 1) := by decide +kernel
theorem dL_law_1017 : decode cL_law 1017 = .ok (.iadd, 1) := by decide +kernel
theorem dL_law_1018 : decode cL_law 1018 = .ok (.iaload, 1) := by decide +kernel
theorem dL_law_1019 : decode cL_law 1019 = .ok (.invokevirtual 137, 3) := by decide +kernel
theorem dL_law_1022 : decode cL_law 1022 = .ok (.if_icmp .eq 472, 3) := by decide +kernel
theorem dL_law_1025 : decode cL_law 1025 = .ok (.iconst 0, 1) := by decide +kernel
theorem dL_law_1026 : decode cL_law 1026 = .ok (.ireturn, 1) := by decide +kernel
theorem dL_law_1027 : decode cL_law 1027 = .ok (.aload_n 1, 1) := by decide +kernel
theorem dL_law_1028 : decode cL_law 1028 = .ok (.aload_n 0, 1) := by decide +kernel
theorem dL_law_1029 : decode cL_law 1029 = .ok (.iload_n 3, 1) := by decide +kernel
theorem dL_law_1030 : decode cL_law 1030 = .ok (.iconst 1, 1) := by decide +kernel
theorem dL_law_1031 : decode cL_law 1031 = .ok (.iadd, 1) := by decide +kernel
theorem dL_law_1032 : decode cL_law 1032 = .ok (.iaload, 1) := by decide +kernel
theorem dL_law_1033 : decode cL_law 1033 = .ok (.invokevirtual 138, 3) := by decide +kernel
theorem dL_law_1036 : decode cL_law 1036 = .ok (.aload_n 2, 1) := by decide +kernel
theorem dL_law_1037 : decode cL_law 1037 = .ok (.aload_n 0, 1) := by decide +kernel
theorem dL_law_1038 : decode cL_law 1038 = .ok (.iload_n 3, 1) := by decide +kernel
theorem dL_law_1039 : decode cL_law 1039 = .ok (.iconst 1, 1) := by decide +kernel
theorem dL_law_1040 : decode cL_law 1040 = .ok (.iadd, 1) := by decide +kernel
theorem dL_law_1041 : decode cL_law 1041 = .ok (.iaload, 1) := by decide +kernel
theorem dL_law_1042 : decode cL_law 1042 = .ok (.invokevirtual 141, 3) := by decide +kernel
theorem dL_law_1045 : decode cL_law 1045 = .ok (.if_icmp .eq 449, 3) := by decide +kernel
theorem dL_law_1048 : decode cL_law 1048 = .ok (.iconst 0, 1) := by decide +kernel
theorem dL_law_1049 : decode cL_law 1049 = .ok (.ireturn, 1) := by decide +kernel
theorem dL_law_1050 : decode cL_law 1050 = .ok (.aload_n 1, 1) := by decide +kernel
theorem dL_law_1051 : decode cL_law 1051 = .ok (.aload_n 0, 1) := by decide +kernel
theorem dL_law_1052 : decode cL_law 1052 = .ok (.iload_n 3, 1) := by decide +kernel
theorem dL_law_1053 : decode cL_law 1053 = .ok (.iconst 1, 1) := by decide +kernel
theorem dL_law_1054 : decode cL_law 1054 = .ok (.iadd, 1) := by decide +kernel
theorem dL_law_1055 : decode cL_law 1055 = .ok (.iaload, 1) := by decide +kernel
theorem dL_law_1056 : decode cL_law 1056 = .ok (.aload_n 0, 1) := by decide +kernel
theorem dL_law_1057 : decode cL_law 1057 = .ok (.iload_n 3, 1) := by decide +kernel
theorem dL_law_1058 : decode cL_law 1058 = .ok (.iconst 2, 1) := by decide +kernel
theorem dL_law_1059 : decode cL_law 1059 = .ok (.iadd, 1) := by decide +kernel
theorem dL_law_1060 : decode cL_law 1060 = .ok (.iaload, 1) := by decide +kernel
theorem dL_law_1061 : decode cL_law 1061 = .ok (.invokevirtual 142, 3) := by decide +kernel
theorem dL_law_1064 : decode cL_law 1064 = .ok (.aload_n 2, 1) := by decide +kernel
theorem dL_law_1065 : decode cL_law 1065 = .ok (.aload_n 0, 1) := by decide +kernel
theorem dL_law_1066 : decode cL_law 1066 = .ok (.iload_n 3, 1) := by decide +kernel
theorem dL_law_1067 : decode cL_law 1067 = .ok (.iconst 1, 1) := by decide +kernel
theorem dL_law_1068 : decode cL_law 1068 = .ok (.iadd, 1) := by decide +kernel
theorem dL_law_1069 : decode cL_law 1069 = .ok (.iaload, 1) := by decide +kernel
theorem dL_law_1070 : decode cL_law 1070 = .ok (.aload_n 0, 1) := by decide +kernel
theorem dL_law_1071 : decode cL_law 1071 = .ok (.iload_n 3, 1) := by decide +kernel
theorem dL_law_1072 : decode cL_law 1072 = .ok (.iconst 2, 1) := by decide +kernel
theorem dL_law_1073 : decode cL_law 1073 = .ok (.iadd, 1) := by decide +kernel
theorem dL_law_1074 : decode cL_law 1074 = .ok (.iaload, 1) := by decide +kernel
theorem dL_law_1075 : decode cL_law 1075 = .ok (.invokevirtual 145, 3) := by decide +kernel
theorem dL_law_1078 : decode cL_law 1078 = .ok (.if_icmp .eq 416, 3) := by decide +kernel
theorem dL_law_1081 : decode cL_law 1081 = .ok (.iconst 0, 1) := by decide +kernel
theorem dL_law_1082 : decode cL_law 1082 = .ok (.ireturn, 1) := by decide +kernel
theorem dL_law_1083 : decode cL_law 1083 = .ok (.aload_n 1, 1) := by decide +kernel
theorem dL_law_1084 : decode cL_law 1084 = .ok (.aload_n 0, 1) := by decide +kernel
theorem dL_law_1085 : decode cL_law 1085 = .ok (.iload_n 3, 1) := by decide +kernel
theorem dL_law_1086 : decode cL_law 1086 = .ok (.iconst 1, 1) := by decide +kernel
theorem dL_law_1087 : decode cL_law 1087 = .ok (.iadd, 1) := by decide +kernel
theorem dL_law_1088 : decode cL_law 1088 = .ok (.iaload, 1) := by decide +kernel
theorem dL_law_1089 : decode cL_law 1089 = .ok (.invokevirtual 146, 3) := by decide +kernel
theorem dL_law_1092 : decode cL_law 1092 = .ok (.aload_n 2, 1) := by decide +kernel
theorem dL_law_1093 : decode cL_law 1093 = .ok (.aload_n 0, 1) := by decide +kernel
theorem dL_law_1094 : decode cL_law 1094 = .ok (.iload_n 3, 1) := by decide +kernel
theorem dL_law_1095 : decode cL_law 1095 = .ok (.iconst 1, 1) := by decide +kernel
theorem dL_law_1096 : decode cL_law 1096 = .ok (.iadd, 1) := by decide +kernel
theorem dL_law_1097 : decode cL_law 1097 = .ok (.iaload, 1) := by decide +kernel
theorem dL_law_1098 : decode cL_law 1098 = .ok (.invokevirtual 149, 3) := by decide +kernel
theorem dL_law_1101 : decode cL_law 1101 = .ok (.if_icmp .eq 393, 3) := by decide +kernel
theorem dL_law_1104 : decode cL_law 1104 = .ok (.iconst 0, 1) := by decide +kernel
theorem dL_law_1105 : decode cL_law 1105 = .ok (.ireturn, 1) := by decide +kernel
theorem dL_law_1106 : decode cL_law 1106 = .ok (.aload_n 1, 1) := by decide +kernel
theorem dL_law_1107 : decode cL_law 1107 = .ok (.aload_n 0, 1) := by decide +kernel
theorem dL_law_1108 : decode cL_law 1108 = .ok (.iload_n 3, 1) := by decide +kernel
theorem dL_law_1109 : decode cL_law 1109 = .ok (.iconst 1, 1) := by decide +kernel
theorem dL_law_1110 : decode cL_law 1110 = .ok (.iadd, 1) := by decide +kernel
theorem dL_law_1111 : decode cL_law 1111 = .ok (.iaload, 1) := by decide +kernel
theorem dL_law_1112 : decode cL_law 1112 = .ok (.invokevirtual 150, 3) := by decide +kernel
theorem dL_law_1115 : decode cL_law 1115 = .ok (.aload_n 2, 1) := by decide +kernel
theorem dL_law_1116 : decode cL_law 1116 = .ok (.aload_n 0, 1) := by decide +kernel
theorem dL_law_1117 : decode cL_law 1117 = .ok (.iload_n 3, 1) := by decide +kernel
theorem dL_law_1118 : decode cL_law 1118 = .ok (.iconst 1, 1) := by decide +kernel
theorem dL_law_1119 : decode cL_law 1119 = .ok (.iadd, 1) := by decide +kernel
theorem dL_law_1120 : decode cL_law 1120 = .ok (.iaload, 1) := by decide +kernel
theorem dL_law_1121 : decode cL_law 1121 = .ok (.invokevirtual 153, 3) := by decide +kernel
theorem dL_law_1124 : decode cL_law 1124 = .ok (.if_icmp .eq 370, 3) := by decide +kernel
theorem dL_law_1127 : decode cL_law 1127 = .ok (.iconst 0, 1) := by decide +kernel
theorem dL_law_1128 : decode cL_law 1128 = .ok (.ireturn, 1) := by decide +kernel
theorem dL_law_1129 : decode cL_law 1129 = .ok (.aload_n 1, 1) := by decide +kernel
theorem dL_law_1130 : decode cL_law 1130 = .ok (.aload_n 0, 1) := by decide +kernel
theorem dL_law_1131 : decode cL_law 1131 = .ok (.iload_n 3, 1) := by decide +kernel
theorem dL_law_1132 : decode cL_law 1132 = .ok (.iconst 1, 1) := by decide +kernel
theorem dL_law_1133 : decode cL_law 1133 = .ok (.iadd, 1) := by decide +kernel
theorem dL_law_1134 : decode cL_law 1134 = .ok (.iaload, 1) := by decide +kernel
theorem dL_law_1135 : decode cL_law 1135 = .ok (.aload_n 0, 1) := by decide +kernel
theorem dL_law_1136 : decode cL_law 1136 = .ok (.iload_n 3, 1) := by decide +kernel
theorem dL_law_1137 : decode cL_law 1137 = .ok (.iconst 2, 1) := by decide +kernel
theorem dL_law_1138 : decode cL_law 1138 = .ok (.iadd, 1) := by decide +kernel
theorem dL_law_1139 : decode cL_law 1139 = .ok (.iaload, 1) := by decide +kernel
theorem dL_law_1140 : decode cL_law 1140 = .ok (.aload_n 0, 1) := by decide +kernel
theorem dL_law_1141 : decode cL_law 1141 = .ok (.iload_n 3, 1) := by decide +kernel
theorem dL_law_1142 : decode cL_law 1142 = .ok (.iconst 3, 1) := by decide +kernel
theorem dL_law_1143 : decode cL_law 1143 = .ok (.iadd, 1) := by decide +kernel
theorem dL_law_1144 : decode cL_law 1144 = .ok (.iaload, 1) := by decide +kernel
theorem dL_law_1145 : decode cL_law 1145 = .ok (.invokevirtual 154, 3) := by decide +kernel
theorem dL_law_1148 : decode cL_law 1148 = .ok (.aload_n 2, 1) := by decide +kernel
theorem dL_law_1149 : decode cL_law 1149 = .ok (.aload_n 0, 1) := by decide +kernel
theorem dL_law_1150 : decode cL_law 1150 = .ok (.iload_n 3, 1) := by decide +kernel
theorem dL_law_1151 : decode cL_law 1151 = .ok (.iconst 1, 1) := by decide +kernel
theorem dL_law_1152 : decode cL_law 1152 = .ok (.iadd, 1) := by decide +kernel
theorem dL_law_1153 : decode cL_law 1153 = .ok (.iaload, 1) := by decide +kernel
theorem dL_law_1154 : decode cL_law 1154 = .ok (.aload_n 0, 1) := by decide +kernel
theorem dL_law_1155 : decode cL_law 1155 = .ok (.iload_n 3, 1) := by decide +kernel
theorem dL_law_1156 : decode cL_law 1156 = .ok (.iconst 2, 1) := by decide +kernel
theorem dL_law_1157 : decode cL_law 1157 = .ok (.iadd, 1) := by decide +kernel
theorem dL_law_1158 : decode cL_law 1158 = .ok (.iaload, 1) := by decide +kernel
theorem dL_law_1159 : decode cL_law 1159 = .ok (.aload_n 0, 1) := by decide +kernel
theorem dL_law_1160 : decode cL_law 1160 = .ok (.iload_n 3, 1) := by decide +kernel
theorem dL_law_1161 : decode cL_law 1161 = .ok (.iconst 3, 1) := by decide +kernel
theorem dL_law_1162 : decode cL_law 1162 = .ok (.iadd, 1) := by decide +kernel
theorem dL_law_1163 : decode cL_law 1163 = .ok (.iaload, 1) := by decide +kernel
theorem dL_law_1164 : decode cL_law 1164 = .ok (.invokevirtual 157, 3) := by decide +kernel
theorem dL_law_1167 : decode cL_law 1167 = .ok (.if_icmp .eq 327, 3) := by decide +kernel
theorem dL_law_1170 : decode cL_law 1170 = .ok (.iconst 0, 1) := by decide +kernel
theorem dL_law_1171 : decode cL_law 1171 = .ok (.ireturn, 1) := by decide +kernel
theorem dL_law_1172 : decode cL_law 1172 = .ok (.aload_n 1, 1) := by decide +kernel
theorem dL_law_1173 : decode cL_law 1173 = .ok (.aload_n 0, 1) := by decide +kernel
theorem dL_law_1174 : decode cL_law 1174 = .ok (.iload_n 3, 1) := by decide +kernel
theorem dL_law_1175 : decode cL_law 1175 = .ok (.iconst 1, 1) := by decide +kernel
theorem dL_law_1176 : decode cL_law 1176 = .ok (.iadd, 1) := by decide +kernel
theorem dL_law_1177 : decode cL_law 1177 = .ok (.iaload, 1) := by decide +kernel
theorem dL_law_1178 : decode cL_law 1178 = .ok (.aload_n 0, 1) := by decide +kernel
theorem dL_law_1179 : decode cL_law 1179 = .ok (.iload_n 3, 1) := by decide +kernel
theorem dL_law_1180 : decode cL_law 1180 = .ok (.iconst 2, 1) := by decide +kernel
theorem dL_law_1181 : decode cL_law 1181 = .ok (.iadd, 1) := by decide +kernel
theorem dL_law_1182 : decode cL_law 1182 = .ok (.iaload, 1) := by decide +kernel
theorem dL_law_1183 : decode cL_law 1183 = .ok (.invokevirtual 158, 3) := by decide +kernel
theorem dL_law_1186 : decode cL_law 1186 = .ok (.aload_n 2, 1) := by decide +kernel
theorem dL_law_1187 : decode cL_law 1187 = .ok (.aload_n 0, 1) := by decide +kernel
theorem dL_law_1188 : decode cL_law 1188 = .ok (.iload_n 3, 1) := by decide +kernel
theorem dL_law_1189 : decode cL_law 1189 = .ok (.iconst 1, 1) := by decide +kernel
theorem dL_law_1190 : decode cL_law 1190 = .ok (.iadd, 1) := by decide +kernel
theorem dL_law_1191 : decode cL_law 1191 = .ok (.iaload, 1) := by decide +kernel
theorem dL_law_1192 : decode cL_law 1192 = .ok (.aload_n 0, 1) := by decide +kernel
theorem dL_law_1193 : decode cL_law 1193 = .ok (.iload_n 3, 1) := by decide +kernel
theorem dL_law_1194 : decode cL_law 1194 = .ok (.iconst 2, 1) := by decide +kernel
theorem dL_law_1195 : decode cL_law 1195 = .ok (.iadd, 1) := by decide +kernel
theorem dL_law_1196 : decode cL_law 1196 = .ok (.iaload, 1) := by decide +kernel
theorem dL_law_1197 : decode cL_law 1197 = .ok (.invokevirtual 161, 3) := by decide +kernel
theorem dL_law_1200 : decode cL_law 1200 = .ok (.if_icmp .eq 294, 3) := by decide +kernel
theorem dL_law_1203 : decode cL_law 1203 = .ok (.iconst 0, 1) := by decide +kernel
theorem dL_law_1204 : decode cL_law 1204 = .ok (.ireturn, 1) := by decide +kernel
theorem dL_law_1205 : decode cL_law 1205 = .ok (.aload_n 1, 1) := by decide +kernel
theorem dL_law_1206 : decode cL_law 1206 = .ok (.aload_n 0, 1) := by decide +kernel
theorem dL_law_1207 : decode cL_law 1207 = .ok (.iload_n 3, 1) := by decide +kernel
theorem dL_law_1208 : decode cL_law 1208 = .ok (.iconst 1, 1) := by decide +kernel
theorem dL_law_1209 : decode cL_law 1209 = .ok (.iadd, 1) := by decide +kernel
theorem dL_law_1210 : decode cL_law 1210 = .ok (.iaload, 1) := by decide +kernel
theorem dL_law_1211 : decode cL_law 1211 = .ok (.aload_n 0, 1) := by decide +kernel
theorem dL_law_1212 : decode cL_law 1212 = .ok (.iload_n 3, 1) := by decide +kernel
theorem dL_law_1213 : decode cL_law 1213 = .ok (.iconst 2, 1) := by decide +kernel
theorem dL_law_1214 : decode cL_law 1214 = .ok (.iadd, 1) := by decide +kernel
theorem dL_law_1215 : decode cL_law 1215 = .ok (.iaload, 1) := by decide +kernel
theorem dL_law_1216 : decode cL_law 1216 = .ok (.aload_n 0, 1) := by decide +kernel
theorem dL_law_1217 : decode cL_law 1217 = .ok (.iload_n 3, 1) := by decide +kernel
theorem dL_law_1218 : decode cL_law 1218 = .ok (.iconst 3, 1) := by decide +kernel
theorem dL_law_1219 : decode cL_law 1219 = .ok (.iadd, 1) := by decide +kernel
theorem dL_law_1220 : decode cL_law 1220 = .ok (.iaload, 1) := by decide +kernel
theorem dL_law_1221 : decode cL_law 1221 = .ok (.aload_n 0, 1) := by decide +kernel
theorem dL_law_1222 : decode cL_law 1222 = .ok (.iload_n 3, 1) := by decide +kernel
theorem dL_law_1223 : decode cL_law 1223 = .ok (.iconst 4, 1) := by decide +kernel
theorem dL_law_1224 : decode cL_law 1224 = .ok (.iadd, 1) := by decide +kernel
theorem dL_law_1225 : decode cL_law 1225 = .ok (.iaload, 1) := by decide +kernel
theorem dL_law_1226 : decode cL_law 1226 = .ok (.invokevirtual 162, 3) := by decide +kernel
theorem dL_law_1229 : decode cL_law 1229 = .ok (.aload_n 2, 1) := by decide +kernel
theorem dL_law_1230 : decode cL_law 1230 = .ok (.aload_n 0, 1) := by decide +kernel
theorem dL_law_1231 : decode cL_law 1231 = .ok (.iload_n 3, 1) := by decide +kernel
theorem dL_law_1232 : decode cL_law 1232 = .ok (.iconst 1, 1) := by decide +kernel
theorem dL_law_1233 : decode cL_law 1233 = .ok (.iadd, 1) := by decide +kernel
theorem dL_law_1234 : decode cL_law 1234 = .ok (.iaload, 1) := by decide +kernel
theorem dL_law_1235 : decode cL_law 1235 = .ok (.aload_n 0, 1) := by decide +kernel
theorem dL_law_1236 : decode cL_law 1236 = .ok (.iload_n 3, 1) := by decide +kernel
theorem dL_law_1237 : decode cL_law 1237 = .ok (.iconst 2, 1) := by decide +kernel
theorem dL_law_1238 : decode cL_law 1238 = .ok (.iadd, 1) := by decide +kernel
theorem dL_law_1239 : decode cL_law 1239 = .ok (.iaload, 1) := by decide +kernel
theorem dL_law_1240 : decode cL_law 1240 = .ok (.aload_n 0, 1) := by decide +kernel
theorem dL_law_1241 : decode cL_law 1241 = .ok (.iload_n 3, 1) := by decide +kernel
theorem dL_law_1242 : decode cL_law 1242 = .ok (.iconst 3, 1) := by decide +kernel
theorem dL_law_1243 : decode cL_law 1243 = .ok (.iadd, 1) := by decide +kernel
theorem dL_law_1244 : decode cL_law 1244 = .ok (.iaload, 1) := by decide +kernel
theorem dL_law_1245 : decode cL_law 1245 = .ok (.aload_n 0, 1) := by decide +kernel
theorem dL_law_1246 : decode cL_law 1246 = .ok (.iload_n 3, 1) := by decide +kernel
theorem dL_law_1247 : decode cL_law 1247 = .ok (.iconst 4, 1) := by decide +kernel
theorem dL_law_1248 : decode cL_law 1248 = .ok (.iadd, 1) := by decide +kernel
theorem dL_law_1249 : decode cL_law 1249 = .ok (.iaload, 1) := by decide +kernel
theorem dL_law_1250 : decode cL_law 1250 = .ok (.invokevirtual 166, 3) := by decide +kernel
theorem dL_law_1253 : decode cL_law 1253 = .ok (.if_icmp .eq 241, 3) := by decide +kernel
theorem dL_law_1256 : decode cL_law 1256 = .ok (.iconst 0, 1) := by decide +kernel
theorem dL_law_1257 : decode cL_law 1257 = .ok (.ireturn, 1) := by decide +kernel
theorem dL_law_1258 : decode cL_law 1258 = .ok (.aload_n 1, 1) := by decide +kernel
theorem dL_law_1259 : decode cL_law 1259 = .ok (.aload_n 0, 1) := by decide +kernel
theorem dL_law_1260 : decode cL_law 1260 = .ok (.iload_n 3, 1) := by decide +kernel
theorem dL_law_1261 : decode cL_law 1261 = .ok (.iconst 1, 1) := by decide +kernel
theorem dL_law_1262 : decode cL_law 1262 = .ok (.iadd, 1) := by decide +kernel
theorem dL_law_1263 : decode cL_law 1263 = .ok (.iaload, 1) := by decide +kernel
theorem dL_law_1264 : decode cL_law 1264 = .ok (.aload_n 0, 1) := by decide +kernel
theorem dL_law_1265 : decode cL_law 1265 = .ok (.iload_n 3, 1) := by decide +kernel
theorem dL_law_1266 : decode cL_law 1266 = .ok (.iconst 2, 1) := by decide +kernel
theorem dL_law_1267 : decode cL_law 1267 = .ok (.iadd, 1) := by decide +kernel
theorem dL_law_1268 : decode cL_law 1268 = .ok (.iaload, 1) := by decide +kernel
theorem dL_law_1269 : decode cL_law 1269 = .ok (.ifCond .eq 7, 3) := by decide +kernel
theorem dL_law_1272 : decode cL_law 1272 = .ok (.iconst 1, 1) := by decide +kernel
theorem dL_law_1273 : decode cL_law 1273 = .ok (.goto 4, 3) := by decide +kernel
theorem dL_law_1276 : decode cL_law 1276 = .ok (.iconst 0, 1) := by decide +kernel
theorem dL_law_1277 : decode cL_law 1277 = .ok (.invokevirtual 167, 3) := by decide +kernel
theorem dL_law_1280 : decode cL_law 1280 = .ok (.aload_n 2, 1) := by decide +kernel
theorem dL_law_1281 : decode cL_law 1281 = .ok (.aload_n 0, 1) := by decide +kernel
theorem dL_law_1282 : decode cL_law 1282 = .ok (.iload_n 3, 1) := by decide +kernel
theorem dL_law_1283 : decode cL_law 1283 = .ok (.iconst 1, 1) := by decide +kernel
theorem dL_law_1284 : decode cL_law 1284 = .ok (.iadd, 1) := by decide +kernel
theorem dL_law_1285 : decode cL_law 1285 = .ok (.iaload, 1) := by decide +kernel
theorem dL_law_1286 : decode cL_law 1286 = .ok (.aload_n 0, 1) := by decide +kernel
theorem dL_law_1287 : decode cL_law 1287 = .ok (.iload_n 3, 1) := by decide +kernel
theorem dL_law_1288 : decode cL_law 1288 = .ok (.iconst 2, 1) := by decide +kernel
theorem dL_law_1289 : decode cL_law 1289 = .ok (.iadd, 1) := by decide +kernel
theorem dL_law_1290 : decode cL_law 1290 = .ok (.iaload, 1) := by decide +kernel
theorem dL_law_1291 : decode cL_law 1291 = .ok (.ifCond .eq 7, 3) := by decide +kernel
theorem dL_law_1294 : decode cL_law 1294 = .ok (.iconst 1, 1) := by decide +kernel
theorem dL_law_1295 : decode cL_law 1295 = .ok (.goto 4, 3) := by decide +kernel
theorem dL_law_1298 : decode cL_law 1298 = .ok (.iconst 0, 1) := by decide +kernel
theorem dL_law_1299 : decode cL_law 1299 = .ok (.invokevirtual 171, 3) := by decide +kernel
theorem dL_law_1302 : decode cL_law 1302 = .ok (.if_icmp .eq 192, 3) := by decide +kernel
theorem dL_law_1305 : decode cL_law 1305 = .ok (.iconst 0, 1) := by decide +kernel
theorem dL_law_1306 : decode cL_law 1306 = .ok (.ireturn, 1) := by decide +kernel
theorem dL_law_1307 : decode cL_law 1307 = .ok (.aload_n 1, 1) := by decide +kernel
theorem dL_law_1308 : decode cL_law 1308 = .ok (.aload_n 0, 1) := by decide +kernel
theorem dL_law_1309 : decode cL_law 1309 = .ok (.iload_n 3, 1) := by decide +kernel
theorem dL_law_1310 : decode cL_law 1310 = .ok (.iconst 1, 1) := by decide +kernel
theorem dL_law_1311 : decode cL_law 1311 = .ok (.iadd, 1) := by decide +kernel
theorem dL_law_1312 : decode cL_law 1312 = .ok (.iaload, 1) := by decide +kernel
theorem dL_law_1313 : decode cL_law 1313 = .ok (.aload_n 0, 1) := by decide +kernel
theorem dL_law_1314 : decode cL_law 1314 = .ok (.iload_n 3, 1) := by decide +kernel
theorem dL_law_1315 : decode cL_law 1315 = .ok (.iconst 2, 1) := by decide +kernel
theorem dL_law_1316 : decode cL_law 1316 = .ok (.iadd, 1) := by decide +kernel
theorem dL_law_1317 : decode cL_law 1317 = .ok (.iaload, 1) := by decide +kernel
theorem dL_law_1318 : decode cL_law 1318 = .ok (.ifCond .eq 7, 3) := by decide +kernel
theorem dL_law_1321 : decode cL_law 1321 = .ok (.iconst 1, 1) := by decide +kernel
theorem dL_law_1322 : decode cL_law 1322 = .ok (.goto 4, 3) := by decide +kernel
theorem dL_law_1325 : decode cL_law 1325 = .ok (.iconst 0, 1) := by decide +kernel
theorem dL_law_1326 : decode cL_law 1326 = .ok (.invokevirtual 172, 3) := by decide +kernel
theorem dL_law_1329 : decode cL_law 1329 = .ok (.aload_n 2, 1) := by decide +kernel
theorem dL_law_1330 : decode cL_law 1330 = .ok (.aload_n 0, 1) := by decide +kernel
theorem dL_law_1331 : decode cL_law 1331 = .ok (.iload_n 3, 1) := by decide +kernel
theorem dL_law_1332 : decode cL_law 1332 = .ok (.iconst 1, 1) := by decide +kernel
theorem dL_law_1333 : decode cL_law 1333 = .ok (.iadd, 1) := by decide +kernel
theorem dL_law_1334 : decode cL_law 1334 = .ok (.iaload, 1) := by decide +kernel
theorem dL_law_1335 : decode cL_law 1335 = .ok (.aload_n 0, 1) := by decide +kernel
theorem dL_law_1336 : decode cL_law 1336 = .ok (.iload_n 3, 1) := by decide +kernel
theorem dL_law_1337 : decode cL_law 1337 = .ok (.iconst 2, 1) := by decide +kernel
theorem dL_law_1338 : decode cL_law 1338 = .ok (.iadd, 1) := by decide +kernel
theorem dL_law_1339 : decode cL_law 1339 = .ok (.iaload, 1) := by decide +kernel
theorem dL_law_1340 : decode cL_law 1340 = .ok (.ifCond .eq 7, 3) := by decide +kernel
theorem dL_law_1343 : decode cL_law 1343 = .ok (.iconst 1, 1) := by decide +kernel
theorem dL_law_1344 : decode cL_law 1344 = .ok (.goto 4, 3) := by decide +kernel
theorem dL_law_1347 : decode cL_law 1347 = .ok (.iconst 0, 1) := by decide +kernel
theorem dL_law_1348 : decode cL_law 1348 = .ok (.invokevirtual 175, 3) := by decide +kernel
theorem dL_law_1351 : decode cL_law 1351 = .ok (.if_icmp .eq 143, 3) := by decide +kernel
theorem dL_law_1354 : decode cL_law 1354 = .ok (.iconst 0, 1) := by decide +kernel
theorem dL_law_1355 : decode cL_law 1355 = .ok (.ireturn, 1) := by decide +kernel
theorem dL_law_1356 : decode cL_law 1356 = .ok (.aload_n 1, 1) := by decide +kernel
theorem dL_law_1357 : decode cL_law 1357 = .ok (.invokevirtual 176, 3) := by decide +kernel
theorem dL_law_1360 : decode cL_law 1360 = .ok (.aload_n 2, 1) := by decide +kernel
theorem dL_law_1361 : decode cL_law 1361 = .ok (.invokevirtual 179, 3) := by decide +kernel
theorem dL_law_1364 : decode cL_law 1364 = .ok (.if_icmp .eq 130, 3) := by decide +kernel
theorem dL_law_1367 : decode cL_law 1367 = .ok (.iconst 0, 1) := by decide +kernel
theorem dL_law_1368 : decode cL_law 1368 = .ok (.ireturn, 1) := by decide +kernel
theorem dL_law_1369 : decode cL_law 1369 = .ok (.aload_n 1, 1) := by decide +kernel
theorem dL_law_1370 : decode cL_law 1370 = .ok (.aload_n 0, 1) := by decide +kernel
theorem dL_law_1371 : decode cL_law 1371 = .ok (.iload_n 3, 1) := by decide +kernel
theorem dL_law_1372 : decode cL_law 1372 = .ok (.iconst 1, 1) := by decide +kernel
theorem dL_law_1373 : decode cL_law 1373 = .ok (.iadd, 1) := by decide +kernel
theorem dL_law_1374 : decode cL_law 1374 = .ok (.iaload, 1) := by decide +kernel
theorem dL_law_1375 : decode cL_law 1375 = .ok (.aload_n 0, 1) := by decide +kernel
theorem dL_law_1376 : decode cL_law 1376 = .ok (.iload_n 3, 1) := by decide +kernel
theorem dL_law_1377 : decode cL_law 1377 = .ok (.iconst 2, 1) := by decide +kernel
theorem dL_law_1378 : decode cL_law 1378 = .ok (.iadd, 1) := by decide +kernel
theorem dL_law_1379 : decode cL_law 1379 = .ok (.iaload, 1) := by decide +kernel
theorem dL_law_1380 : decode cL_law 1380 = .ok (.invokevirtual 180, 3) := by decide +kernel
theorem dL_law_1383 : decode cL_law 1383 = .ok (.aload_n 2, 1) := by decide +kernel
theorem dL_law_1384 : decode cL_law 1384 = .ok (.aload_n 0, 1) := by decide +kernel
theorem dL_law_1385 : decode cL_law 1385 = .ok (.iload_n 3, 1) := by decide +kernel
theorem dL_law_1386 : decode cL_law 1386 = .ok (.iconst 1, 1) := by decide +kernel
theorem dL_law_1387 : decode cL_law 1387 = .ok (.iadd, 1) := by decide +kernel
theorem dL_law_1388 : decode cL_law 1388 = .ok (.iaload, 1) := by decide +kernel
theorem dL_law_1389 : decode cL_law 1389 = .ok (.aload_n 0, 1) := by decide +kernel
theorem dL_law_1390 : decode cL_law 1390 = .ok (.iload_n 3, 1) := by decide +kernel
theorem dL_law_1391 : decode cL_law 1391 = .ok (.iconst 2, 1) := by decide +kernel
theorem dL_law_1392 : decode cL_law 1392 = .ok (.iadd, 1) := by decide +kernel
theorem dL_law_1393 : decode cL_law 1393 = .ok (.iaload, 1) := by decide +kernel
theorem dL_law_1394 : decode cL_law 1394 = .ok (.invokevirtual 183, 3) := by decide +kernel
theorem dL_law_1397 : decode cL_law 1397 = .ok (.if_icmp .eq 97, 3) := by decide +kernel
theorem dL_law_1400 : decode cL_law 1400 = .ok (.iconst 0, 1) := by decide +kernel
theorem dL_law_1401 : decode cL_law 1401 = .ok (.ireturn, 1) := by decide +kernel
theorem dL_law_1402 : decode cL_law 1402 = .ok (.aload_n 1, 1) := by decide +kernel
theorem dL_law_1403 : decode cL_law 1403 = .ok (.aload_n 0, 1) := by decide +kernel
theorem dL_law_1404 : decode cL_law 1404 = .ok (.iload_n 3, 1) := by decide +kernel
theorem dL_law_1405 : decode cL_law 1405 = .ok (.iconst 1, 1) := by decide +kernel
theorem dL_law_1406 : decode cL_law 1406 = .ok (.iadd, 1) := by decide +kernel
theorem dL_law_1407 : decode cL_law 1407 = .ok (.iaload, 1) := by decide +kernel
theorem dL_law_1408 : decode cL_law 1408 = .ok (.invokevirtual 184, 3) := by decide +kernel
theorem dL_law_1411 : decode cL_law 1411 = .ok (.aload_n 2, 1) := by decide +kernel
theorem dL_law_1412 : decode cL_law 1412 = .ok (.aload_n 0, 1) := by decide +kernel
theorem dL_law_1413 : decode cL_law 1413 = .ok (.iload_n 3, 1) := by decide +kernel
theorem dL_law_1414 : decode cL_law 1414 = .ok (.iconst 1, 1) := by decide +kernel
theorem dL_law_1415 : decode cL_law 1415 = .ok (.iadd, 1) := by decide +kernel
theorem dL_law_1416 : decode cL_law 1416 = .ok (.iaload, 1) := by decide +kernel
theorem dL_law_1417 : decode cL_law 1417 = .ok (.invokevirtual 187, 3) := by decide +kernel
theorem dL_law_1420 : decode cL_law 1420 = .ok (.if_icmp .eq 74, 3) := by decide +kernel
theorem dL_law_1423 : decode cL_law 1423 = .ok (.iconst 0, 1) := by decide +kernel
theorem dL_law_1424 : decode cL_law 1424 = .ok (.ireturn, 1) := by decide +kernel
theorem dL_law_1425 : decode cL_law 1425 = .ok (.aload_n 1, 1) := by decide +kernel
theorem dL_law_1426 : decode cL_law 1426 = .ok (.aload_n 0, 1) := by decide +kernel
theorem dL_law_1427 : decode cL_law 1427 = .ok (.iload_n 3, 1) := by decide +kernel
theorem dL_law_1428 : decode cL_law 1428 = .ok (.iconst 1, 1) := by decide +kernel
theorem dL_law_1429 : decode cL_law 1429 = .ok (.iadd, 1) := by decide +kernel
theorem dL_law_1430 : decode cL_law 1430 = .ok (.iaload, 1) := by decide +kernel
theorem dL_law_1431 : decode cL_law 1431 = .ok (.invokevirtual 188, 3) := by decide +kernel
theorem dL_law_1434 : decode cL_law 1434 = .ok (.aload_n 2, 1) := by decide +kernel
theorem dL_law_1435 : decode cL_law 1435 = .ok (.aload_n 0, 1) := by decide +kernel
theorem dL_law_1436 : decode cL_law 1436 = .ok (.iload_n 3, 1) := by decide +kernel
theorem dL_law_1437 : decode cL_law 1437 = .ok (.iconst 1, 1) := by decide +kernel
theorem dL_law_1438 : decode cL_law 1438 = .ok (.iadd, 1) := by decide +kernel
theorem dL_law_1439 : decode cL_law 1439 = .ok (.iaload, 1) := by decide +kernel
theorem dL_law_1440 : decode cL_law 1440 = .ok (.invokevirtual 191, 3) := by decide +kernel
theorem dL_law_1443 : decode cL_law 1443 = .ok (.if_icmp .eq 51, 3) := by decide +kernel
theorem dL_law_1446 : decode cL_law 1446 = .ok (.iconst 0, 1) := by decide +kernel
theorem dL_law_1447 : decode cL_law 1447 = .ok (.ireturn, 1) := by decide +kernel
theorem dL_law_1448 : decode cL_law 1448 = .ok (.aload_n 1, 1) := by decide +kernel
theorem dL_law_1449 : decode cL_law 1449 = .ok (.aload_n 0, 1) := by decide +kernel
theorem dL_law_1450 : decode cL_law 1450 = .ok (.iload_n 3, 1) := by decide +kernel
theorem dL_law_1451 : decode cL_law 1451 = .ok (.iconst 1, 1) := by decide +kernel
theorem dL_law_1452 : decode cL_law 1452 = .ok (.iadd, 1) := by decide +kernel
theorem dL_law_1453 : decode cL_law 1453 = .ok (.iaload, 1) := by decide +kernel
theorem dL_law_1454 : decode cL_law 1454 = .ok (.invokevirtual 192, 3) := by decide +kernel
theorem dL_law_1457 : decode cL_law 1457 = .ok (.aload_n 2, 1) := by decide +kernel
theorem dL_law_1458 : decode cL_law 1458 = .ok (.aload_n 0, 1) := by decide +kernel
theorem dL_law_1459 : decode cL_law 1459 = .ok (.iload_n 3, 1) := by decide +kernel
theorem dL_law_1460 : decode cL_law 1460 = .ok (.iconst 1, 1) := by decide +kernel
theorem dL_law_1461 : decode cL_law 1461 = .ok (.iadd, 1) := by decide +kernel
theorem dL_law_1462 : decode cL_law 1462 = .ok (.iaload, 1) := by decide +kernel
theorem dL_law_1463 : decode cL_law 1463 = .ok (.invokevirtual 195, 3) := by decide +kernel
theorem dL_law_1466 : decode cL_law 1466 = .ok (.if_icmp .eq 28, 3) := by decide +kernel
theorem dL_law_1469 : decode cL_law 1469 = .ok (.iconst 0, 1) := by decide +kernel
theorem dL_law_1470 : decode cL_law 1470 = .ok (.ireturn, 1) := by decide +kernel
theorem dL_law_1471 : decode cL_law 1471 = .ok (.aload_n 1, 1) := by decide +kernel
theorem dL_law_1472 : decode cL_law 1472 = .ok (.aload_n 0, 1) := by decide +kernel
theorem dL_law_1473 : decode cL_law 1473 = .ok (.iload_n 3, 1) := by decide +kernel
theorem dL_law_1474 : decode cL_law 1474 = .ok (.iconst 1, 1) := by decide +kernel
theorem dL_law_1475 : decode cL_law 1475 = .ok (.iadd, 1) := by decide +kernel
theorem dL_law_1476 : decode cL_law 1476 = .ok (.iaload, 1) := by decide +kernel
theorem dL_law_1477 : decode cL_law 1477 = .ok (.invokevirtual 196, 3) := by decide +kernel
theorem dL_law_1480 : decode cL_law 1480 = .ok (.aload_n 2, 1) := by decide +kernel
theorem dL_law_1481 : decode cL_law 1481 = .ok (.aload_n 0, 1) := by decide +kernel
theorem dL_law_1482 : decode cL_law 1482 = .ok (.iload_n 3, 1) := by decide +kernel
theorem dL_law_1483 : decode cL_law 1483 = .ok (.iconst 1, 1) := by decide +kernel
theorem dL_law_1484 : decode cL_law 1484 = .ok (.iadd, 1) := by decide +kernel
theorem dL_law_1485 : decode cL_law 1485 = .ok (.iaload, 1) := by decide +kernel
theorem dL_law_1486 : decode cL_law 1486 = .ok (.invokevirtual 199, 3) := by decide +kernel
theorem dL_law_1489 : decode cL_law 1489 = .ok (.if_icmp .eq 5, 3) := by decide +kernel
theorem dL_law_1492 : decode cL_law 1492 = .ok (.iconst 0, 1) := by decide +kernel
theorem dL_law_1493 : decode cL_law 1493 = .ok (.ireturn, 1) := by decide +kernel
theorem dL_law_1494 : decode cL_law 1494 = .ok (.iinc 3 6, 3) := by decide +kernel
theorem dL_law_1497 : decode cL_law 1497 = .ok (.goto (-1479), 3) := by decide +kernel
theorem dL_law_1500 : decode cL_law 1500 = .ok (.iconst 1, 1) := by decide +kernel
theorem dL_law_1501 : decode cL_law 1501 = .ok (.ireturn, 1) := by decide +kernel
set_option maxRecDepth 100000 in
set_option maxHeartbeats 4000000 in
theorem tL_law_1494 (G : gx) (fu : Nat) (h0 : mh) (v0 : Unit) (v1 : Nat) (v2 : Nat) (v3 : Int32) (k18 : Int32 × mh → Option (Int32 × mh)) (hk18 : ∀ (v3 : Int32) (h : mh), Ev lI G yL_law cL_law 4 (some .boolean) 14 h0 18 [(0, .ref (gs G).1), (1, .ref (gB G + v1)), (2, .ref (gB G + v2)), (3, .int v3)] [] h (k18 (v3, h))) (h : mh) : Ev lI G yL_law cL_law 4 (some .boolean) 14 h0 1494 [(0, .ref (gs G).1), (1, .ref (gB G + v1)), (2, .ref (gB G + v2)), (3, .int v3)] [] h (fL_law_1494 fu (gs G).2.1 (gs G).2.2 k18 v0 v1 v2 v3 h) := by
  unfold fL_law_1494
  refine ev_step (st_inc (pc := 1494) (j := 3) (ls' := [(3, .int (v3 + (6 : Int32))), (0, .ref (gs G).1), (1, .ref (gB G + v1)), (2, .ref (gB G + v2))]) dL_law_1494 rfl ni_6 (by decide) rfl) ?_
  refine ev_step (st_goto (pc := 1497) (tgt := 18) dL_law_1497 (by decide)) ?_
  refine ev_sub (ls' := [(0, .ref (gs G).1), (1, .ref (gB G + v1)), (2, .ref (gB G + v2)), (3, .int (v3 + (6 : Int32)))]) [1, 2, 3, 0] rfl ?_
  exact hk18 (v3 + (6 : Int32)) h
set_option maxRecDepth 100000 in
set_option maxHeartbeats 4000000 in
theorem tL_law_509 (G : gx) (fu : Nat) (h0 : mh) (v0 : Unit) (v1 : Nat) (v2 : Nat) (v3 : Int32) (s0 : Int32) (s1 : Nat) (s2 : Int32) (s3 : Int32) (k18 : Int32 × mh → Option (Int32 × mh)) (hk18 : ∀ (v3 : Int32) (h : mh), Ev lI G yL_law cL_law 4 (some .boolean) 14 h0 18 [(0, .ref (gs G).1), (1, .ref (gB G + v1)), (2, .ref (gB G + v2)), (3, .int v3)] [] h (k18 (v3, h))) (h : mh) : Ev lI G yL_law cL_law 4 (some .boolean) 14 h0 509 [(0, .ref (gs G).1), (1, .ref (gB G + v1)), (2, .ref (gB G + v2)), (3, .int v3)] [.int s3, .int s2, .ref (gB G + s1), .int s0] h (fL_law_509 fu (gs G).2.1 (gs G).2.2 k18 v0 v1 v2 v3 s0 s1 s2 s3 h) := by
  unfold fL_law_509
  refine ev_ck (fun ha hS => ?_)
  refine ev_callI (iv_V (As := [.int s2, .int s3]) (st := [.int s0]) (pc := 509) rfl m_X10_turn l_L_55 i_X10_turn e_X10_turn ha hS rfl (Nat.le_of_ble_eq_true rfl) rfl dL_law_509) (tX10_turn G fu s1 s2 s3 h) (by decide) (by decide) (fun x2 h1 => ?_)
  refine ev_br (br_icmp_eq (tgt := 1494) (pc := 512) dL_law_512 (by decide)) (fun _ => ?_) (fun _ => ?_)
  · refine ev_sub (ls' := [(0, .ref (gs G).1), (1, .ref (gB G + v1)), (2, .ref (gB G + v2)), (3, .int v3)]) [0, 1, 2, 3] rfl ?_
    exact tL_law_1494 G fu h0 v0 v1 v2 v3 k18 hk18 h1
  · refine ev_step (st_iconst (pc := 515) dL_law_515 ni_0) ?_
    exact ev_zret (pc := 516) dL_law_516
set_option maxRecDepth 100000 in
set_option maxHeartbeats 4000000 in
theorem tL_law_487 (G : gx) (fu : Nat) (h0 : mh) (v0 : Unit) (v1 : Nat) (v2 : Nat) (v3 : Int32) (s0 : Nat) (s1 : Int32) (s2 : Int32) (k18 : Int32 × mh → Option (Int32 × mh)) (hk18 : ∀ (v3 : Int32) (h : mh), Ev lI G yL_law cL_law 4 (some .boolean) 14 h0 18 [(0, .ref (gs G).1), (1, .ref (gB G + v1)), (2, .ref (gB G + v2)), (3, .int v3)] [] h (k18 (v3, h))) (h : mh) : Ev lI G yL_law cL_law 4 (some .boolean) 14 h0 487 [(0, .ref (gs G).1), (1, .ref (gB G + v1)), (2, .ref (gB G + v2)), (3, .int v3)] [.int s2, .int s1, .ref (gB G + s0)] h (fL_law_487 fu (gs G).2.1 (gs G).2.2 k18 v0 v1 v2 v3 s0 s1 s2 h) := by
  unfold fL_law_487
  refine ev_ck (fun ha hS => ?_)
  refine ev_callI (iv_V (As := [.int s1, .int s2]) (st := []) (pc := 487) rfl m_X9_turn l_L_51 i_X9_turn e_X9_turn ha hS rfl (Nat.le_of_ble_eq_true rfl) rfl dL_law_487) (tX9_turn G fu s0 s1 s2 h) (by decide) (by decide) (fun x2 h1 => ?_)
  refine ev_step (st_aload_n (pc := 490) (j := 2) dL_law_490 rfl rfl) ?_
  refine ev_step (st_aload_n (pc := 491) (j := 0) dL_law_491 rfl rfl) ?_
  refine ev_step (st_iload_n (pc := 492) (j := 3) dL_law_492 rfl rfl) ?_
  refine ev_step (st_iconst (pc := 493) dL_law_493 ni_1) ?_
  refine ev_step (st_iadd (pc := 494) dL_law_494) ?_
  refine ev_ldX (pc := 495) dL_law_495 (fun x3 => ?_)
  refine ev_step (st_aload_n (pc := 496) (j := 0) dL_law_496 rfl rfl) ?_
  refine ev_step (st_iload_n (pc := 497) (j := 3) dL_law_497 rfl rfl) ?_
  refine ev_step (st_iconst (pc := 498) dL_law_498 ni_2) ?_
  refine ev_step (st_iadd (pc := 499) dL_law_499) ?_
  refine ev_ldX (pc := 500) dL_law_500 (fun x4 => ?_)
  refine ev_br (br_if_eq (tgt := 508) (pc := 501) dL_law_501 (by decide)) (fun _ => ?_) (fun _ => ?_)
  · refine ev_step (st_iconst (pc := 508) dL_law_508 ni_0) ?_
    refine ev_sub (ls' := [(0, .ref (gs G).1), (1, .ref (gB G + v1)), (2, .ref (gB G + v2)), (3, .int v3)]) [0, 1, 2, 3] rfl ?_
    exact tL_law_509 G fu h0 v0 v1 v2 v3 x2 v2 x3 ((0 : Int32)) k18 hk18 h1
  · refine ev_step (st_iconst (pc := 504) dL_law_504 ni_1) ?_
    refine ev_step (st_goto (pc := 505) (tgt := 509) dL_law_505 (by decide)) ?_
    refine ev_sub (ls' := [(0, .ref (gs G).1), (1, .ref (gB G + v1)), (2, .ref (gB G + v2)), (3, .int v3)]) [0, 1, 2, 3] rfl ?_
    exact tL_law_509 G fu h0 v0 v1 v2 v3 x2 v2 x3 ((1 : Int32)) k18 hk18 h1
set_option maxRecDepth 100000 in
set_option maxHeartbeats 4000000 in
theorem tL_law_1299 (G : gx) (fu : Nat) (h0 : mh) (v0 : Unit) (v1 : Nat) (v2 : Nat) (v3 : Int32) (s0 : Int32) (s1 : Nat) (s2 : Int32) (s3 : Int32) (k18 : Int32 × mh → Option (Int32 × mh)) (hk18 : ∀ (v3 : Int32) (h : mh), Ev lI G yL_law cL_law 4 (some .boolean) 14 h0 18 [(0, .ref (gs G).1), (1, .ref (gB G + v1)), (2, .ref (gB G + v2)), (3, .int v3)] [] h (k18 (v3, h))) (h : mh) : Ev lI G yL_law cL_law 4 (some .boolean) 14 h0 1299 [(0, .ref (gs G).1), (1, .ref (gB G + v1)), (2, .ref (gB G + v2)), (3, .int v3)] [.int s3, .int s2, .ref (gB G + s1), .int s0] h (fL_law_1299 fu (gs G).2.1 (gs G).2.2 k18 v0 v1 v2 v3 s0 s1 s2 s3 h) := by
  unfold fL_law_1299
  refine ev_ck (fun ha hS => ?_)
  refine ev_callI (iv_V (As := [.int s2, .int s3]) (st := [.int s0]) (pc := 1299) rfl m_X10_tellFact l_L_171 i_X10_tellFact e_X10_tellFact ha hS rfl (Nat.le_of_ble_eq_true rfl) rfl dL_law_1299) (tX10_tellFact G fu s1 s2 s3 h) (by decide) (by decide) (fun x2 h1 => ?_)
  refine ev_br (br_icmp_eq (tgt := 1494) (pc := 1302) dL_law_1302 (by decide)) (fun _ => ?_) (fun _ => ?_)
  · refine ev_sub (ls' := [(0, .ref (gs G).1), (1, .ref (gB G + v1)), (2, .ref (gB G + v2)), (3, .int v3)]) [0, 1, 2, 3] rfl ?_
    exact tL_law_1494 G fu h0 v0 v1 v2 v3 k18 hk18 h1
  · refine ev_step (st_iconst (pc := 1305) dL_law_1305 ni_0) ?_
    exact ev_zret (pc := 1306) dL_law_1306
set_option maxRecDepth 100000 in
set_option maxHeartbeats 4000000 in
theorem tL_law_1277 (G : gx) (fu : Nat) (h0 : mh) (v0 : Unit) (v1 : Nat) (v2 : Nat) (v3 : Int32) (s0 : Nat) (s1 : Int32) (s2 : Int32) (k18 : Int32 × mh → Option (Int32 × mh)) (hk18 : ∀ (v3 : Int32) (h : mh), Ev lI G yL_law cL_law 4 (some .boolean) 14 h0 18 [(0, .ref (gs G).1), (1, .ref (gB G + v1)), (2, .ref (gB G + v2)), (3, .int v3)] [] h (k18 (v3, h))) (h : mh) : Ev lI G yL_law cL_law 4 (some .boolean) 14 h0 1277 [(0, .ref (gs G).1), (1, .ref (gB G + v1)), (2, .ref (gB G + v2)), (3, .int v3)] [.int s2, .int s1, .ref (gB G + s0)] h (fL_law_1277 fu (gs G).2.1 (gs G).2.2 k18 v0 v1 v2 v3 s0 s1 s2 h) := by
  unfold fL_law_1277
  refine ev_ck (fun ha hS => ?_)
  refine ev_callI (iv_V (As := [.int s1, .int s2]) (st := []) (pc := 1277) rfl m_X9_tellFact l_L_167 i_X9_tellFact e_X9_tellFact ha hS rfl (Nat.le_of_ble_eq_true rfl) rfl dL_law_1277) (tX9_tellFact G fu s0 s1 s2 h) (by decide) (by decide) (fun x2 h1 => ?_)
  refine ev_step (st_aload_n (pc := 1280) (j := 2) dL_law_1280 rfl rfl) ?_
  refine ev_step (st_aload_n (pc := 1281) (j := 0) dL_law_1281 rfl rfl) ?_
  refine ev_step (st_iload_n (pc := 1282) (j := 3) dL_law_1282 rfl rfl) ?_
  refine ev_step (st_iconst (pc := 1283) dL_law_1283 ni_1) ?_
  refine ev_step (st_iadd (pc := 1284) dL_law_1284) ?_
  refine ev_ldX (pc := 1285) dL_law_1285 (fun x3 => ?_)
  refine ev_step (st_aload_n (pc := 1286) (j := 0) dL_law_1286 rfl rfl) ?_
  refine ev_step (st_iload_n (pc := 1287) (j := 3) dL_law_1287 rfl rfl) ?_
  refine ev_step (st_iconst (pc := 1288) dL_law_1288 ni_2) ?_
  refine ev_step (st_iadd (pc := 1289) dL_law_1289) ?_
  refine ev_ldX (pc := 1290) dL_law_1290 (fun x4 => ?_)
  refine ev_br (br_if_eq (tgt := 1298) (pc := 1291) dL_law_1291 (by decide)) (fun _ => ?_) (fun _ => ?_)
  · refine ev_step (st_iconst (pc := 1298) dL_law_1298 ni_0) ?_
    refine ev_sub (ls' := [(0, .ref (gs G).1), (1, .ref (gB G + v1)), (2, .ref (gB G + v2)), (3, .int v3)]) [0, 1, 2, 3] rfl ?_
    exact tL_law_1299 G fu h0 v0 v1 v2 v3 x2 v2 x3 ((0 : Int32)) k18 hk18 h1
  · refine ev_step (st_iconst (pc := 1294) dL_law_1294 ni_1) ?_
    refine ev_step (st_goto (pc := 1295) (tgt := 1299) dL_law_1295 (by decide)) ?_
    refine ev_sub (ls' := [(0, .ref (gs G).1), (1, .ref (gB G + v1)), (2, .ref (gB G + v2)), (3, .int v3)]) [0, 1, 2, 3] rfl ?_
    exact tL_law_1299 G fu h0 v0 v1 v2 v3 x2 v2 x3 ((1 : Int32)) k18 hk18 h1
set_option maxRecDepth 100000 in
set_option maxHeartbeats 4000000 in
theorem tL_law_1348 (G : gx) (fu : Nat) (h0 : mh) (v0 : Unit) (v1 : Nat) (v2 : Nat) (v3 : Int32) (s0 : Int32) (s1 : Nat) (s2 : Int32) (s3 : Int32) (k18 : Int32 × mh → Option (Int32 × mh)) (hk18 : ∀ (v3 : Int32) (h : mh), Ev lI G yL_law cL_law 4 (some .boolean) 14 h0 18 [(0, .ref (gs G).1), (1, .ref (gB G + v1)), (2, .ref (gB G + v2)), (3, .int v3)] [] h (k18 (v3, h))) (h : mh) : Ev lI G yL_law cL_law 4 (some .boolean) 14 h0 1348 [(0, .ref (gs G).1), (1, .ref (gB G + v1)), (2, .ref (gB G + v2)), (3, .int v3)] [.int s3, .int s2, .ref (gB G + s1), .int s0] h (fL_law_1348 fu (gs G).2.1 (gs G).2.2 k18 v0 v1 v2 v3 s0 s1 s2 s3 h) := by
  unfold fL_law_1348
  refine ev_ck (fun ha hS => ?_)
  refine ev_callI (iv_V (As := [.int s2, .int s3]) (st := [.int s0]) (pc := 1348) rfl m_X10_tellDone l_L_175 i_X10_tellDone e_X10_tellDone ha hS rfl (Nat.le_of_ble_eq_true rfl) rfl dL_law_1348) (tX10_tellDone G fu s1 s2 s3 h) (by decide) (by decide) (fun x2 h1 => ?_)
  refine ev_br (br_icmp_eq (tgt := 1494) (pc := 1351) dL_law_1351 (by decide)) (fun _ => ?_) (fun _ => ?_)
  · refine ev_sub (ls' := [(0, .ref (gs G).1), (1, .ref (gB G + v1)), (2, .ref (gB G + v2)), (3, .int v3)]) [0, 1, 2, 3] rfl ?_
    exact tL_law_1494 G fu h0 v0 v1 v2 v3 k18 hk18 h1
  · refine ev_step (st_iconst (pc := 1354) dL_law_1354 ni_0) ?_
    exact ev_zret (pc := 1355) dL_law_1355
set_option maxRecDepth 100000 in
set_option maxHeartbeats 4000000 in
theorem tL_law_1326 (G : gx) (fu : Nat) (h0 : mh) (v0 : Unit) (v1 : Nat) (v2 : Nat) (v3 : Int32) (s0 : Nat) (s1 : Int32) (s2 : Int32) (k18 : Int32 × mh → Option (Int32 × mh)) (hk18 : ∀ (v3 : Int32) (h : mh), Ev lI G yL_law cL_law 4 (some .boolean) 14 h0 18 [(0, .ref (gs G).1), (1, .ref (gB G + v1)), (2, .ref (gB G + v2)), (3, .int v3)] [] h (k18 (v3, h))) (h : mh) : Ev lI G yL_law cL_law 4 (some .boolean) 14 h0 1326 [(0, .ref (gs G).1), (1, .ref (gB G + v1)), (2, .ref (gB G + v2)), (3, .int v3)] [.int s2, .int s1, .ref (gB G + s0)] h (fL_law_1326 fu (gs G).2.1 (gs G).2.2 k18 v0 v1 v2 v3 s0 s1 s2 h) := by
  unfold fL_law_1326
  refine ev_ck (fun ha hS => ?_)
  refine ev_callI (iv_V (As := [.int s1, .int s2]) (st := []) (pc := 1326) rfl m_X9_tellDone l_L_172 i_X9_tellDone e_X9_tellDone ha hS rfl (Nat.le_of_ble_eq_true rfl) rfl dL_law_1326) (tX9_tellDone G fu s0 s1 s2 h) (by decide) (by decide) (fun x2 h1 => ?_)
  refine ev_step (st_aload_n (pc := 1329) (j := 2) dL_law_1329 rfl rfl) ?_
  refine ev_step (st_aload_n (pc := 1330) (j := 0) dL_law_1330 rfl rfl) ?_
  refine ev_step (st_iload_n (pc := 1331) (j := 3) dL_law_1331 rfl rfl) ?_
  refine ev_step (st_iconst (pc := 1332) dL_law_1332 ni_1) ?_
  refine ev_step (st_iadd (pc := 1333) dL_law_1333) ?_
  refine ev_ldX (pc := 1334) dL_law_1334 (fun x3 => ?_)
  refine ev_step (st_aload_n (pc := 1335) (j := 0) dL_law_1335 rfl rfl) ?_
  refine ev_step (st_iload_n (pc := 1336) (j := 3) dL_law_1336 rfl rfl) ?_
  refine ev_step (st_iconst (pc := 1337) dL_law_1337 ni_2) ?_
  refine ev_step (st_iadd (pc := 1338) dL_law_1338) ?_
  refine ev_ldX (pc := 1339) dL_law_1339 (fun x4 => ?_)
  refine ev_br (br_if_eq (tgt := 1347) (pc := 1340) dL_law_1340 (by decide)) (fun _ => ?_) (fun _ => ?_)
  · refine ev_step (st_iconst (pc := 1347) dL_law_1347 ni_0) ?_
    refine ev_sub (ls' := [(0, .ref (gs G).1), (1, .ref (gB G + v1)), (2, .ref (gB G + v2)), (3, .int v3)]) [0, 1, 2, 3] rfl ?_
    exact tL_law_1348 G fu h0 v0 v1 v2 v3 x2 v2 x3 ((0 : Int32)) k18 hk18 h1
  · refine ev_step (st_iconst (pc := 1343) dL_law_1343 ni_1) ?_
    refine ev_step (st_goto (pc := 1344) (tgt := 1348) dL_law_1344 (by decide)) ?_
    refine ev_sub (ls' := [(0, .ref (gs G).1), (1, .ref (gB G + v1)), (2, .ref (gB G + v2)), (3, .int v3)]) [0, 1, 2, 3] rfl ?_
    exact tL_law_1348 G fu h0 v0 v1 v2 v3 x2 v2 x3 ((1 : Int32)) k18 hk18 h1
set_option maxRecDepth 100000 in
set_option maxHeartbeats 4000000 in
theorem tL_law_18 (G : gx) (fu : Nat) (h0 : mh) (v0 : Unit) (v1 : Nat) (v2 : Nat) (n : Nat) (v3 : Int32) (h : mh) : Ev lI G yL_law cL_law 4 (some .boolean) 14 h0 18 [(0, .ref (gs G).1), (1, .ref (gB G + v1)), (2, .ref (gB G + v2)), (3, .int v3)] [] h (itr (bL_law_18 fu (gs G).2.1 (gs G).2.2 v0 v1 v2) n (v3, h)) := by
  refine ev_itr (P := fun (q : Int32 × mh) (R9 : Option (Int32 × mh)) => Ev lI G yL_law cL_law 4 (some .boolean) 14 h0 18 [(0, .ref (gs G).1), (1, .ref (gB G + v1)), (2, .ref (gB G + v2)), (3, .int q.1)] [] q.2 R9) (fun _ => ev_none) (fun k18 hk9 q => ?_) n (v3, h)
  obtain ⟨v3, h⟩ := q
  have hk18 : ∀ (v3 : Int32) (h : mh), Ev lI G yL_law cL_law 4 (some .boolean) 14 h0 18 [(0, .ref (gs G).1), (1, .ref (gB G + v1)), (2, .ref (gB G + v2)), (3, .int v3)] [] h (k18 (v3, h)) := fun v3 h => hk9 (v3, h)
  show Ev lI G yL_law cL_law 4 (some .boolean) 14 h0 18 [(0, .ref (gs G).1), (1, .ref (gB G + v1)), (2, .ref (gB G + v2)), (3, .int v3)] [] h (bL_law_18 fu (gs G).2.1 (gs G).2.2 v0 v1 v2 k18 (v3, h))
  unfold bL_law_18
  refine ev_step (st_iload_n (pc := 18) (j := 3) dL_law_18 rfl rfl) ?_
  refine ev_step (st_aload_n (pc := 19) (j := 0) dL_law_19 rfl rfl) ?_
  refine ev_step (st_scl (pc := 20) dL_law_20) ?_
  refine ev_step (st_bipush (pc := 21) dL_law_21 nb_6) ?_
  refine ev_step (st_isub (pc := 23) dL_law_23) ?_
  refine ev_br (br_icmp_gt (tgt := 1500) (pc := 24) dL_law_24 (by decide)) (fun _ => ?_) (fun _ => ?_)
  · refine ev_step (st_iconst (pc := 1500) dL_law_1500 ni_1) ?_
    exact ev_zret (pc := 1501) dL_law_1501
  · refine ev_step (st_aload_n (pc := 27) (j := 0) dL_law_27 rfl rfl) ?_
    refine ev_step (st_iload_n (pc := 28) (j := 3) dL_law_28 rfl rfl) ?_
    refine ev_ldX (pc := 29) dL_law_29 (fun x2 => ?_)
    refine ev_step (st_bipush (pc := 30) dL_law_30 nb_63) ?_
    refine ev_step (st_iand (pc := 32) dL_law_32) ?_
    refine ev_top (fun x3 => ?_)
    refine ev_case (n := 0) (c := (0 : Int32)) (off := 191) (tgt := 224) (pc := 33) (swn_0 _ _) dL_law_33 (by decide) (by decide) (by decide) (by decide) (by decide) (fun _ => ?_) (fun q4 => ?_)
    · refine ev_step (st_aload_n (pc := 224) (j := 1) dL_law_224 rfl rfl) ?_
      refine ev_step (st_aload_n (pc := 225) (j := 0) dL_law_225 rfl rfl) ?_
      refine ev_step (st_iload_n (pc := 226) (j := 3) dL_law_226 rfl rfl) ?_
      refine ev_step (st_iconst (pc := 227) dL_law_227 ni_1) ?_
      refine ev_step (st_iadd (pc := 228) dL_law_228) ?_
      refine ev_ldX (pc := 229) dL_law_229 (fun x5 => ?_)
      refine ev_step (st_aload_n (pc := 230) (j := 0) dL_law_230 rfl rfl) ?_
      refine ev_step (st_iload_n (pc := 231) (j := 3) dL_law_231 rfl rfl) ?_
      refine ev_step (st_iconst (pc := 232) dL_law_232 ni_2) ?_
      refine ev_step (st_iadd (pc := 233) dL_law_233) ?_
      refine ev_ldX (pc := 234) dL_law_234 (fun x6 => ?_)
      refine ev_step (st_aload_n (pc := 235) (j := 0) dL_law_235 rfl rfl) ?_
      refine ev_step (st_iload_n (pc := 236) (j := 3) dL_law_236 rfl rfl) ?_
      refine ev_step (st_iconst (pc := 237) dL_law_237 ni_3) ?_
      refine ev_step (st_iadd (pc := 238) dL_law_238) ?_
      refine ev_ldX (pc := 239) dL_law_239 (fun x7 => ?_)
      refine ev_step (st_aload_n (pc := 240) (j := 0) dL_law_240 rfl rfl) ?_
      refine ev_step (st_iload_n (pc := 241) (j := 3) dL_law_241 rfl rfl) ?_
      refine ev_step (st_iconst (pc := 242) dL_law_242 ni_4) ?_
      refine ev_step (st_iadd (pc := 243) dL_law_243) ?_
      refine ev_ldX (pc := 244) dL_law_244 (fun x8 => ?_)
      refine ev_step (st_aload_n (pc := 245) (j := 0) dL_law_245 rfl rfl) ?_
      refine ev_step (st_iload_n (pc := 246) (j := 3) dL_law_246 rfl rfl) ?_
      refine ev_step (st_iconst (pc := 247) dL_law_247 ni_5) ?_
      refine ev_step (st_iadd (pc := 248) dL_law_248) ?_
      refine ev_ldX (pc := 249) dL_law_249 (fun x9 => ?_)
      refine ev_ck (fun ha hS => ?_)
      refine ev_callI (iv_V (As := [.int x5, .int x6, .int x7, .int x8, .int x9]) (st := []) (pc := 250) rfl m_X9_feed l_L_13 i_X9_feed e_X9_feed ha hS rfl (Nat.le_of_ble_eq_true rfl) rfl dL_law_250) (tX9_feed G fu v1 x5 x6 x7 x8 x9 h) (by decide) (by decide) (fun x11 h10 => ?_)
      refine ev_step (st_aload_n (pc := 253) (j := 2) dL_law_253 rfl rfl) ?_
      refine ev_step (st_aload_n (pc := 254) (j := 0) dL_law_254 rfl rfl) ?_
      refine ev_step (st_iload_n (pc := 255) (j := 3) dL_law_255 rfl rfl) ?_
      refine ev_step (st_iconst (pc := 256) dL_law_256 ni_1) ?_
      refine ev_step (st_iadd (pc := 257) dL_law_257) ?_
      refine ev_ldX (pc := 258) dL_law_258 (fun x12 => ?_)
      refine ev_step (st_aload_n (pc := 259) (j := 0) dL_law_259 rfl rfl) ?_
      refine ev_step (st_iload_n (pc := 260) (j := 3) dL_law_260 rfl rfl) ?_
      refine ev_step (st_iconst (pc := 261) dL_law_261 ni_2) ?_
      refine ev_step (st_iadd (pc := 262) dL_law_262) ?_
      refine ev_ldX (pc := 263) dL_law_263 (fun x13 => ?_)
      refine ev_step (st_aload_n (pc := 264) (j := 0) dL_law_264 rfl rfl) ?_
      refine ev_step (st_iload_n (pc := 265) (j := 3) dL_law_265 rfl rfl) ?_
      refine ev_step (st_iconst (pc := 266) dL_law_266 ni_3) ?_
      refine ev_step (st_iadd (pc := 267) dL_law_267) ?_
      refine ev_ldX (pc := 268) dL_law_268 (fun x14 => ?_)
      refine ev_step (st_aload_n (pc := 269) (j := 0) dL_law_269 rfl rfl) ?_
      refine ev_step (st_iload_n (pc := 270) (j := 3) dL_law_270 rfl rfl) ?_
      refine ev_step (st_iconst (pc := 271) dL_law_271 ni_4) ?_
      refine ev_step (st_iadd (pc := 272) dL_law_272) ?_
      refine ev_ldX (pc := 273) dL_law_273 (fun x15 => ?_)
      refine ev_step (st_aload_n (pc := 274) (j := 0) dL_law_274 rfl rfl) ?_
      refine ev_step (st_iload_n (pc := 275) (j := 3) dL_law_275 rfl rfl) ?_
      refine ev_step (st_iconst (pc := 276) dL_law_276 ni_5) ?_
      refine ev_step (st_iadd (pc := 277) dL_law_277) ?_
      refine ev_ldX (pc := 278) dL_law_278 (fun x16 => ?_)
      refine ev_ck (fun ha hS => ?_)
      refine ev_callI (iv_V (As := [.int x12, .int x13, .int x14, .int x15, .int x16]) (st := [.int x11]) (pc := 279) rfl m_X10_feed l_L_17 i_X10_feed e_X10_feed ha hS rfl (Nat.le_of_ble_eq_true rfl) rfl dL_law_279) (tX10_feed G fu v2 x12 x13 x14 x15 x16 h10) (by decide) (by decide) (fun x18 h17 => ?_)
      refine ev_br (br_icmp_eq (tgt := 1494) (pc := 282) dL_law_282 (by decide)) (fun _ => ?_) (fun _ => ?_)
      · refine ev_sub (ls' := [(0, .ref (gs G).1), (1, .ref (gB G + v1)), (2, .ref (gB G + v2)), (3, .int v3)]) [0, 1, 2, 3] rfl ?_
        exact tL_law_1494 G fu h0 v0 v1 v2 v3 k18 hk18 h17
      · refine ev_step (st_iconst (pc := 285) dL_law_285 ni_0) ?_
        exact ev_zret (pc := 286) dL_law_286
    refine ev_case (n := 1) (c := (1 : Int32)) (off := 254) (tgt := 287) (pc := 33) q4 dL_law_33 (by decide) (by decide) (by decide) (by decide) (by decide) (fun _ => ?_) (fun q19 => ?_)
    · refine ev_step (st_aload_n (pc := 287) (j := 1) dL_law_287 rfl rfl) ?_
      refine ev_step (st_aload_n (pc := 288) (j := 0) dL_law_288 rfl rfl) ?_
      refine ev_step (st_iload_n (pc := 289) (j := 3) dL_law_289 rfl rfl) ?_
      refine ev_step (st_iconst (pc := 290) dL_law_290 ni_1) ?_
      refine ev_step (st_iadd (pc := 291) dL_law_291) ?_
      refine ev_ldX (pc := 292) dL_law_292 (fun x20 => ?_)
      refine ev_ck (fun ha hS => ?_)
      refine ev_callI (iv_V (As := [.int x20]) (st := []) (pc := 293) rfl m_X9_back l_L_18 i_X9_back e_X9_back ha hS rfl (Nat.le_of_ble_eq_true rfl) rfl dL_law_293) (tX9_back G fu v1 x20 h) (by decide) (by decide) (fun x22 h21 => ?_)
      refine ev_step (st_aload_n (pc := 296) (j := 2) dL_law_296 rfl rfl) ?_
      refine ev_step (st_aload_n (pc := 297) (j := 0) dL_law_297 rfl rfl) ?_
      refine ev_step (st_iload_n (pc := 298) (j := 3) dL_law_298 rfl rfl) ?_
      refine ev_step (st_iconst (pc := 299) dL_law_299 ni_1) ?_
      refine ev_step (st_iadd (pc := 300) dL_law_300) ?_
      refine ev_ldX (pc := 301) dL_law_301 (fun x23 => ?_)
      refine ev_ck (fun ha hS => ?_)
      refine ev_callI (iv_V (As := [.int x23]) (st := [.int x22]) (pc := 302) rfl m_X10_back l_L_22 i_X10_back e_X10_back ha hS rfl (Nat.le_of_ble_eq_true rfl) rfl dL_law_302) (tX10_back G fu v2 x23 h21) (by decide) (by decide) (fun x25 h24 => ?_)
      refine ev_br (br_icmp_eq (tgt := 1494) (pc := 305) dL_law_305 (by decide)) (fun _ => ?_) (fun _ => ?_)
      · refine ev_sub (ls' := [(0, .ref (gs G).1), (1, .ref (gB G + v1)), (2, .ref (gB G + v2)), (3, .int v3)]) [0, 1, 2, 3] rfl ?_
        exact tL_law_1494 G fu h0 v0 v1 v2 v3 k18 hk18 h24
      · refine ev_step (st_iconst (pc := 308) dL_law_308 ni_0) ?_
        exact ev_zret (pc := 309) dL_law_309
    refine ev_case (n := 2) (c := (2 : Int32)) (off := 277) (tgt := 310) (pc := 33) q19 dL_law_33 (by decide) (by decide) (by decide) (by decide) (by decide) (fun _ => ?_) (fun q26 => ?_)
    · refine ev_step (st_aload_n (pc := 310) (j := 1) dL_law_310 rfl rfl) ?_
      refine ev_ck (fun ha hS => ?_)
      refine ev_callI (iv_V (As := []) (st := []) (pc := 311) rfl m_X9_read l_L_23 i_X9_read e_X9_read ha hS rfl (Nat.le_of_ble_eq_true rfl) rfl dL_law_311) (tX9_read G fu v1 h) (by decide) (by decide) (fun x28 h27 => ?_)
      refine ev_step (st_aload_n (pc := 314) (j := 2) dL_law_314 rfl rfl) ?_
      refine ev_ck (fun ha hS => ?_)
      refine ev_callI (iv_V (As := []) (st := [.int x28]) (pc := 315) rfl m_X10_read l_L_27 i_X10_read e_X10_read ha hS rfl (Nat.le_of_ble_eq_true rfl) rfl dL_law_315) (tX10_read G fu v2 h27) (by decide) (by decide) (fun x30 h29 => ?_)
      refine ev_br (br_icmp_eq (tgt := 1494) (pc := 318) dL_law_318 (by decide)) (fun _ => ?_) (fun _ => ?_)
      · refine ev_sub (ls' := [(0, .ref (gs G).1), (1, .ref (gB G + v1)), (2, .ref (gB G + v2)), (3, .int v3)]) [0, 1, 2, 3] rfl ?_
        exact tL_law_1494 G fu h0 v0 v1 v2 v3 k18 hk18 h29
      · refine ev_step (st_iconst (pc := 321) dL_law_321 ni_0) ?_
        exact ev_zret (pc := 322) dL_law_322
    refine ev_case (n := 3) (c := (3 : Int32)) (off := 290) (tgt := 323) (pc := 33) q26 dL_law_33 (by decide) (by decide) (by decide) (by decide) (by decide) (fun _ => ?_) (fun q31 => ?_)
    · refine ev_step (st_aload_n (pc := 323) (j := 1) dL_law_323 rfl rfl) ?_
      refine ev_ck (fun ha hS => ?_)
      refine ev_callI (iv_V (As := []) (st := []) (pc := 324) rfl m_X9_place l_L_28 i_X9_place e_X9_place ha hS rfl (Nat.le_of_ble_eq_true rfl) rfl dL_law_324) (tX9_place G fu v1 h) (by decide) (by decide) (fun x33 h32 => ?_)
      refine ev_step (st_aload_n (pc := 327) (j := 2) dL_law_327 rfl rfl) ?_
      refine ev_ck (fun ha hS => ?_)
      refine ev_callI (iv_V (As := []) (st := [.int x33]) (pc := 328) rfl m_X10_place l_L_31 i_X10_place e_X10_place ha hS rfl (Nat.le_of_ble_eq_true rfl) rfl dL_law_328) (tX10_place G fu v2 h32) (by decide) (by decide) (fun x35 h34 => ?_)
      refine ev_br (br_icmp_eq (tgt := 1494) (pc := 331) dL_law_331 (by decide)) (fun _ => ?_) (fun _ => ?_)
      · refine ev_sub (ls' := [(0, .ref (gs G).1), (1, .ref (gB G + v1)), (2, .ref (gB G + v2)), (3, .int v3)]) [0, 1, 2, 3] rfl ?_
        exact tL_law_1494 G fu h0 v0 v1 v2 v3 k18 hk18 h34
      · refine ev_step (st_iconst (pc := 334) dL_law_334 ni_0) ?_
        exact ev_zret (pc := 335) dL_law_335
    refine ev_case (n := 4) (c := (4 : Int32)) (off := 303) (tgt := 336) (pc := 33) q31 dL_law_33 (by decide) (by decide) (by decide) (by decide) (by decide) (fun _ => ?_) (fun q36 => ?_)
    · refine ev_step (st_aload_n (pc := 336) (j := 1) dL_law_336 rfl rfl) ?_
      refine ev_step (st_aload_n (pc := 337) (j := 0) dL_law_337 rfl rfl) ?_
      refine ev_step (st_iload_n (pc := 338) (j := 3) dL_law_338 rfl rfl) ?_
      refine ev_step (st_iconst (pc := 339) dL_law_339 ni_1) ?_
      refine ev_step (st_iadd (pc := 340) dL_law_340) ?_
      refine ev_ldX (pc := 341) dL_law_341 (fun x37 => ?_)
      refine ev_step (st_aload_n (pc := 342) (j := 0) dL_law_342 rfl rfl) ?_
      refine ev_step (st_iload_n (pc := 343) (j := 3) dL_law_343 rfl rfl) ?_
      refine ev_step (st_iconst (pc := 344) dL_law_344 ni_2) ?_
      refine ev_step (st_iadd (pc := 345) dL_law_345) ?_
      refine ev_ldX (pc := 346) dL_law_346 (fun x38 => ?_)
      refine ev_ck (fun ha hS => ?_)
      refine ev_callI (iv_V (As := [.int x37, .int x38]) (st := []) (pc := 347) rfl m_X9_role l_L_32 i_X9_role e_X9_role ha hS rfl (Nat.le_of_ble_eq_true rfl) rfl dL_law_347) (tX9_role G fu v1 x37 x38 h) (by decide) (by decide) (fun x40 h39 => ?_)
      refine ev_step (st_aload_n (pc := 350) (j := 2) dL_law_350 rfl rfl) ?_
      refine ev_step (st_aload_n (pc := 351) (j := 0) dL_law_351 rfl rfl) ?_
      refine ev_step (st_iload_n (pc := 352) (j := 3) dL_law_352 rfl rfl) ?_
      refine ev_step (st_iconst (pc := 353) dL_law_353 ni_1) ?_
      refine ev_step (st_iadd (pc := 354) dL_law_354) ?_
      refine ev_ldX (pc := 355) dL_law_355 (fun x41 => ?_)
      refine ev_step (st_aload_n (pc := 356) (j := 0) dL_law_356 rfl rfl) ?_
      refine ev_step (st_iload_n (pc := 357) (j := 3) dL_law_357 rfl rfl) ?_
      refine ev_step (st_iconst (pc := 358) dL_law_358 ni_2) ?_
      refine ev_step (st_iadd (pc := 359) dL_law_359) ?_
      refine ev_ldX (pc := 360) dL_law_360 (fun x42 => ?_)
      refine ev_ck (fun ha hS => ?_)
      refine ev_callI (iv_V (As := [.int x41, .int x42]) (st := [.int x40]) (pc := 361) rfl m_X10_role l_L_36 i_X10_role e_X10_role ha hS rfl (Nat.le_of_ble_eq_true rfl) rfl dL_law_361) (tX10_role G fu v2 x41 x42 h39) (by decide) (by decide) (fun x44 h43 => ?_)
      refine ev_br (br_icmp_eq (tgt := 1494) (pc := 364) dL_law_364 (by decide)) (fun _ => ?_) (fun _ => ?_)
      · refine ev_sub (ls' := [(0, .ref (gs G).1), (1, .ref (gB G + v1)), (2, .ref (gB G + v2)), (3, .int v3)]) [0, 1, 2, 3] rfl ?_
        exact tL_law_1494 G fu h0 v0 v1 v2 v3 k18 hk18 h43
      · refine ev_step (st_iconst (pc := 367) dL_law_367 ni_0) ?_
        exact ev_zret (pc := 368) dL_law_368
    refine ev_case (n := 5) (c := (5 : Int32)) (off := 336) (tgt := 369) (pc := 33) q36 dL_law_33 (by decide) (by decide) (by decide) (by decide) (by decide) (fun _ => ?_) (fun q45 => ?_)
    · refine ev_step (st_aload_n (pc := 369) (j := 1) dL_law_369 rfl rfl) ?_
      refine ev_step (st_aload_n (pc := 370) (j := 0) dL_law_370 rfl rfl) ?_
      refine ev_step (st_iload_n (pc := 371) (j := 3) dL_law_371 rfl rfl) ?_
      refine ev_step (st_iconst (pc := 372) dL_law_372 ni_1) ?_
      refine ev_step (st_iadd (pc := 373) dL_law_373) ?_
      refine ev_ldX (pc := 374) dL_law_374 (fun x46 => ?_)
      refine ev_step (st_aload_n (pc := 375) (j := 0) dL_law_375 rfl rfl) ?_
      refine ev_step (st_iload_n (pc := 376) (j := 3) dL_law_376 rfl rfl) ?_
      refine ev_step (st_iconst (pc := 377) dL_law_377 ni_2) ?_
      refine ev_step (st_iadd (pc := 378) dL_law_378) ?_
      refine ev_ldX (pc := 379) dL_law_379 (fun x47 => ?_)
      refine ev_ck (fun ha hS => ?_)
      refine ev_callI (iv_V (As := [.int x46, .int x47]) (st := []) (pc := 380) rfl m_X9_listener l_L_37 i_X9_listener e_X9_listener ha hS rfl (Nat.le_of_ble_eq_true rfl) rfl dL_law_380) (tX9_listener G fu v1 x46 x47 h) (by decide) (by decide) (fun x49 h48 => ?_)
      refine ev_step (st_aload_n (pc := 383) (j := 2) dL_law_383 rfl rfl) ?_
      refine ev_step (st_aload_n (pc := 384) (j := 0) dL_law_384 rfl rfl) ?_
      refine ev_step (st_iload_n (pc := 385) (j := 3) dL_law_385 rfl rfl) ?_
      refine ev_step (st_iconst (pc := 386) dL_law_386 ni_1) ?_
      refine ev_step (st_iadd (pc := 387) dL_law_387) ?_
      refine ev_ldX (pc := 388) dL_law_388 (fun x50 => ?_)
      refine ev_step (st_aload_n (pc := 389) (j := 0) dL_law_389 rfl rfl) ?_
      refine ev_step (st_iload_n (pc := 390) (j := 3) dL_law_390 rfl rfl) ?_
      refine ev_step (st_iconst (pc := 391) dL_law_391 ni_2) ?_
      refine ev_step (st_iadd (pc := 392) dL_law_392) ?_
      refine ev_ldX (pc := 393) dL_law_393 (fun x51 => ?_)
      refine ev_ck (fun ha hS => ?_)
      refine ev_callI (iv_V (As := [.int x50, .int x51]) (st := [.int x49]) (pc := 394) rfl m_X10_listener l_L_40 i_X10_listener e_X10_listener ha hS rfl (Nat.le_of_ble_eq_true rfl) rfl dL_law_394) (tX10_listener G fu v2 x50 x51 h48) (by decide) (by decide) (fun x53 h52 => ?_)
      refine ev_br (br_icmp_eq (tgt := 1494) (pc := 397) dL_law_397 (by decide)) (fun _ => ?_) (fun _ => ?_)
      · refine ev_sub (ls' := [(0, .ref (gs G).1), (1, .ref (gB G + v1)), (2, .ref (gB G + v2)), (3, .int v3)]) [0, 1, 2, 3] rfl ?_
        exact tL_law_1494 G fu h0 v0 v1 v2 v3 k18 hk18 h52
      · refine ev_step (st_iconst (pc := 400) dL_law_400 ni_0) ?_
        exact ev_zret (pc := 401) dL_law_401
    refine ev_case (n := 6) (c := (6 : Int32)) (off := 369) (tgt := 402) (pc := 33) q45 dL_law_33 (by decide) (by decide) (by decide) (by decide) (by decide) (fun _ => ?_) (fun q54 => ?_)
    · refine ev_step (st_aload_n (pc := 402) (j := 1) dL_law_402 rfl rfl) ?_
      refine ev_step (st_aload_n (pc := 403) (j := 0) dL_law_403 rfl rfl) ?_
      refine ev_step (st_iload_n (pc := 404) (j := 3) dL_law_404 rfl rfl) ?_
      refine ev_step (st_iconst (pc := 405) dL_law_405 ni_1) ?_
      refine ev_step (st_iadd (pc := 406) dL_law_406) ?_
      refine ev_ldX (pc := 407) dL_law_407 (fun x55 => ?_)
      refine ev_step (st_aload_n (pc := 408) (j := 0) dL_law_408 rfl rfl) ?_
      refine ev_step (st_iload_n (pc := 409) (j := 3) dL_law_409 rfl rfl) ?_
      refine ev_step (st_iconst (pc := 410) dL_law_410 ni_2) ?_
      refine ev_step (st_iadd (pc := 411) dL_law_411) ?_
      refine ev_ldX (pc := 412) dL_law_412 (fun x56 => ?_)
      refine ev_step (st_aload_n (pc := 413) (j := 0) dL_law_413 rfl rfl) ?_
      refine ev_step (st_iload_n (pc := 414) (j := 3) dL_law_414 rfl rfl) ?_
      refine ev_step (st_iconst (pc := 415) dL_law_415 ni_3) ?_
      refine ev_step (st_iadd (pc := 416) dL_law_416) ?_
      refine ev_ldX (pc := 417) dL_law_417 (fun x57 => ?_)
      refine ev_ck (fun ha hS => ?_)
      refine ev_callI (iv_V (As := [.int x55, .int x56, .int x57]) (st := []) (pc := 418) rfl m_X9_tells l_L_41 i_X9_tells e_X9_tells ha hS rfl (Nat.le_of_ble_eq_true rfl) rfl dL_law_418) (tX9_tells G fu v1 x55 x56 x57 h) (by decide) (by decide) (fun x59 h58 => ?_)
      refine ev_step (st_aload_n (pc := 421) (j := 2) dL_law_421 rfl rfl) ?_
      refine ev_step (st_aload_n (pc := 422) (j := 0) dL_law_422 rfl rfl) ?_
      refine ev_step (st_iload_n (pc := 423) (j := 3) dL_law_423 rfl rfl) ?_
      refine ev_step (st_iconst (pc := 424) dL_law_424 ni_1) ?_
      refine ev_step (st_iadd (pc := 425) dL_law_425) ?_
      refine ev_ldX (pc := 426) dL_law_426 (fun x60 => ?_)
      refine ev_step (st_aload_n (pc := 427) (j := 0) dL_law_427 rfl rfl) ?_
      refine ev_step (st_iload_n (pc := 428) (j := 3) dL_law_428 rfl rfl) ?_
      refine ev_step (st_iconst (pc := 429) dL_law_429 ni_2) ?_
      refine ev_step (st_iadd (pc := 430) dL_law_430) ?_
      refine ev_ldX (pc := 431) dL_law_431 (fun x61 => ?_)
      refine ev_step (st_aload_n (pc := 432) (j := 0) dL_law_432 rfl rfl) ?_
      refine ev_step (st_iload_n (pc := 433) (j := 3) dL_law_433 rfl rfl) ?_
      refine ev_step (st_iconst (pc := 434) dL_law_434 ni_3) ?_
      refine ev_step (st_iadd (pc := 435) dL_law_435) ?_
      refine ev_ldX (pc := 436) dL_law_436 (fun x62 => ?_)
      refine ev_ck (fun ha hS => ?_)
      refine ev_callI (iv_V (As := [.int x60, .int x61, .int x62]) (st := [.int x59]) (pc := 437) rfl m_X10_tells l_L_45 i_X10_tells e_X10_tells ha hS rfl (Nat.le_of_ble_eq_true rfl) rfl dL_law_437) (tX10_tells G fu v2 x60 x61 x62 h58) (by decide) (by decide) (fun x64 h63 => ?_)
      refine ev_br (br_icmp_eq (tgt := 1494) (pc := 440) dL_law_440 (by decide)) (fun _ => ?_) (fun _ => ?_)
      · refine ev_sub (ls' := [(0, .ref (gs G).1), (1, .ref (gB G + v1)), (2, .ref (gB G + v2)), (3, .int v3)]) [0, 1, 2, 3] rfl ?_
        exact tL_law_1494 G fu h0 v0 v1 v2 v3 k18 hk18 h63
      · refine ev_step (st_iconst (pc := 443) dL_law_443 ni_0) ?_
        exact ev_zret (pc := 444) dL_law_444
    refine ev_case (n := 7) (c := (7 : Int32)) (off := 412) (tgt := 445) (pc := 33) q54 dL_law_33 (by decide) (by decide) (by decide) (by decide) (by decide) (fun _ => ?_) (fun q65 => ?_)
    · refine ev_step (st_aload_n (pc := 445) (j := 1) dL_law_445 rfl rfl) ?_
      refine ev_step (st_aload_n (pc := 446) (j := 0) dL_law_446 rfl rfl) ?_
      refine ev_step (st_iload_n (pc := 447) (j := 3) dL_law_447 rfl rfl) ?_
      refine ev_step (st_iconst (pc := 448) dL_law_448 ni_1) ?_
      refine ev_step (st_iadd (pc := 449) dL_law_449) ?_
      refine ev_ldX (pc := 450) dL_law_450 (fun x66 => ?_)
      refine ev_ck (fun ha hS => ?_)
      refine ev_callI (iv_V (As := [.int x66]) (st := []) (pc := 451) rfl m_X9_announce l_L_46 i_X9_announce e_X9_announce ha hS rfl (Nat.le_of_ble_eq_true rfl) rfl dL_law_451) (tX9_announce G fu v1 x66 h) (by decide) (by decide) (fun x68 h67 => ?_)
      refine ev_step (st_aload_n (pc := 454) (j := 2) dL_law_454 rfl rfl) ?_
      refine ev_step (st_aload_n (pc := 455) (j := 0) dL_law_455 rfl rfl) ?_
      refine ev_step (st_iload_n (pc := 456) (j := 3) dL_law_456 rfl rfl) ?_
      refine ev_step (st_iconst (pc := 457) dL_law_457 ni_1) ?_
      refine ev_step (st_iadd (pc := 458) dL_law_458) ?_
      refine ev_ldX (pc := 459) dL_law_459 (fun x69 => ?_)
      refine ev_ck (fun ha hS => ?_)
      refine ev_callI (iv_V (As := [.int x69]) (st := [.int x68]) (pc := 460) rfl m_X10_announce l_L_50 i_X10_announce e_X10_announce ha hS rfl (Nat.le_of_ble_eq_true rfl) rfl dL_law_460) (tX10_announce G fu v2 x69 h67) (by decide) (by decide) (fun x71 h70 => ?_)
      refine ev_br (br_icmp_eq (tgt := 1494) (pc := 463) dL_law_463 (by decide)) (fun _ => ?_) (fun _ => ?_)
      · refine ev_sub (ls' := [(0, .ref (gs G).1), (1, .ref (gB G + v1)), (2, .ref (gB G + v2)), (3, .int v3)]) [0, 1, 2, 3] rfl ?_
        exact tL_law_1494 G fu h0 v0 v1 v2 v3 k18 hk18 h70
      · refine ev_step (st_iconst (pc := 466) dL_law_466 ni_0) ?_
        exact ev_zret (pc := 467) dL_law_467
    refine ev_case (n := 8) (c := (8 : Int32)) (off := 435) (tgt := 468) (pc := 33) q65 dL_law_33 (by decide) (by decide) (by decide) (by decide) (by decide) (fun _ => ?_) (fun q72 => ?_)
    · refine ev_step (st_aload_n (pc := 468) (j := 1) dL_law_468 rfl rfl) ?_
      refine ev_step (st_aload_n (pc := 469) (j := 0) dL_law_469 rfl rfl) ?_
      refine ev_step (st_iload_n (pc := 470) (j := 3) dL_law_470 rfl rfl) ?_
      refine ev_step (st_iconst (pc := 471) dL_law_471 ni_1) ?_
      refine ev_step (st_iadd (pc := 472) dL_law_472) ?_
      refine ev_ldX (pc := 473) dL_law_473 (fun x73 => ?_)
      refine ev_step (st_aload_n (pc := 474) (j := 0) dL_law_474 rfl rfl) ?_
      refine ev_step (st_iload_n (pc := 475) (j := 3) dL_law_475 rfl rfl) ?_
      refine ev_step (st_iconst (pc := 476) dL_law_476 ni_2) ?_
      refine ev_step (st_iadd (pc := 477) dL_law_477) ?_
      refine ev_ldX (pc := 478) dL_law_478 (fun x74 => ?_)
      refine ev_br (br_if_eq (tgt := 486) (pc := 479) dL_law_479 (by decide)) (fun _ => ?_) (fun _ => ?_)
      · refine ev_step (st_iconst (pc := 486) dL_law_486 ni_0) ?_
        refine ev_sub (ls' := [(0, .ref (gs G).1), (1, .ref (gB G + v1)), (2, .ref (gB G + v2)), (3, .int v3)]) [0, 1, 2, 3] rfl ?_
        exact tL_law_487 G fu h0 v0 v1 v2 v3 v1 x73 ((0 : Int32)) k18 hk18 h
      · refine ev_step (st_iconst (pc := 482) dL_law_482 ni_1) ?_
        refine ev_step (st_goto (pc := 483) (tgt := 487) dL_law_483 (by decide)) ?_
        refine ev_sub (ls' := [(0, .ref (gs G).1), (1, .ref (gB G + v1)), (2, .ref (gB G + v2)), (3, .int v3)]) [0, 1, 2, 3] rfl ?_
        exact tL_law_487 G fu h0 v0 v1 v2 v3 v1 x73 ((1 : Int32)) k18 hk18 h
    refine ev_case (n := 9) (c := (9 : Int32)) (off := 484) (tgt := 517) (pc := 33) q72 dL_law_33 (by decide) (by decide) (by decide) (by decide) (by decide) (fun _ => ?_) (fun q75 => ?_)
    · refine ev_step (st_aload_n (pc := 517) (j := 1) dL_law_517 rfl rfl) ?_
      refine ev_step (st_aload_n (pc := 518) (j := 0) dL_law_518 rfl rfl) ?_
      refine ev_step (st_iload_n (pc := 519) (j := 3) dL_law_519 rfl rfl) ?_
      refine ev_step (st_iconst (pc := 520) dL_law_520 ni_1) ?_
      refine ev_step (st_iadd (pc := 521) dL_law_521) ?_
      refine ev_ldX (pc := 522) dL_law_522 (fun x76 => ?_)
      refine ev_step (st_aload_n (pc := 523) (j := 0) dL_law_523 rfl rfl) ?_
      refine ev_step (st_iload_n (pc := 524) (j := 3) dL_law_524 rfl rfl) ?_
      refine ev_step (st_iconst (pc := 525) dL_law_525 ni_2) ?_
      refine ev_step (st_iadd (pc := 526) dL_law_526) ?_
      refine ev_ldX (pc := 527) dL_law_527 (fun x77 => ?_)
      refine ev_ck (fun ha hS => ?_)
      refine ev_callI (iv_V (As := [.int x76, .int x77]) (st := []) (pc := 528) rfl m_X9_inform l_L_56 i_X9_inform e_X9_inform ha hS rfl (Nat.le_of_ble_eq_true rfl) rfl dL_law_528) (tX9_inform G fu v1 x76 x77 h) (by decide) (by decide) (fun x79 h78 => ?_)
      refine ev_step (st_aload_n (pc := 531) (j := 2) dL_law_531 rfl rfl) ?_
      refine ev_step (st_aload_n (pc := 532) (j := 0) dL_law_532 rfl rfl) ?_
      refine ev_step (st_iload_n (pc := 533) (j := 3) dL_law_533 rfl rfl) ?_
      refine ev_step (st_iconst (pc := 534) dL_law_534 ni_1) ?_
      refine ev_step (st_iadd (pc := 535) dL_law_535) ?_
      refine ev_ldX (pc := 536) dL_law_536 (fun x80 => ?_)
      refine ev_step (st_aload_n (pc := 537) (j := 0) dL_law_537 rfl rfl) ?_
      refine ev_step (st_iload_n (pc := 538) (j := 3) dL_law_538 rfl rfl) ?_
      refine ev_step (st_iconst (pc := 539) dL_law_539 ni_2) ?_
      refine ev_step (st_iadd (pc := 540) dL_law_540) ?_
      refine ev_ldX (pc := 541) dL_law_541 (fun x81 => ?_)
      refine ev_ck (fun ha hS => ?_)
      refine ev_callI (iv_V (As := [.int x80, .int x81]) (st := [.int x79]) (pc := 542) rfl m_X10_inform l_L_60 i_X10_inform e_X10_inform ha hS rfl (Nat.le_of_ble_eq_true rfl) rfl dL_law_542) (tX10_inform G fu v2 x80 x81 h78) (by decide) (by decide) (fun x83 h82 => ?_)
      refine ev_br (br_icmp_eq (tgt := 1494) (pc := 545) dL_law_545 (by decide)) (fun _ => ?_) (fun _ => ?_)
      · refine ev_sub (ls' := [(0, .ref (gs G).1), (1, .ref (gB G + v1)), (2, .ref (gB G + v2)), (3, .int v3)]) [0, 1, 2, 3] rfl ?_
        exact tL_law_1494 G fu h0 v0 v1 v2 v3 k18 hk18 h82
      · refine ev_step (st_iconst (pc := 548) dL_law_548 ni_0) ?_
        exact ev_zret (pc := 549) dL_law_549
    refine ev_case (n := 10) (c := (10 : Int32)) (off := 517) (tgt := 550) (pc := 33) q75 dL_law_33 (by decide) (by decide) (by decide) (by decide) (by decide) (fun _ => ?_) (fun q84 => ?_)
    · refine ev_step (st_aload_n (pc := 550) (j := 1) dL_law_550 rfl rfl) ?_
      refine ev_step (st_aload_n (pc := 551) (j := 0) dL_law_551 rfl rfl) ?_
      refine ev_step (st_iload_n (pc := 552) (j := 3) dL_law_552 rfl rfl) ?_
      refine ev_step (st_iconst (pc := 553) dL_law_553 ni_1) ?_
      refine ev_step (st_iadd (pc := 554) dL_law_554) ?_
      refine ev_ldX (pc := 555) dL_law_555 (fun x85 => ?_)
      refine ev_step (st_aload_n (pc := 556) (j := 0) dL_law_556 rfl rfl) ?_
      refine ev_step (st_iload_n (pc := 557) (j := 3) dL_law_557 rfl rfl) ?_
      refine ev_step (st_iconst (pc := 558) dL_law_558 ni_2) ?_
      refine ev_step (st_iadd (pc := 559) dL_law_559) ?_
      refine ev_ldX (pc := 560) dL_law_560 (fun x86 => ?_)
      refine ev_ck (fun ha hS => ?_)
      refine ev_callI (iv_V (As := [.int x85, .int x86]) (st := []) (pc := 561) rfl m_X9_talk l_L_61 i_X9_talk e_X9_talk ha hS rfl (Nat.le_of_ble_eq_true rfl) rfl dL_law_561) (tX9_talk G fu v1 x85 x86 h) (by decide) (by decide) (fun x88 h87 => ?_)
      refine ev_step (st_aload_n (pc := 564) (j := 2) dL_law_564 rfl rfl) ?_
      refine ev_step (st_aload_n (pc := 565) (j := 0) dL_law_565 rfl rfl) ?_
      refine ev_step (st_iload_n (pc := 566) (j := 3) dL_law_566 rfl rfl) ?_
      refine ev_step (st_iconst (pc := 567) dL_law_567 ni_1) ?_
      refine ev_step (st_iadd (pc := 568) dL_law_568) ?_
      refine ev_ldX (pc := 569) dL_law_569 (fun x89 => ?_)
      refine ev_step (st_aload_n (pc := 570) (j := 0) dL_law_570 rfl rfl) ?_
      refine ev_step (st_iload_n (pc := 571) (j := 3) dL_law_571 rfl rfl) ?_
      refine ev_step (st_iconst (pc := 572) dL_law_572 ni_2) ?_
      refine ev_step (st_iadd (pc := 573) dL_law_573) ?_
      refine ev_ldX (pc := 574) dL_law_574 (fun x90 => ?_)
      refine ev_ck (fun ha hS => ?_)
      refine ev_callI (iv_V (As := [.int x89, .int x90]) (st := [.int x88]) (pc := 575) rfl m_X10_talk l_L_64 i_X10_talk e_X10_talk ha hS rfl (Nat.le_of_ble_eq_true rfl) rfl dL_law_575) (tX10_talk G fu v2 x89 x90 h87) (by decide) (by decide) (fun x92 h91 => ?_)
      refine ev_br (br_icmp_eq (tgt := 1494) (pc := 578) dL_law_578 (by decide)) (fun _ => ?_) (fun _ => ?_)
      · refine ev_sub (ls' := [(0, .ref (gs G).1), (1, .ref (gB G + v1)), (2, .ref (gB G + v2)), (3, .int v3)]) [0, 1, 2, 3] rfl ?_
        exact tL_law_1494 G fu h0 v0 v1 v2 v3 k18 hk18 h91
      · refine ev_step (st_iconst (pc := 581) dL_law_581 ni_0) ?_
        exact ev_zret (pc := 582) dL_law_582
    refine ev_case (n := 11) (c := (11 : Int32)) (off := 550) (tgt := 583) (pc := 33) q84 dL_law_33 (by decide) (by decide) (by decide) (by decide) (by decide) (fun _ => ?_) (fun q93 => ?_)
    · refine ev_step (st_aload_n (pc := 583) (j := 1) dL_law_583 rfl rfl) ?_
      refine ev_step (st_aload_n (pc := 584) (j := 0) dL_law_584 rfl rfl) ?_
      refine ev_step (st_iload_n (pc := 585) (j := 3) dL_law_585 rfl rfl) ?_
      refine ev_step (st_iconst (pc := 586) dL_law_586 ni_1) ?_
      refine ev_step (st_iadd (pc := 587) dL_law_587) ?_
      refine ev_ldX (pc := 588) dL_law_588 (fun x94 => ?_)
      refine ev_ck (fun ha hS => ?_)
      refine ev_callI (iv_V (As := [.int x94]) (st := []) (pc := 589) rfl m_X9_evenings l_L_65 i_X9_evenings e_X9_evenings ha hS rfl (Nat.le_of_ble_eq_true rfl) rfl dL_law_589) (tX9_evenings G fu v1 x94 h) (by decide) (by decide) (fun x96 h95 => ?_)
      refine ev_step (st_aload_n (pc := 592) (j := 2) dL_law_592 rfl rfl) ?_
      refine ev_step (st_aload_n (pc := 593) (j := 0) dL_law_593 rfl rfl) ?_
      refine ev_step (st_iload_n (pc := 594) (j := 3) dL_law_594 rfl rfl) ?_
      refine ev_step (st_iconst (pc := 595) dL_law_595 ni_1) ?_
      refine ev_step (st_iadd (pc := 596) dL_law_596) ?_
      refine ev_ldX (pc := 597) dL_law_597 (fun x97 => ?_)
      refine ev_ck (fun ha hS => ?_)
      refine ev_callI (iv_V (As := [.int x97]) (st := [.int x96]) (pc := 598) rfl m_X10_evenings l_L_68 i_X10_evenings e_X10_evenings ha hS rfl (Nat.le_of_ble_eq_true rfl) rfl dL_law_598) (tX10_evenings G fu v2 x97 h95) (by decide) (by decide) (fun x99 h98 => ?_)
      refine ev_br (br_icmp_eq (tgt := 1494) (pc := 601) dL_law_601 (by decide)) (fun _ => ?_) (fun _ => ?_)
      · refine ev_sub (ls' := [(0, .ref (gs G).1), (1, .ref (gB G + v1)), (2, .ref (gB G + v2)), (3, .int v3)]) [0, 1, 2, 3] rfl ?_
        exact tL_law_1494 G fu h0 v0 v1 v2 v3 k18 hk18 h98
      · refine ev_step (st_iconst (pc := 604) dL_law_604 ni_0) ?_
        exact ev_zret (pc := 605) dL_law_605
    refine ev_case (n := 12) (c := (12 : Int32)) (off := 573) (tgt := 606) (pc := 33) q93 dL_law_33 (by decide) (by decide) (by decide) (by decide) (by decide) (fun _ => ?_) (fun q100 => ?_)
    · refine ev_step (st_aload_n (pc := 606) (j := 1) dL_law_606 rfl rfl) ?_
      refine ev_ck (fun ha hS => ?_)
      refine ev_callI (iv_V (As := []) (st := []) (pc := 607) rfl m_X9_undo l_L_69 i_X9_undo e_X9_undo ha hS rfl (Nat.le_of_ble_eq_true rfl) rfl dL_law_607) (tX9_undo G fu v1 h) (by decide) (by decide) (fun x102 h101 => ?_)
      refine ev_step (st_aload_n (pc := 610) (j := 2) dL_law_610 rfl rfl) ?_
      refine ev_ck (fun ha hS => ?_)
      refine ev_callI (iv_V (As := []) (st := [.int x102]) (pc := 611) rfl m_X10_undo l_L_73 i_X10_undo e_X10_undo ha hS rfl (Nat.le_of_ble_eq_true rfl) rfl dL_law_611) (tX10_undo G fu v2 h101) (by decide) (by decide) (fun x104 h103 => ?_)
      refine ev_br (br_icmp_eq (tgt := 1494) (pc := 614) dL_law_614 (by decide)) (fun _ => ?_) (fun _ => ?_)
      · refine ev_sub (ls' := [(0, .ref (gs G).1), (1, .ref (gB G + v1)), (2, .ref (gB G + v2)), (3, .int v3)]) [0, 1, 2, 3] rfl ?_
        exact tL_law_1494 G fu h0 v0 v1 v2 v3 k18 hk18 h103
      · refine ev_step (st_iconst (pc := 617) dL_law_617 ni_0) ?_
        exact ev_zret (pc := 618) dL_law_618
    refine ev_case (n := 13) (c := (13 : Int32)) (off := 586) (tgt := 619) (pc := 33) q100 dL_law_33 (by decide) (by decide) (by decide) (by decide) (by decide) (fun _ => ?_) (fun q105 => ?_)
    · refine ev_step (st_aload_n (pc := 619) (j := 1) dL_law_619 rfl rfl) ?_
      refine ev_step (st_aload_n (pc := 620) (j := 0) dL_law_620 rfl rfl) ?_
      refine ev_step (st_iload_n (pc := 621) (j := 3) dL_law_621 rfl rfl) ?_
      refine ev_step (st_iconst (pc := 622) dL_law_622 ni_1) ?_
      refine ev_step (st_iadd (pc := 623) dL_law_623) ?_
      refine ev_ldX (pc := 624) dL_law_624 (fun x106 => ?_)
      refine ev_step (st_aload_n (pc := 625) (j := 0) dL_law_625 rfl rfl) ?_
      refine ev_step (st_iload_n (pc := 626) (j := 3) dL_law_626 rfl rfl) ?_
      refine ev_step (st_iconst (pc := 627) dL_law_627 ni_2) ?_
      refine ev_step (st_iadd (pc := 628) dL_law_628) ?_
      refine ev_ldX (pc := 629) dL_law_629 (fun x107 => ?_)
      refine ev_ck (fun ha hS => ?_)
      refine ev_callI (iv_V (As := [.int x106, .int x107]) (st := []) (pc := 630) rfl m_X9_tonight l_L_74 i_X9_tonight e_X9_tonight ha hS rfl (Nat.le_of_ble_eq_true rfl) rfl dL_law_630) (tX9_tonight G fu v1 x106 x107 h) (by decide) (by decide) (fun x109 h108 => ?_)
      refine ev_step (st_aload_n (pc := 633) (j := 2) dL_law_633 rfl rfl) ?_
      refine ev_step (st_aload_n (pc := 634) (j := 0) dL_law_634 rfl rfl) ?_
      refine ev_step (st_iload_n (pc := 635) (j := 3) dL_law_635 rfl rfl) ?_
      refine ev_step (st_iconst (pc := 636) dL_law_636 ni_1) ?_
      refine ev_step (st_iadd (pc := 637) dL_law_637) ?_
      refine ev_ldX (pc := 638) dL_law_638 (fun x110 => ?_)
      refine ev_step (st_aload_n (pc := 639) (j := 0) dL_law_639 rfl rfl) ?_
      refine ev_step (st_iload_n (pc := 640) (j := 3) dL_law_640 rfl rfl) ?_
      refine ev_step (st_iconst (pc := 641) dL_law_641 ni_2) ?_
      refine ev_step (st_iadd (pc := 642) dL_law_642) ?_
      refine ev_ldX (pc := 643) dL_law_643 (fun x111 => ?_)
      refine ev_ck (fun ha hS => ?_)
      refine ev_callI (iv_V (As := [.int x110, .int x111]) (st := [.int x109]) (pc := 644) rfl m_X10_tonight l_L_77 i_X10_tonight e_X10_tonight ha hS rfl (Nat.le_of_ble_eq_true rfl) rfl dL_law_644) (tX10_tonight G fu v2 x110 x111 h108) (by decide) (by decide) (fun x113 h112 => ?_)
      refine ev_br (br_icmp_eq (tgt := 1494) (pc := 647) dL_law_647 (by decide)) (fun _ => ?_) (fun _ => ?_)
      · refine ev_sub (ls' := [(0, .ref (gs G).1), (1, .ref (gB G + v1)), (2, .ref (gB G + v2)), (3, .int v3)]) [0, 1, 2, 3] rfl ?_
        exact tL_law_1494 G fu h0 v0 v1 v2 v3 k18 hk18 h112
      · refine ev_step (st_iconst (pc := 650) dL_law_650 ni_0) ?_
        exact ev_zret (pc := 651) dL_law_651
    refine ev_case (n := 14) (c := (14 : Int32)) (off := 619) (tgt := 652) (pc := 33) q105 dL_law_33 (by decide) (by decide) (by decide) (by decide) (by decide) (fun _ => ?_) (fun q114 => ?_)
    · refine ev_step (st_aload_n (pc := 652) (j := 1) dL_law_652 rfl rfl) ?_
      refine ev_step (st_aload_n (pc := 653) (j := 0) dL_law_653 rfl rfl) ?_
      refine ev_step (st_iload_n (pc := 654) (j := 3) dL_law_654 rfl rfl) ?_
      refine ev_step (st_iconst (pc := 655) dL_law_655 ni_1) ?_
      refine ev_step (st_iadd (pc := 656) dL_law_656) ?_
      refine ev_ldX (pc := 657) dL_law_657 (fun x115 => ?_)
      refine ev_ck (fun ha hS => ?_)
      refine ev_callI (iv_V (As := [.int x115]) (st := []) (pc := 658) rfl m_X9_best l_L_78 i_X9_best e_X9_best ha hS rfl (Nat.le_of_ble_eq_true rfl) rfl dL_law_658) (tX9_best G fu v1 x115 h) (by decide) (by decide) (fun x117 h116 => ?_)
      refine ev_step (st_aload_n (pc := 661) (j := 2) dL_law_661 rfl rfl) ?_
      refine ev_step (st_aload_n (pc := 662) (j := 0) dL_law_662 rfl rfl) ?_
      refine ev_step (st_iload_n (pc := 663) (j := 3) dL_law_663 rfl rfl) ?_
      refine ev_step (st_iconst (pc := 664) dL_law_664 ni_1) ?_
      refine ev_step (st_iadd (pc := 665) dL_law_665) ?_
      refine ev_ldX (pc := 666) dL_law_666 (fun x118 => ?_)
      refine ev_ck (fun ha hS => ?_)
      refine ev_callI (iv_V (As := [.int x118]) (st := [.int x117]) (pc := 667) rfl m_X10_best l_L_81 i_X10_best e_X10_best ha hS rfl (Nat.le_of_ble_eq_true rfl) rfl dL_law_667) (tX10_best G fu v2 x118 h116) (by decide) (by decide) (fun x120 h119 => ?_)
      refine ev_br (br_icmp_eq (tgt := 1494) (pc := 670) dL_law_670 (by decide)) (fun _ => ?_) (fun _ => ?_)
      · refine ev_sub (ls' := [(0, .ref (gs G).1), (1, .ref (gB G + v1)), (2, .ref (gB G + v2)), (3, .int v3)]) [0, 1, 2, 3] rfl ?_
        exact tL_law_1494 G fu h0 v0 v1 v2 v3 k18 hk18 h119
      · refine ev_step (st_iconst (pc := 673) dL_law_673 ni_0) ?_
        exact ev_zret (pc := 674) dL_law_674
    refine ev_case (n := 15) (c := (15 : Int32)) (off := 642) (tgt := 675) (pc := 33) q114 dL_law_33 (by decide) (by decide) (by decide) (by decide) (by decide) (fun _ => ?_) (fun q121 => ?_)
    · refine ev_step (st_aload_n (pc := 675) (j := 1) dL_law_675 rfl rfl) ?_
      refine ev_step (st_aload_n (pc := 676) (j := 0) dL_law_676 rfl rfl) ?_
      refine ev_step (st_iload_n (pc := 677) (j := 3) dL_law_677 rfl rfl) ?_
      refine ev_step (st_iconst (pc := 678) dL_law_678 ni_1) ?_
      refine ev_step (st_iadd (pc := 679) dL_law_679) ?_
      refine ev_ldX (pc := 680) dL_law_680 (fun x122 => ?_)
      refine ev_step (st_aload_n (pc := 681) (j := 0) dL_law_681 rfl rfl) ?_
      refine ev_step (st_iload_n (pc := 682) (j := 3) dL_law_682 rfl rfl) ?_
      refine ev_step (st_iconst (pc := 683) dL_law_683 ni_2) ?_
      refine ev_step (st_iadd (pc := 684) dL_law_684) ?_
      refine ev_ldX (pc := 685) dL_law_685 (fun x123 => ?_)
      refine ev_ck (fun ha hS => ?_)
      refine ev_callI (iv_V (As := [.int x122, .int x123]) (st := []) (pc := 686) rfl m_X9_plan l_L_82 i_X9_plan e_X9_plan ha hS rfl (Nat.le_of_ble_eq_true rfl) rfl dL_law_686) (tX9_plan G fu v1 x122 x123 h) (by decide) (by decide) (fun x125 h124 => ?_)
      refine ev_step (st_aload_n (pc := 689) (j := 2) dL_law_689 rfl rfl) ?_
      refine ev_step (st_aload_n (pc := 690) (j := 0) dL_law_690 rfl rfl) ?_
      refine ev_step (st_iload_n (pc := 691) (j := 3) dL_law_691 rfl rfl) ?_
      refine ev_step (st_iconst (pc := 692) dL_law_692 ni_1) ?_
      refine ev_step (st_iadd (pc := 693) dL_law_693) ?_
      refine ev_ldX (pc := 694) dL_law_694 (fun x126 => ?_)
      refine ev_step (st_aload_n (pc := 695) (j := 0) dL_law_695 rfl rfl) ?_
      refine ev_step (st_iload_n (pc := 696) (j := 3) dL_law_696 rfl rfl) ?_
      refine ev_step (st_iconst (pc := 697) dL_law_697 ni_2) ?_
      refine ev_step (st_iadd (pc := 698) dL_law_698) ?_
      refine ev_ldX (pc := 699) dL_law_699 (fun x127 => ?_)
      refine ev_ck (fun ha hS => ?_)
      refine ev_callI (iv_V (As := [.int x126, .int x127]) (st := [.int x125]) (pc := 700) rfl m_X10_plan l_L_85 i_X10_plan e_X10_plan ha hS rfl (Nat.le_of_ble_eq_true rfl) rfl dL_law_700) (tX10_plan G fu v2 x126 x127 h124) (by decide) (by decide) (fun x129 h128 => ?_)
      refine ev_br (br_icmp_eq (tgt := 1494) (pc := 703) dL_law_703 (by decide)) (fun _ => ?_) (fun _ => ?_)
      · refine ev_sub (ls' := [(0, .ref (gs G).1), (1, .ref (gB G + v1)), (2, .ref (gB G + v2)), (3, .int v3)]) [0, 1, 2, 3] rfl ?_
        exact tL_law_1494 G fu h0 v0 v1 v2 v3 k18 hk18 h128
      · refine ev_step (st_iconst (pc := 706) dL_law_706 ni_0) ?_
        exact ev_zret (pc := 707) dL_law_707
    refine ev_case (n := 16) (c := (16 : Int32)) (off := 675) (tgt := 708) (pc := 33) q121 dL_law_33 (by decide) (by decide) (by decide) (by decide) (by decide) (fun _ => ?_) (fun q130 => ?_)
    · refine ev_step (st_aload_n (pc := 708) (j := 1) dL_law_708 rfl rfl) ?_
      refine ev_step (st_aload_n (pc := 709) (j := 0) dL_law_709 rfl rfl) ?_
      refine ev_step (st_iload_n (pc := 710) (j := 3) dL_law_710 rfl rfl) ?_
      refine ev_step (st_iconst (pc := 711) dL_law_711 ni_1) ?_
      refine ev_step (st_iadd (pc := 712) dL_law_712) ?_
      refine ev_ldX (pc := 713) dL_law_713 (fun x131 => ?_)
      refine ev_ck (fun ha hS => ?_)
      refine ev_callI (iv_V (As := [.int x131]) (st := []) (pc := 714) rfl m_X9_star l_L_86 i_X9_star e_X9_star ha hS rfl (Nat.le_of_ble_eq_true rfl) rfl dL_law_714) (tX9_star G fu v1 x131 h) (by decide) (by decide) (fun x133 h132 => ?_)
      refine ev_step (st_aload_n (pc := 717) (j := 2) dL_law_717 rfl rfl) ?_
      refine ev_step (st_aload_n (pc := 718) (j := 0) dL_law_718 rfl rfl) ?_
      refine ev_step (st_iload_n (pc := 719) (j := 3) dL_law_719 rfl rfl) ?_
      refine ev_step (st_iconst (pc := 720) dL_law_720 ni_1) ?_
      refine ev_step (st_iadd (pc := 721) dL_law_721) ?_
      refine ev_ldX (pc := 722) dL_law_722 (fun x134 => ?_)
      refine ev_ck (fun ha hS => ?_)
      refine ev_callI (iv_V (As := [.int x134]) (st := [.int x133]) (pc := 723) rfl m_X10_star l_L_89 i_X10_star e_X10_star ha hS rfl (Nat.le_of_ble_eq_true rfl) rfl dL_law_723) (tX10_star G fu v2 x134 h132) (by decide) (by decide) (fun x136 h135 => ?_)
      refine ev_br (br_icmp_eq (tgt := 1494) (pc := 726) dL_law_726 (by decide)) (fun _ => ?_) (fun _ => ?_)
      · refine ev_sub (ls' := [(0, .ref (gs G).1), (1, .ref (gB G + v1)), (2, .ref (gB G + v2)), (3, .int v3)]) [0, 1, 2, 3] rfl ?_
        exact tL_law_1494 G fu h0 v0 v1 v2 v3 k18 hk18 h135
      · refine ev_step (st_iconst (pc := 729) dL_law_729 ni_0) ?_
        exact ev_zret (pc := 730) dL_law_730
    refine ev_case (n := 17) (c := (17 : Int32)) (off := 698) (tgt := 731) (pc := 33) q130 dL_law_33 (by decide) (by decide) (by decide) (by decide) (by decide) (fun _ => ?_) (fun q137 => ?_)
    · refine ev_step (st_aload_n (pc := 731) (j := 1) dL_law_731 rfl rfl) ?_
      refine ev_step (st_aload_n (pc := 732) (j := 0) dL_law_732 rfl rfl) ?_
      refine ev_step (st_iload_n (pc := 733) (j := 3) dL_law_733 rfl rfl) ?_
      refine ev_step (st_iconst (pc := 734) dL_law_734 ni_1) ?_
      refine ev_step (st_iadd (pc := 735) dL_law_735) ?_
      refine ev_ldX (pc := 736) dL_law_736 (fun x138 => ?_)
      refine ev_ck (fun ha hS => ?_)
      refine ev_callI (iv_V (As := [.int x138]) (st := []) (pc := 737) rfl m_X9_credit l_L_90 i_X9_credit e_X9_credit ha hS rfl (Nat.le_of_ble_eq_true rfl) rfl dL_law_737) (tX9_credit G fu v1 x138 h) (by decide) (by decide) (fun x140 h139 => ?_)
      refine ev_step (st_aload_n (pc := 740) (j := 2) dL_law_740 rfl rfl) ?_
      refine ev_step (st_aload_n (pc := 741) (j := 0) dL_law_741 rfl rfl) ?_
      refine ev_step (st_iload_n (pc := 742) (j := 3) dL_law_742 rfl rfl) ?_
      refine ev_step (st_iconst (pc := 743) dL_law_743 ni_1) ?_
      refine ev_step (st_iadd (pc := 744) dL_law_744) ?_
      refine ev_ldX (pc := 745) dL_law_745 (fun x141 => ?_)
      refine ev_ck (fun ha hS => ?_)
      refine ev_callI (iv_V (As := [.int x141]) (st := [.int x140]) (pc := 746) rfl m_X10_credit l_L_93 i_X10_credit e_X10_credit ha hS rfl (Nat.le_of_ble_eq_true rfl) rfl dL_law_746) (tX10_credit G fu v2 x141 h139) (by decide) (by decide) (fun x143 h142 => ?_)
      refine ev_br (br_icmp_eq (tgt := 1494) (pc := 749) dL_law_749 (by decide)) (fun _ => ?_) (fun _ => ?_)
      · refine ev_sub (ls' := [(0, .ref (gs G).1), (1, .ref (gB G + v1)), (2, .ref (gB G + v2)), (3, .int v3)]) [0, 1, 2, 3] rfl ?_
        exact tL_law_1494 G fu h0 v0 v1 v2 v3 k18 hk18 h142
      · refine ev_step (st_iconst (pc := 752) dL_law_752 ni_0) ?_
        exact ev_zret (pc := 753) dL_law_753
    refine ev_case (n := 18) (c := (18 : Int32)) (off := 721) (tgt := 754) (pc := 33) q137 dL_law_33 (by decide) (by decide) (by decide) (by decide) (by decide) (fun _ => ?_) (fun q144 => ?_)
    · refine ev_step (st_aload_n (pc := 754) (j := 1) dL_law_754 rfl rfl) ?_
      refine ev_step (st_aload_n (pc := 755) (j := 0) dL_law_755 rfl rfl) ?_
      refine ev_step (st_iload_n (pc := 756) (j := 3) dL_law_756 rfl rfl) ?_
      refine ev_step (st_iconst (pc := 757) dL_law_757 ni_1) ?_
      refine ev_step (st_iadd (pc := 758) dL_law_758) ?_
      refine ev_ldX (pc := 759) dL_law_759 (fun x145 => ?_)
      refine ev_ck (fun ha hS => ?_)
      refine ev_callI (iv_V (As := [.int x145]) (st := []) (pc := 760) rfl m_X9_missing l_L_94 i_X9_missing e_X9_missing ha hS rfl (Nat.le_of_ble_eq_true rfl) rfl dL_law_760) (tX9_missing G fu v1 x145 h) (by decide) (by decide) (fun x147 h146 => ?_)
      refine ev_step (st_aload_n (pc := 763) (j := 2) dL_law_763 rfl rfl) ?_
      refine ev_step (st_aload_n (pc := 764) (j := 0) dL_law_764 rfl rfl) ?_
      refine ev_step (st_iload_n (pc := 765) (j := 3) dL_law_765 rfl rfl) ?_
      refine ev_step (st_iconst (pc := 766) dL_law_766 ni_1) ?_
      refine ev_step (st_iadd (pc := 767) dL_law_767) ?_
      refine ev_ldX (pc := 768) dL_law_768 (fun x148 => ?_)
      refine ev_ck (fun ha hS => ?_)
      refine ev_callI (iv_V (As := [.int x148]) (st := [.int x147]) (pc := 769) rfl m_X10_missing l_L_97 i_X10_missing e_X10_missing ha hS rfl (Nat.le_of_ble_eq_true rfl) rfl dL_law_769) (tX10_missing G fu v2 x148 h146) (by decide) (by decide) (fun x150 h149 => ?_)
      refine ev_br (br_icmp_eq (tgt := 1494) (pc := 772) dL_law_772 (by decide)) (fun _ => ?_) (fun _ => ?_)
      · refine ev_sub (ls' := [(0, .ref (gs G).1), (1, .ref (gB G + v1)), (2, .ref (gB G + v2)), (3, .int v3)]) [0, 1, 2, 3] rfl ?_
        exact tL_law_1494 G fu h0 v0 v1 v2 v3 k18 hk18 h149
      · refine ev_step (st_iconst (pc := 775) dL_law_775 ni_0) ?_
        exact ev_zret (pc := 776) dL_law_776
    refine ev_case (n := 19) (c := (19 : Int32)) (off := 744) (tgt := 777) (pc := 33) q144 dL_law_33 (by decide) (by decide) (by decide) (by decide) (by decide) (fun _ => ?_) (fun q151 => ?_)
    · refine ev_step (st_aload_n (pc := 777) (j := 1) dL_law_777 rfl rfl) ?_
      refine ev_step (st_aload_n (pc := 778) (j := 0) dL_law_778 rfl rfl) ?_
      refine ev_step (st_iload_n (pc := 779) (j := 3) dL_law_779 rfl rfl) ?_
      refine ev_step (st_iconst (pc := 780) dL_law_780 ni_1) ?_
      refine ev_step (st_iadd (pc := 781) dL_law_781) ?_
      refine ev_ldX (pc := 782) dL_law_782 (fun x152 => ?_)
      refine ev_ck (fun ha hS => ?_)
      refine ev_callI (iv_V (As := [.int x152]) (st := []) (pc := 783) rfl m_X9_holders l_L_98 i_X9_holders e_X9_holders ha hS rfl (Nat.le_of_ble_eq_true rfl) rfl dL_law_783) (tX9_holders G fu v1 x152 h) (by decide) (by decide) (fun x154 h153 => ?_)
      refine ev_step (st_aload_n (pc := 786) (j := 2) dL_law_786 rfl rfl) ?_
      refine ev_step (st_aload_n (pc := 787) (j := 0) dL_law_787 rfl rfl) ?_
      refine ev_step (st_iload_n (pc := 788) (j := 3) dL_law_788 rfl rfl) ?_
      refine ev_step (st_iconst (pc := 789) dL_law_789 ni_1) ?_
      refine ev_step (st_iadd (pc := 790) dL_law_790) ?_
      refine ev_ldX (pc := 791) dL_law_791 (fun x155 => ?_)
      refine ev_ck (fun ha hS => ?_)
      refine ev_callI (iv_V (As := [.int x155]) (st := [.int x154]) (pc := 792) rfl m_X10_holders l_L_101 i_X10_holders e_X10_holders ha hS rfl (Nat.le_of_ble_eq_true rfl) rfl dL_law_792) (tX10_holders G fu v2 x155 h153) (by decide) (by decide) (fun x157 h156 => ?_)
      refine ev_br (br_icmp_eq (tgt := 1494) (pc := 795) dL_law_795 (by decide)) (fun _ => ?_) (fun _ => ?_)
      · refine ev_sub (ls' := [(0, .ref (gs G).1), (1, .ref (gB G + v1)), (2, .ref (gB G + v2)), (3, .int v3)]) [0, 1, 2, 3] rfl ?_
        exact tL_law_1494 G fu h0 v0 v1 v2 v3 k18 hk18 h156
      · refine ev_step (st_iconst (pc := 798) dL_law_798 ni_0) ?_
        exact ev_zret (pc := 799) dL_law_799
    refine ev_case (n := 20) (c := (20 : Int32)) (off := 767) (tgt := 800) (pc := 33) q151 dL_law_33 (by decide) (by decide) (by decide) (by decide) (by decide) (fun _ => ?_) (fun q158 => ?_)
    · refine ev_step (st_aload_n (pc := 800) (j := 1) dL_law_800 rfl rfl) ?_
      refine ev_step (st_aload_n (pc := 801) (j := 0) dL_law_801 rfl rfl) ?_
      refine ev_step (st_iload_n (pc := 802) (j := 3) dL_law_802 rfl rfl) ?_
      refine ev_step (st_iconst (pc := 803) dL_law_803 ni_1) ?_
      refine ev_step (st_iadd (pc := 804) dL_law_804) ?_
      refine ev_ldX (pc := 805) dL_law_805 (fun x159 => ?_)
      refine ev_ck (fun ha hS => ?_)
      refine ev_callI (iv_V (As := [.int x159]) (st := []) (pc := 806) rfl m_X9_rarest l_L_102 i_X9_rarest e_X9_rarest ha hS rfl (Nat.le_of_ble_eq_true rfl) rfl dL_law_806) (tX9_rarest G fu v1 x159 h) (by decide) (by decide) (fun x161 h160 => ?_)
      refine ev_step (st_aload_n (pc := 809) (j := 2) dL_law_809 rfl rfl) ?_
      refine ev_step (st_aload_n (pc := 810) (j := 0) dL_law_810 rfl rfl) ?_
      refine ev_step (st_iload_n (pc := 811) (j := 3) dL_law_811 rfl rfl) ?_
      refine ev_step (st_iconst (pc := 812) dL_law_812 ni_1) ?_
      refine ev_step (st_iadd (pc := 813) dL_law_813) ?_
      refine ev_ldX (pc := 814) dL_law_814 (fun x162 => ?_)
      refine ev_ck (fun ha hS => ?_)
      refine ev_callI (iv_V (As := [.int x162]) (st := [.int x161]) (pc := 815) rfl m_X10_rarest l_L_105 i_X10_rarest e_X10_rarest ha hS rfl (Nat.le_of_ble_eq_true rfl) rfl dL_law_815) (tX10_rarest G fu v2 x162 h160) (by decide) (by decide) (fun x164 h163 => ?_)
      refine ev_br (br_icmp_eq (tgt := 1494) (pc := 818) dL_law_818 (by decide)) (fun _ => ?_) (fun _ => ?_)
      · refine ev_sub (ls' := [(0, .ref (gs G).1), (1, .ref (gB G + v1)), (2, .ref (gB G + v2)), (3, .int v3)]) [0, 1, 2, 3] rfl ?_
        exact tL_law_1494 G fu h0 v0 v1 v2 v3 k18 hk18 h163
      · refine ev_step (st_iconst (pc := 821) dL_law_821 ni_0) ?_
        exact ev_zret (pc := 822) dL_law_822
    refine ev_case (n := 21) (c := (21 : Int32)) (off := 790) (tgt := 823) (pc := 33) q158 dL_law_33 (by decide) (by decide) (by decide) (by decide) (by decide) (fun _ => ?_) (fun q165 => ?_)
    · refine ev_step (st_aload_n (pc := 823) (j := 1) dL_law_823 rfl rfl) ?_
      refine ev_step (st_aload_n (pc := 824) (j := 0) dL_law_824 rfl rfl) ?_
      refine ev_step (st_iload_n (pc := 825) (j := 3) dL_law_825 rfl rfl) ?_
      refine ev_step (st_iconst (pc := 826) dL_law_826 ni_1) ?_
      refine ev_step (st_iadd (pc := 827) dL_law_827) ?_
      refine ev_ldX (pc := 828) dL_law_828 (fun x166 => ?_)
      refine ev_step (st_aload_n (pc := 829) (j := 0) dL_law_829 rfl rfl) ?_
      refine ev_step (st_iload_n (pc := 830) (j := 3) dL_law_830 rfl rfl) ?_
      refine ev_step (st_iconst (pc := 831) dL_law_831 ni_2) ?_
      refine ev_step (st_iadd (pc := 832) dL_law_832) ?_
      refine ev_ldX (pc := 833) dL_law_833 (fun x167 => ?_)
      refine ev_ck (fun ha hS => ?_)
      refine ev_callI (iv_V (As := [.int x166, .int x167]) (st := []) (pc := 834) rfl m_X9_series l_L_106 i_X9_series e_X9_series ha hS rfl (Nat.le_of_ble_eq_true rfl) rfl dL_law_834) (tX9_series G fu v1 x166 x167 h) (by decide) (by decide) (fun x169 h168 => ?_)
      refine ev_step (st_aload_n (pc := 837) (j := 2) dL_law_837 rfl rfl) ?_
      refine ev_step (st_aload_n (pc := 838) (j := 0) dL_law_838 rfl rfl) ?_
      refine ev_step (st_iload_n (pc := 839) (j := 3) dL_law_839 rfl rfl) ?_
      refine ev_step (st_iconst (pc := 840) dL_law_840 ni_1) ?_
      refine ev_step (st_iadd (pc := 841) dL_law_841) ?_
      refine ev_ldX (pc := 842) dL_law_842 (fun x170 => ?_)
      refine ev_step (st_aload_n (pc := 843) (j := 0) dL_law_843 rfl rfl) ?_
      refine ev_step (st_iload_n (pc := 844) (j := 3) dL_law_844 rfl rfl) ?_
      refine ev_step (st_iconst (pc := 845) dL_law_845 ni_2) ?_
      refine ev_step (st_iadd (pc := 846) dL_law_846) ?_
      refine ev_ldX (pc := 847) dL_law_847 (fun x171 => ?_)
      refine ev_ck (fun ha hS => ?_)
      refine ev_callI (iv_V (As := [.int x170, .int x171]) (st := [.int x169]) (pc := 848) rfl m_X10_series l_L_109 i_X10_series e_X10_series ha hS rfl (Nat.le_of_ble_eq_true rfl) rfl dL_law_848) (tX10_series G fu v2 x170 x171 h168) (by decide) (by decide) (fun x173 h172 => ?_)
      refine ev_br (br_icmp_eq (tgt := 1494) (pc := 851) dL_law_851 (by decide)) (fun _ => ?_) (fun _ => ?_)
      · refine ev_sub (ls' := [(0, .ref (gs G).1), (1, .ref (gB G + v1)), (2, .ref (gB G + v2)), (3, .int v3)]) [0, 1, 2, 3] rfl ?_
        exact tL_law_1494 G fu h0 v0 v1 v2 v3 k18 hk18 h172
      · refine ev_step (st_iconst (pc := 854) dL_law_854 ni_0) ?_
        exact ev_zret (pc := 855) dL_law_855
    refine ev_case (n := 22) (c := (22 : Int32)) (off := 823) (tgt := 856) (pc := 33) q165 dL_law_33 (by decide) (by decide) (by decide) (by decide) (by decide) (fun _ => ?_) (fun q174 => ?_)
    · refine ev_step (st_aload_n (pc := 856) (j := 1) dL_law_856 rfl rfl) ?_
      refine ev_step (st_aload_n (pc := 857) (j := 0) dL_law_857 rfl rfl) ?_
      refine ev_step (st_iload_n (pc := 858) (j := 3) dL_law_858 rfl rfl) ?_
      refine ev_step (st_iconst (pc := 859) dL_law_859 ni_1) ?_
      refine ev_step (st_iadd (pc := 860) dL_law_860) ?_
      refine ev_ldX (pc := 861) dL_law_861 (fun x175 => ?_)
      refine ev_step (st_aload_n (pc := 862) (j := 0) dL_law_862 rfl rfl) ?_
      refine ev_step (st_iload_n (pc := 863) (j := 3) dL_law_863 rfl rfl) ?_
      refine ev_step (st_iconst (pc := 864) dL_law_864 ni_2) ?_
      refine ev_step (st_iadd (pc := 865) dL_law_865) ?_
      refine ev_ldX (pc := 866) dL_law_866 (fun x176 => ?_)
      refine ev_ck (fun ha hS => ?_)
      refine ev_callI (iv_V (As := [.int x175, .int x176]) (st := []) (pc := 867) rfl m_X9_longOf l_L_110 i_X9_longOf e_X9_longOf ha hS rfl (Nat.le_of_ble_eq_true rfl) rfl dL_law_867) (tX9_longOf G fu v1 x175 x176 h) (by decide) (by decide) (fun x178 h177 => ?_)
      refine ev_step (st_aload_n (pc := 870) (j := 2) dL_law_870 rfl rfl) ?_
      refine ev_step (st_aload_n (pc := 871) (j := 0) dL_law_871 rfl rfl) ?_
      refine ev_step (st_iload_n (pc := 872) (j := 3) dL_law_872 rfl rfl) ?_
      refine ev_step (st_iconst (pc := 873) dL_law_873 ni_1) ?_
      refine ev_step (st_iadd (pc := 874) dL_law_874) ?_
      refine ev_ldX (pc := 875) dL_law_875 (fun x179 => ?_)
      refine ev_step (st_aload_n (pc := 876) (j := 0) dL_law_876 rfl rfl) ?_
      refine ev_step (st_iload_n (pc := 877) (j := 3) dL_law_877 rfl rfl) ?_
      refine ev_step (st_iconst (pc := 878) dL_law_878 ni_2) ?_
      refine ev_step (st_iadd (pc := 879) dL_law_879) ?_
      refine ev_ldX (pc := 880) dL_law_880 (fun x180 => ?_)
      refine ev_ck (fun ha hS => ?_)
      refine ev_callI (iv_V (As := [.int x179, .int x180]) (st := [.int x178]) (pc := 881) rfl m_X10_longOf l_L_113 i_X10_longOf e_X10_longOf ha hS rfl (Nat.le_of_ble_eq_true rfl) rfl dL_law_881) (tX10_longOf G fu v2 x179 x180 h177) (by decide) (by decide) (fun x182 h181 => ?_)
      refine ev_br (br_icmp_eq (tgt := 1494) (pc := 884) dL_law_884 (by decide)) (fun _ => ?_) (fun _ => ?_)
      · refine ev_sub (ls' := [(0, .ref (gs G).1), (1, .ref (gB G + v1)), (2, .ref (gB G + v2)), (3, .int v3)]) [0, 1, 2, 3] rfl ?_
        exact tL_law_1494 G fu h0 v0 v1 v2 v3 k18 hk18 h181
      · refine ev_step (st_iconst (pc := 887) dL_law_887 ni_0) ?_
        exact ev_zret (pc := 888) dL_law_888
    refine ev_case (n := 23) (c := (23 : Int32)) (off := 856) (tgt := 889) (pc := 33) q174 dL_law_33 (by decide) (by decide) (by decide) (by decide) (by decide) (fun _ => ?_) (fun q183 => ?_)
    · refine ev_step (st_aload_n (pc := 889) (j := 1) dL_law_889 rfl rfl) ?_
      refine ev_step (st_aload_n (pc := 890) (j := 0) dL_law_890 rfl rfl) ?_
      refine ev_step (st_iload_n (pc := 891) (j := 3) dL_law_891 rfl rfl) ?_
      refine ev_step (st_iconst (pc := 892) dL_law_892 ni_1) ?_
      refine ev_step (st_iadd (pc := 893) dL_law_893) ?_
      refine ev_ldX (pc := 894) dL_law_894 (fun x184 => ?_)
      refine ev_ck (fun ha hS => ?_)
      refine ev_callI (iv_V (As := [.int x184]) (st := []) (pc := 895) rfl m_X9_callers l_L_114 i_X9_callers e_X9_callers ha hS rfl (Nat.le_of_ble_eq_true rfl) rfl dL_law_895) (tX9_callers G fu v1 x184 h) (by decide) (by decide) (fun x186 h185 => ?_)
      refine ev_step (st_aload_n (pc := 898) (j := 2) dL_law_898 rfl rfl) ?_
      refine ev_step (st_aload_n (pc := 899) (j := 0) dL_law_899 rfl rfl) ?_
      refine ev_step (st_iload_n (pc := 900) (j := 3) dL_law_900 rfl rfl) ?_
      refine ev_step (st_iconst (pc := 901) dL_law_901 ni_1) ?_
      refine ev_step (st_iadd (pc := 902) dL_law_902) ?_
      refine ev_ldX (pc := 903) dL_law_903 (fun x187 => ?_)
      refine ev_ck (fun ha hS => ?_)
      refine ev_callI (iv_V (As := [.int x187]) (st := [.int x186]) (pc := 904) rfl m_X10_callers l_L_117 i_X10_callers e_X10_callers ha hS rfl (Nat.le_of_ble_eq_true rfl) rfl dL_law_904) (tX10_callers G fu v2 x187 h185) (by decide) (by decide) (fun x189 h188 => ?_)
      refine ev_br (br_icmp_eq (tgt := 1494) (pc := 907) dL_law_907 (by decide)) (fun _ => ?_) (fun _ => ?_)
      · refine ev_sub (ls' := [(0, .ref (gs G).1), (1, .ref (gB G + v1)), (2, .ref (gB G + v2)), (3, .int v3)]) [0, 1, 2, 3] rfl ?_
        exact tL_law_1494 G fu h0 v0 v1 v2 v3 k18 hk18 h188
      · refine ev_step (st_iconst (pc := 910) dL_law_910 ni_0) ?_
        exact ev_zret (pc := 911) dL_law_911
    refine ev_case (n := 24) (c := (24 : Int32)) (off := 879) (tgt := 912) (pc := 33) q183 dL_law_33 (by decide) (by decide) (by decide) (by decide) (by decide) (fun _ => ?_) (fun q190 => ?_)
    · refine ev_step (st_aload_n (pc := 912) (j := 1) dL_law_912 rfl rfl) ?_
      refine ev_step (st_aload_n (pc := 913) (j := 0) dL_law_913 rfl rfl) ?_
      refine ev_step (st_iload_n (pc := 914) (j := 3) dL_law_914 rfl rfl) ?_
      refine ev_step (st_iconst (pc := 915) dL_law_915 ni_1) ?_
      refine ev_step (st_iadd (pc := 916) dL_law_916) ?_
      refine ev_ldX (pc := 917) dL_law_917 (fun x191 => ?_)
      refine ev_ck (fun ha hS => ?_)
      refine ev_callI (iv_V (As := [.int x191]) (st := []) (pc := 918) rfl m_X9_sway l_L_118 i_X9_sway e_X9_sway ha hS rfl (Nat.le_of_ble_eq_true rfl) rfl dL_law_918) (tX9_sway G fu v1 x191 h) (by decide) (by decide) (fun x193 h192 => ?_)
      refine ev_step (st_aload_n (pc := 921) (j := 2) dL_law_921 rfl rfl) ?_
      refine ev_step (st_aload_n (pc := 922) (j := 0) dL_law_922 rfl rfl) ?_
      refine ev_step (st_iload_n (pc := 923) (j := 3) dL_law_923 rfl rfl) ?_
      refine ev_step (st_iconst (pc := 924) dL_law_924 ni_1) ?_
      refine ev_step (st_iadd (pc := 925) dL_law_925) ?_
      refine ev_ldX (pc := 926) dL_law_926 (fun x194 => ?_)
      refine ev_ck (fun ha hS => ?_)
      refine ev_callI (iv_V (As := [.int x194]) (st := [.int x193]) (pc := 927) rfl m_X10_sway l_L_121 i_X10_sway e_X10_sway ha hS rfl (Nat.le_of_ble_eq_true rfl) rfl dL_law_927) (tX10_sway G fu v2 x194 h192) (by decide) (by decide) (fun x196 h195 => ?_)
      refine ev_br (br_icmp_eq (tgt := 1494) (pc := 930) dL_law_930 (by decide)) (fun _ => ?_) (fun _ => ?_)
      · refine ev_sub (ls' := [(0, .ref (gs G).1), (1, .ref (gB G + v1)), (2, .ref (gB G + v2)), (3, .int v3)]) [0, 1, 2, 3] rfl ?_
        exact tL_law_1494 G fu h0 v0 v1 v2 v3 k18 hk18 h195
      · refine ev_step (st_iconst (pc := 933) dL_law_933 ni_0) ?_
        exact ev_zret (pc := 934) dL_law_934
    refine ev_case (n := 25) (c := (25 : Int32)) (off := 902) (tgt := 935) (pc := 33) q190 dL_law_33 (by decide) (by decide) (by decide) (by decide) (by decide) (fun _ => ?_) (fun q197 => ?_)
    · refine ev_step (st_aload_n (pc := 935) (j := 1) dL_law_935 rfl rfl) ?_
      refine ev_step (st_aload_n (pc := 936) (j := 0) dL_law_936 rfl rfl) ?_
      refine ev_step (st_iload_n (pc := 937) (j := 3) dL_law_937 rfl rfl) ?_
      refine ev_step (st_iconst (pc := 938) dL_law_938 ni_1) ?_
      refine ev_step (st_iadd (pc := 939) dL_law_939) ?_
      refine ev_ldX (pc := 940) dL_law_940 (fun x198 => ?_)
      refine ev_step (st_aload_n (pc := 941) (j := 0) dL_law_941 rfl rfl) ?_
      refine ev_step (st_iload_n (pc := 942) (j := 3) dL_law_942 rfl rfl) ?_
      refine ev_step (st_iconst (pc := 943) dL_law_943 ni_2) ?_
      refine ev_step (st_iadd (pc := 944) dL_law_944) ?_
      refine ev_ldX (pc := 945) dL_law_945 (fun x199 => ?_)
      refine ev_ck (fun ha hS => ?_)
      refine ev_callI (iv_V (As := [.int x198, .int x199]) (st := []) (pc := 946) rfl m_X9_circle l_L_122 i_X9_circle e_X9_circle ha hS rfl (Nat.le_of_ble_eq_true rfl) rfl dL_law_946) (tX9_circle G fu v1 x198 x199 h) (by decide) (by decide) (fun x201 h200 => ?_)
      refine ev_step (st_aload_n (pc := 949) (j := 2) dL_law_949 rfl rfl) ?_
      refine ev_step (st_aload_n (pc := 950) (j := 0) dL_law_950 rfl rfl) ?_
      refine ev_step (st_iload_n (pc := 951) (j := 3) dL_law_951 rfl rfl) ?_
      refine ev_step (st_iconst (pc := 952) dL_law_952 ni_1) ?_
      refine ev_step (st_iadd (pc := 953) dL_law_953) ?_
      refine ev_ldX (pc := 954) dL_law_954 (fun x202 => ?_)
      refine ev_step (st_aload_n (pc := 955) (j := 0) dL_law_955 rfl rfl) ?_
      refine ev_step (st_iload_n (pc := 956) (j := 3) dL_law_956 rfl rfl) ?_
      refine ev_step (st_iconst (pc := 957) dL_law_957 ni_2) ?_
      refine ev_step (st_iadd (pc := 958) dL_law_958) ?_
      refine ev_ldX (pc := 959) dL_law_959 (fun x203 => ?_)
      refine ev_ck (fun ha hS => ?_)
      refine ev_callI (iv_V (As := [.int x202, .int x203]) (st := [.int x201]) (pc := 960) rfl m_X10_circle l_L_125 i_X10_circle e_X10_circle ha hS rfl (Nat.le_of_ble_eq_true rfl) rfl dL_law_960) (tX10_circle G fu v2 x202 x203 h200) (by decide) (by decide) (fun x205 h204 => ?_)
      refine ev_br (br_icmp_eq (tgt := 1494) (pc := 963) dL_law_963 (by decide)) (fun _ => ?_) (fun _ => ?_)
      · refine ev_sub (ls' := [(0, .ref (gs G).1), (1, .ref (gB G + v1)), (2, .ref (gB G + v2)), (3, .int v3)]) [0, 1, 2, 3] rfl ?_
        exact tL_law_1494 G fu h0 v0 v1 v2 v3 k18 hk18 h204
      · refine ev_step (st_iconst (pc := 966) dL_law_966 ni_0) ?_
        exact ev_zret (pc := 967) dL_law_967
    refine ev_case (n := 26) (c := (26 : Int32)) (off := 935) (tgt := 968) (pc := 33) q197 dL_law_33 (by decide) (by decide) (by decide) (by decide) (by decide) (fun _ => ?_) (fun q206 => ?_)
    · refine ev_step (st_aload_n (pc := 968) (j := 1) dL_law_968 rfl rfl) ?_
      refine ev_ck (fun ha hS => ?_)
      refine ev_callI (iv_V (As := []) (st := []) (pc := 969) rfl m_X9_doubles l_L_126 i_X9_doubles e_X9_doubles ha hS rfl (Nat.le_of_ble_eq_true rfl) rfl dL_law_969) (tX9_doubles G fu v1 h) (by decide) (by decide) (fun x208 h207 => ?_)
      refine ev_step (st_aload_n (pc := 972) (j := 2) dL_law_972 rfl rfl) ?_
      refine ev_ck (fun ha hS => ?_)
      refine ev_callI (iv_V (As := []) (st := [.int x208]) (pc := 973) rfl m_X10_doubles l_L_129 i_X10_doubles e_X10_doubles ha hS rfl (Nat.le_of_ble_eq_true rfl) rfl dL_law_973) (tX10_doubles G fu v2 h207) (by decide) (by decide) (fun x210 h209 => ?_)
      refine ev_br (br_icmp_eq (tgt := 1494) (pc := 976) dL_law_976 (by decide)) (fun _ => ?_) (fun _ => ?_)
      · refine ev_sub (ls' := [(0, .ref (gs G).1), (1, .ref (gB G + v1)), (2, .ref (gB G + v2)), (3, .int v3)]) [0, 1, 2, 3] rfl ?_
        exact tL_law_1494 G fu h0 v0 v1 v2 v3 k18 hk18 h209
      · refine ev_step (st_iconst (pc := 979) dL_law_979 ni_0) ?_
        exact ev_zret (pc := 980) dL_law_980
    refine ev_case (n := 27) (c := (27 : Int32)) (off := 948) (tgt := 981) (pc := 33) q206 dL_law_33 (by decide) (by decide) (by decide) (by decide) (by decide) (fun _ => ?_) (fun q211 => ?_)
    · refine ev_step (st_aload_n (pc := 981) (j := 1) dL_law_981 rfl rfl) ?_
      refine ev_step (st_aload_n (pc := 982) (j := 0) dL_law_982 rfl rfl) ?_
      refine ev_step (st_iload_n (pc := 983) (j := 3) dL_law_983 rfl rfl) ?_
      refine ev_step (st_iconst (pc := 984) dL_law_984 ni_1) ?_
      refine ev_step (st_iadd (pc := 985) dL_law_985) ?_
      refine ev_ldX (pc := 986) dL_law_986 (fun x212 => ?_)
      refine ev_ck (fun ha hS => ?_)
      refine ev_callI (iv_V (As := [.int x212]) (st := []) (pc := 987) rfl m_X9_faith l_L_130 i_X9_faith e_X9_faith ha hS rfl (Nat.le_of_ble_eq_true rfl) rfl dL_law_987) (tX9_faith G fu v1 x212 h) (by decide) (by decide) (fun x214 h213 => ?_)
      refine ev_step (st_aload_n (pc := 990) (j := 2) dL_law_990 rfl rfl) ?_
      refine ev_step (st_aload_n (pc := 991) (j := 0) dL_law_991 rfl rfl) ?_
      refine ev_step (st_iload_n (pc := 992) (j := 3) dL_law_992 rfl rfl) ?_
      refine ev_step (st_iconst (pc := 993) dL_law_993 ni_1) ?_
      refine ev_step (st_iadd (pc := 994) dL_law_994) ?_
      refine ev_ldX (pc := 995) dL_law_995 (fun x215 => ?_)
      refine ev_ck (fun ha hS => ?_)
      refine ev_callI (iv_V (As := [.int x215]) (st := [.int x214]) (pc := 996) rfl m_X10_faith l_L_133 i_X10_faith e_X10_faith ha hS rfl (Nat.le_of_ble_eq_true rfl) rfl dL_law_996) (tX10_faith G fu v2 x215 h213) (by decide) (by decide) (fun x217 h216 => ?_)
      refine ev_br (br_icmp_eq (tgt := 1494) (pc := 999) dL_law_999 (by decide)) (fun _ => ?_) (fun _ => ?_)
      · refine ev_sub (ls' := [(0, .ref (gs G).1), (1, .ref (gB G + v1)), (2, .ref (gB G + v2)), (3, .int v3)]) [0, 1, 2, 3] rfl ?_
        exact tL_law_1494 G fu h0 v0 v1 v2 v3 k18 hk18 h216
      · refine ev_step (st_iconst (pc := 1002) dL_law_1002 ni_0) ?_
        exact ev_zret (pc := 1003) dL_law_1003
    refine ev_case (n := 28) (c := (28 : Int32)) (off := 971) (tgt := 1004) (pc := 33) q211 dL_law_33 (by decide) (by decide) (by decide) (by decide) (by decide) (fun _ => ?_) (fun q218 => ?_)
    · refine ev_step (st_aload_n (pc := 1004) (j := 1) dL_law_1004 rfl rfl) ?_
      refine ev_step (st_aload_n (pc := 1005) (j := 0) dL_law_1005 rfl rfl) ?_
      refine ev_step (st_iload_n (pc := 1006) (j := 3) dL_law_1006 rfl rfl) ?_
      refine ev_step (st_iconst (pc := 1007) dL_law_1007 ni_1) ?_
      refine ev_step (st_iadd (pc := 1008) dL_law_1008) ?_
      refine ev_ldX (pc := 1009) dL_law_1009 (fun x219 => ?_)
      refine ev_ck (fun ha hS => ?_)
      refine ev_callI (iv_V (As := [.int x219]) (st := []) (pc := 1010) rfl m_X9_never l_L_134 i_X9_never e_X9_never ha hS rfl (Nat.le_of_ble_eq_true rfl) rfl dL_law_1010) (tX9_never G fu v1 x219 h) (by decide) (by decide) (fun x221 h220 => ?_)
      refine ev_step (st_aload_n (pc := 1013) (j := 2) dL_law_1013 rfl rfl) ?_
      refine ev_step (st_aload_n (pc := 1014) (j := 0) dL_law_1014 rfl rfl) ?_
      refine ev_step (st_iload_n (pc := 1015) (j := 3) dL_law_1015 rfl rfl) ?_
      refine ev_step (st_iconst (pc := 1016) dL_law_1016 ni_1) ?_
      refine ev_step (st_iadd (pc := 1017) dL_law_1017) ?_
      refine ev_ldX (pc := 1018) dL_law_1018 (fun x222 => ?_)
      refine ev_ck (fun ha hS => ?_)
      refine ev_callI (iv_V (As := [.int x222]) (st := [.int x221]) (pc := 1019) rfl m_X10_never l_L_137 i_X10_never e_X10_never ha hS rfl (Nat.le_of_ble_eq_true rfl) rfl dL_law_1019) (tX10_never G fu v2 x222 h220) (by decide) (by decide) (fun x224 h223 => ?_)
      refine ev_br (br_icmp_eq (tgt := 1494) (pc := 1022) dL_law_1022 (by decide)) (fun _ => ?_) (fun _ => ?_)
      · refine ev_sub (ls' := [(0, .ref (gs G).1), (1, .ref (gB G + v1)), (2, .ref (gB G + v2)), (3, .int v3)]) [0, 1, 2, 3] rfl ?_
        exact tL_law_1494 G fu h0 v0 v1 v2 v3 k18 hk18 h223
      · refine ev_step (st_iconst (pc := 1025) dL_law_1025 ni_0) ?_
        exact ev_zret (pc := 1026) dL_law_1026
    refine ev_case (n := 29) (c := (29 : Int32)) (off := 994) (tgt := 1027) (pc := 33) q218 dL_law_33 (by decide) (by decide) (by decide) (by decide) (by decide) (fun _ => ?_) (fun q225 => ?_)
    · refine ev_step (st_aload_n (pc := 1027) (j := 1) dL_law_1027 rfl rfl) ?_
      refine ev_step (st_aload_n (pc := 1028) (j := 0) dL_law_1028 rfl rfl) ?_
      refine ev_step (st_iload_n (pc := 1029) (j := 3) dL_law_1029 rfl rfl) ?_
      refine ev_step (st_iconst (pc := 1030) dL_law_1030 ni_1) ?_
      refine ev_step (st_iadd (pc := 1031) dL_law_1031) ?_
      refine ev_ldX (pc := 1032) dL_law_1032 (fun x226 => ?_)
      refine ev_ck (fun ha hS => ?_)
      refine ev_callI (iv_V (As := [.int x226]) (st := []) (pc := 1033) rfl m_X9_apart l_L_138 i_X9_apart e_X9_apart ha hS rfl (Nat.le_of_ble_eq_true rfl) rfl dL_law_1033) (tX9_apart G fu v1 x226 h) (by decide) (by decide) (fun x228 h227 => ?_)
      refine ev_step (st_aload_n (pc := 1036) (j := 2) dL_law_1036 rfl rfl) ?_
      refine ev_step (st_aload_n (pc := 1037) (j := 0) dL_law_1037 rfl rfl) ?_
      refine ev_step (st_iload_n (pc := 1038) (j := 3) dL_law_1038 rfl rfl) ?_
      refine ev_step (st_iconst (pc := 1039) dL_law_1039 ni_1) ?_
      refine ev_step (st_iadd (pc := 1040) dL_law_1040) ?_
      refine ev_ldX (pc := 1041) dL_law_1041 (fun x229 => ?_)
      refine ev_ck (fun ha hS => ?_)
      refine ev_callI (iv_V (As := [.int x229]) (st := [.int x228]) (pc := 1042) rfl m_X10_apart l_L_141 i_X10_apart e_X10_apart ha hS rfl (Nat.le_of_ble_eq_true rfl) rfl dL_law_1042) (tX10_apart G fu v2 x229 h227) (by decide) (by decide) (fun x231 h230 => ?_)
      refine ev_br (br_icmp_eq (tgt := 1494) (pc := 1045) dL_law_1045 (by decide)) (fun _ => ?_) (fun _ => ?_)
      · refine ev_sub (ls' := [(0, .ref (gs G).1), (1, .ref (gB G + v1)), (2, .ref (gB G + v2)), (3, .int v3)]) [0, 1, 2, 3] rfl ?_
        exact tL_law_1494 G fu h0 v0 v1 v2 v3 k18 hk18 h230
      · refine ev_step (st_iconst (pc := 1048) dL_law_1048 ni_0) ?_
        exact ev_zret (pc := 1049) dL_law_1049
    refine ev_case (n := 30) (c := (30 : Int32)) (off := 1017) (tgt := 1050) (pc := 33) q225 dL_law_33 (by decide) (by decide) (by decide) (by decide) (by decide) (fun _ => ?_) (fun q232 => ?_)
    · refine ev_step (st_aload_n (pc := 1050) (j := 1) dL_law_1050 rfl rfl) ?_
      refine ev_step (st_aload_n (pc := 1051) (j := 0) dL_law_1051 rfl rfl) ?_
      refine ev_step (st_iload_n (pc := 1052) (j := 3) dL_law_1052 rfl rfl) ?_
      refine ev_step (st_iconst (pc := 1053) dL_law_1053 ni_1) ?_
      refine ev_step (st_iadd (pc := 1054) dL_law_1054) ?_
      refine ev_ldX (pc := 1055) dL_law_1055 (fun x233 => ?_)
      refine ev_step (st_aload_n (pc := 1056) (j := 0) dL_law_1056 rfl rfl) ?_
      refine ev_step (st_iload_n (pc := 1057) (j := 3) dL_law_1057 rfl rfl) ?_
      refine ev_step (st_iconst (pc := 1058) dL_law_1058 ni_2) ?_
      refine ev_step (st_iadd (pc := 1059) dL_law_1059) ?_
      refine ev_ldX (pc := 1060) dL_law_1060 (fun x234 => ?_)
      refine ev_ck (fun ha hS => ?_)
      refine ev_callI (iv_V (As := [.int x233, .int x234]) (st := []) (pc := 1061) rfl m_X9_unlike l_L_142 i_X9_unlike e_X9_unlike ha hS rfl (Nat.le_of_ble_eq_true rfl) rfl dL_law_1061) (tX9_unlike G fu v1 x233 x234 h) (by decide) (by decide) (fun x236 h235 => ?_)
      refine ev_step (st_aload_n (pc := 1064) (j := 2) dL_law_1064 rfl rfl) ?_
      refine ev_step (st_aload_n (pc := 1065) (j := 0) dL_law_1065 rfl rfl) ?_
      refine ev_step (st_iload_n (pc := 1066) (j := 3) dL_law_1066 rfl rfl) ?_
      refine ev_step (st_iconst (pc := 1067) dL_law_1067 ni_1) ?_
      refine ev_step (st_iadd (pc := 1068) dL_law_1068) ?_
      refine ev_ldX (pc := 1069) dL_law_1069 (fun x237 => ?_)
      refine ev_step (st_aload_n (pc := 1070) (j := 0) dL_law_1070 rfl rfl) ?_
      refine ev_step (st_iload_n (pc := 1071) (j := 3) dL_law_1071 rfl rfl) ?_
      refine ev_step (st_iconst (pc := 1072) dL_law_1072 ni_2) ?_
      refine ev_step (st_iadd (pc := 1073) dL_law_1073) ?_
      refine ev_ldX (pc := 1074) dL_law_1074 (fun x238 => ?_)
      refine ev_ck (fun ha hS => ?_)
      refine ev_callI (iv_V (As := [.int x237, .int x238]) (st := [.int x236]) (pc := 1075) rfl m_X10_unlike l_L_145 i_X10_unlike e_X10_unlike ha hS rfl (Nat.le_of_ble_eq_true rfl) rfl dL_law_1075) (tX10_unlike G fu v2 x237 x238 h235) (by decide) (by decide) (fun x240 h239 => ?_)
      refine ev_br (br_icmp_eq (tgt := 1494) (pc := 1078) dL_law_1078 (by decide)) (fun _ => ?_) (fun _ => ?_)
      · refine ev_sub (ls' := [(0, .ref (gs G).1), (1, .ref (gB G + v1)), (2, .ref (gB G + v2)), (3, .int v3)]) [0, 1, 2, 3] rfl ?_
        exact tL_law_1494 G fu h0 v0 v1 v2 v3 k18 hk18 h239
      · refine ev_step (st_iconst (pc := 1081) dL_law_1081 ni_0) ?_
        exact ev_zret (pc := 1082) dL_law_1082
    refine ev_case (n := 31) (c := (31 : Int32)) (off := 1050) (tgt := 1083) (pc := 33) q232 dL_law_33 (by decide) (by decide) (by decide) (by decide) (by decide) (fun _ => ?_) (fun q241 => ?_)
    · refine ev_step (st_aload_n (pc := 1083) (j := 1) dL_law_1083 rfl rfl) ?_
      refine ev_step (st_aload_n (pc := 1084) (j := 0) dL_law_1084 rfl rfl) ?_
      refine ev_step (st_iload_n (pc := 1085) (j := 3) dL_law_1085 rfl rfl) ?_
      refine ev_step (st_iconst (pc := 1086) dL_law_1086 ni_1) ?_
      refine ev_step (st_iadd (pc := 1087) dL_law_1087) ?_
      refine ev_ldX (pc := 1088) dL_law_1088 (fun x242 => ?_)
      refine ev_ck (fun ha hS => ?_)
      refine ev_callI (iv_V (As := [.int x242]) (st := []) (pc := 1089) rfl m_X9_rumour l_L_146 i_X9_rumour e_X9_rumour ha hS rfl (Nat.le_of_ble_eq_true rfl) rfl dL_law_1089) (tX9_rumour G fu v1 x242 h) (by decide) (by decide) (fun x244 h243 => ?_)
      refine ev_step (st_aload_n (pc := 1092) (j := 2) dL_law_1092 rfl rfl) ?_
      refine ev_step (st_aload_n (pc := 1093) (j := 0) dL_law_1093 rfl rfl) ?_
      refine ev_step (st_iload_n (pc := 1094) (j := 3) dL_law_1094 rfl rfl) ?_
      refine ev_step (st_iconst (pc := 1095) dL_law_1095 ni_1) ?_
      refine ev_step (st_iadd (pc := 1096) dL_law_1096) ?_
      refine ev_ldX (pc := 1097) dL_law_1097 (fun x245 => ?_)
      refine ev_ck (fun ha hS => ?_)
      refine ev_callI (iv_V (As := [.int x245]) (st := [.int x244]) (pc := 1098) rfl m_X10_rumour l_L_149 i_X10_rumour e_X10_rumour ha hS rfl (Nat.le_of_ble_eq_true rfl) rfl dL_law_1098) (tX10_rumour G fu v2 x245 h243) (by decide) (by decide) (fun x247 h246 => ?_)
      refine ev_br (br_icmp_eq (tgt := 1494) (pc := 1101) dL_law_1101 (by decide)) (fun _ => ?_) (fun _ => ?_)
      · refine ev_sub (ls' := [(0, .ref (gs G).1), (1, .ref (gB G + v1)), (2, .ref (gB G + v2)), (3, .int v3)]) [0, 1, 2, 3] rfl ?_
        exact tL_law_1494 G fu h0 v0 v1 v2 v3 k18 hk18 h246
      · refine ev_step (st_iconst (pc := 1104) dL_law_1104 ni_0) ?_
        exact ev_zret (pc := 1105) dL_law_1105
    refine ev_case (n := 32) (c := (32 : Int32)) (off := 1073) (tgt := 1106) (pc := 33) q241 dL_law_33 (by decide) (by decide) (by decide) (by decide) (by decide) (fun _ => ?_) (fun q248 => ?_)
    · refine ev_step (st_aload_n (pc := 1106) (j := 1) dL_law_1106 rfl rfl) ?_
      refine ev_step (st_aload_n (pc := 1107) (j := 0) dL_law_1107 rfl rfl) ?_
      refine ev_step (st_iload_n (pc := 1108) (j := 3) dL_law_1108 rfl rfl) ?_
      refine ev_step (st_iconst (pc := 1109) dL_law_1109 ni_1) ?_
      refine ev_step (st_iadd (pc := 1110) dL_law_1110) ?_
      refine ev_ldX (pc := 1111) dL_law_1111 (fun x249 => ?_)
      refine ev_ck (fun ha hS => ?_)
      refine ev_callI (iv_V (As := [.int x249]) (st := []) (pc := 1112) rfl m_X9_talks l_L_150 i_X9_talks e_X9_talks ha hS rfl (Nat.le_of_ble_eq_true rfl) rfl dL_law_1112) (tX9_talks G fu v1 x249 h) (by decide) (by decide) (fun x251 h250 => ?_)
      refine ev_step (st_aload_n (pc := 1115) (j := 2) dL_law_1115 rfl rfl) ?_
      refine ev_step (st_aload_n (pc := 1116) (j := 0) dL_law_1116 rfl rfl) ?_
      refine ev_step (st_iload_n (pc := 1117) (j := 3) dL_law_1117 rfl rfl) ?_
      refine ev_step (st_iconst (pc := 1118) dL_law_1118 ni_1) ?_
      refine ev_step (st_iadd (pc := 1119) dL_law_1119) ?_
      refine ev_ldX (pc := 1120) dL_law_1120 (fun x252 => ?_)
      refine ev_ck (fun ha hS => ?_)
      refine ev_callI (iv_V (As := [.int x252]) (st := [.int x251]) (pc := 1121) rfl m_X10_talks l_L_153 i_X10_talks e_X10_talks ha hS rfl (Nat.le_of_ble_eq_true rfl) rfl dL_law_1121) (tX10_talks G fu v2 x252 h250) (by decide) (by decide) (fun x254 h253 => ?_)
      refine ev_br (br_icmp_eq (tgt := 1494) (pc := 1124) dL_law_1124 (by decide)) (fun _ => ?_) (fun _ => ?_)
      · refine ev_sub (ls' := [(0, .ref (gs G).1), (1, .ref (gB G + v1)), (2, .ref (gB G + v2)), (3, .int v3)]) [0, 1, 2, 3] rfl ?_
        exact tL_law_1494 G fu h0 v0 v1 v2 v3 k18 hk18 h253
      · refine ev_step (st_iconst (pc := 1127) dL_law_1127 ni_0) ?_
        exact ev_zret (pc := 1128) dL_law_1128
    refine ev_case (n := 33) (c := (33 : Int32)) (off := 1096) (tgt := 1129) (pc := 33) q248 dL_law_33 (by decide) (by decide) (by decide) (by decide) (by decide) (fun _ => ?_) (fun q255 => ?_)
    · refine ev_step (st_aload_n (pc := 1129) (j := 1) dL_law_1129 rfl rfl) ?_
      refine ev_step (st_aload_n (pc := 1130) (j := 0) dL_law_1130 rfl rfl) ?_
      refine ev_step (st_iload_n (pc := 1131) (j := 3) dL_law_1131 rfl rfl) ?_
      refine ev_step (st_iconst (pc := 1132) dL_law_1132 ni_1) ?_
      refine ev_step (st_iadd (pc := 1133) dL_law_1133) ?_
      refine ev_ldX (pc := 1134) dL_law_1134 (fun x256 => ?_)
      refine ev_step (st_aload_n (pc := 1135) (j := 0) dL_law_1135 rfl rfl) ?_
      refine ev_step (st_iload_n (pc := 1136) (j := 3) dL_law_1136 rfl rfl) ?_
      refine ev_step (st_iconst (pc := 1137) dL_law_1137 ni_2) ?_
      refine ev_step (st_iadd (pc := 1138) dL_law_1138) ?_
      refine ev_ldX (pc := 1139) dL_law_1139 (fun x257 => ?_)
      refine ev_step (st_aload_n (pc := 1140) (j := 0) dL_law_1140 rfl rfl) ?_
      refine ev_step (st_iload_n (pc := 1141) (j := 3) dL_law_1141 rfl rfl) ?_
      refine ev_step (st_iconst (pc := 1142) dL_law_1142 ni_3) ?_
      refine ev_step (st_iadd (pc := 1143) dL_law_1143) ?_
      refine ev_ldX (pc := 1144) dL_law_1144 (fun x258 => ?_)
      refine ev_ck (fun ha hS => ?_)
      refine ev_callI (iv_V (As := [.int x256, .int x257, .int x258]) (st := []) (pc := 1145) rfl m_X9_then l_L_154 i_X9_then e_X9_then ha hS rfl (Nat.le_of_ble_eq_true rfl) rfl dL_law_1145) (tX9_then G fu v1 x256 x257 x258 h) (by decide) (by decide) (fun x260 h259 => ?_)
      refine ev_step (st_aload_n (pc := 1148) (j := 2) dL_law_1148 rfl rfl) ?_
      refine ev_step (st_aload_n (pc := 1149) (j := 0) dL_law_1149 rfl rfl) ?_
      refine ev_step (st_iload_n (pc := 1150) (j := 3) dL_law_1150 rfl rfl) ?_
      refine ev_step (st_iconst (pc := 1151) dL_law_1151 ni_1) ?_
      refine ev_step (st_iadd (pc := 1152) dL_law_1152) ?_
      refine ev_ldX (pc := 1153) dL_law_1153 (fun x261 => ?_)
      refine ev_step (st_aload_n (pc := 1154) (j := 0) dL_law_1154 rfl rfl) ?_
      refine ev_step (st_iload_n (pc := 1155) (j := 3) dL_law_1155 rfl rfl) ?_
      refine ev_step (st_iconst (pc := 1156) dL_law_1156 ni_2) ?_
      refine ev_step (st_iadd (pc := 1157) dL_law_1157) ?_
      refine ev_ldX (pc := 1158) dL_law_1158 (fun x262 => ?_)
      refine ev_step (st_aload_n (pc := 1159) (j := 0) dL_law_1159 rfl rfl) ?_
      refine ev_step (st_iload_n (pc := 1160) (j := 3) dL_law_1160 rfl rfl) ?_
      refine ev_step (st_iconst (pc := 1161) dL_law_1161 ni_3) ?_
      refine ev_step (st_iadd (pc := 1162) dL_law_1162) ?_
      refine ev_ldX (pc := 1163) dL_law_1163 (fun x263 => ?_)
      refine ev_ck (fun ha hS => ?_)
      refine ev_callI (iv_V (As := [.int x261, .int x262, .int x263]) (st := [.int x260]) (pc := 1164) rfl m_X10_then l_L_157 i_X10_then e_X10_then ha hS rfl (Nat.le_of_ble_eq_true rfl) rfl dL_law_1164) (tX10_then G fu v2 x261 x262 x263 h259) (by decide) (by decide) (fun x265 h264 => ?_)
      refine ev_br (br_icmp_eq (tgt := 1494) (pc := 1167) dL_law_1167 (by decide)) (fun _ => ?_) (fun _ => ?_)
      · refine ev_sub (ls' := [(0, .ref (gs G).1), (1, .ref (gB G + v1)), (2, .ref (gB G + v2)), (3, .int v3)]) [0, 1, 2, 3] rfl ?_
        exact tL_law_1494 G fu h0 v0 v1 v2 v3 k18 hk18 h264
      · refine ev_step (st_iconst (pc := 1170) dL_law_1170 ni_0) ?_
        exact ev_zret (pc := 1171) dL_law_1171
    refine ev_case (n := 34) (c := (34 : Int32)) (off := 1139) (tgt := 1172) (pc := 33) q255 dL_law_33 (by decide) (by decide) (by decide) (by decide) (by decide) (fun _ => ?_) (fun q266 => ?_)
    · refine ev_step (st_aload_n (pc := 1172) (j := 1) dL_law_1172 rfl rfl) ?_
      refine ev_step (st_aload_n (pc := 1173) (j := 0) dL_law_1173 rfl rfl) ?_
      refine ev_step (st_iload_n (pc := 1174) (j := 3) dL_law_1174 rfl rfl) ?_
      refine ev_step (st_iconst (pc := 1175) dL_law_1175 ni_1) ?_
      refine ev_step (st_iadd (pc := 1176) dL_law_1176) ?_
      refine ev_ldX (pc := 1177) dL_law_1177 (fun x267 => ?_)
      refine ev_step (st_aload_n (pc := 1178) (j := 0) dL_law_1178 rfl rfl) ?_
      refine ev_step (st_iload_n (pc := 1179) (j := 3) dL_law_1179 rfl rfl) ?_
      refine ev_step (st_iconst (pc := 1180) dL_law_1180 ni_2) ?_
      refine ev_step (st_iadd (pc := 1181) dL_law_1181) ?_
      refine ev_ldX (pc := 1182) dL_law_1182 (fun x268 => ?_)
      refine ev_ck (fun ha hS => ?_)
      refine ev_callI (iv_V (As := [.int x267, .int x268]) (st := []) (pc := 1183) rfl m_X9_quietIn l_L_158 i_X9_quietIn e_X9_quietIn ha hS rfl (Nat.le_of_ble_eq_true rfl) rfl dL_law_1183) (tX9_quietIn G fu v1 x267 x268 h) (by decide) (by decide) (fun x270 h269 => ?_)
      refine ev_step (st_aload_n (pc := 1186) (j := 2) dL_law_1186 rfl rfl) ?_
      refine ev_step (st_aload_n (pc := 1187) (j := 0) dL_law_1187 rfl rfl) ?_
      refine ev_step (st_iload_n (pc := 1188) (j := 3) dL_law_1188 rfl rfl) ?_
      refine ev_step (st_iconst (pc := 1189) dL_law_1189 ni_1) ?_
      refine ev_step (st_iadd (pc := 1190) dL_law_1190) ?_
      refine ev_ldX (pc := 1191) dL_law_1191 (fun x271 => ?_)
      refine ev_step (st_aload_n (pc := 1192) (j := 0) dL_law_1192 rfl rfl) ?_
      refine ev_step (st_iload_n (pc := 1193) (j := 3) dL_law_1193 rfl rfl) ?_
      refine ev_step (st_iconst (pc := 1194) dL_law_1194 ni_2) ?_
      refine ev_step (st_iadd (pc := 1195) dL_law_1195) ?_
      refine ev_ldX (pc := 1196) dL_law_1196 (fun x272 => ?_)
      refine ev_ck (fun ha hS => ?_)
      refine ev_callI (iv_V (As := [.int x271, .int x272]) (st := [.int x270]) (pc := 1197) rfl m_X10_quietIn l_L_161 i_X10_quietIn e_X10_quietIn ha hS rfl (Nat.le_of_ble_eq_true rfl) rfl dL_law_1197) (tX10_quietIn G fu v2 x271 x272 h269) (by decide) (by decide) (fun x274 h273 => ?_)
      refine ev_br (br_icmp_eq (tgt := 1494) (pc := 1200) dL_law_1200 (by decide)) (fun _ => ?_) (fun _ => ?_)
      · refine ev_sub (ls' := [(0, .ref (gs G).1), (1, .ref (gB G + v1)), (2, .ref (gB G + v2)), (3, .int v3)]) [0, 1, 2, 3] rfl ?_
        exact tL_law_1494 G fu h0 v0 v1 v2 v3 k18 hk18 h273
      · refine ev_step (st_iconst (pc := 1203) dL_law_1203 ni_0) ?_
        exact ev_zret (pc := 1204) dL_law_1204
    refine ev_case (n := 35) (c := (35 : Int32)) (off := 1172) (tgt := 1205) (pc := 33) q266 dL_law_33 (by decide) (by decide) (by decide) (by decide) (by decide) (fun _ => ?_) (fun q275 => ?_)
    · refine ev_step (st_aload_n (pc := 1205) (j := 1) dL_law_1205 rfl rfl) ?_
      refine ev_step (st_aload_n (pc := 1206) (j := 0) dL_law_1206 rfl rfl) ?_
      refine ev_step (st_iload_n (pc := 1207) (j := 3) dL_law_1207 rfl rfl) ?_
      refine ev_step (st_iconst (pc := 1208) dL_law_1208 ni_1) ?_
      refine ev_step (st_iadd (pc := 1209) dL_law_1209) ?_
      refine ev_ldX (pc := 1210) dL_law_1210 (fun x276 => ?_)
      refine ev_step (st_aload_n (pc := 1211) (j := 0) dL_law_1211 rfl rfl) ?_
      refine ev_step (st_iload_n (pc := 1212) (j := 3) dL_law_1212 rfl rfl) ?_
      refine ev_step (st_iconst (pc := 1213) dL_law_1213 ni_2) ?_
      refine ev_step (st_iadd (pc := 1214) dL_law_1214) ?_
      refine ev_ldX (pc := 1215) dL_law_1215 (fun x277 => ?_)
      refine ev_step (st_aload_n (pc := 1216) (j := 0) dL_law_1216 rfl rfl) ?_
      refine ev_step (st_iload_n (pc := 1217) (j := 3) dL_law_1217 rfl rfl) ?_
      refine ev_step (st_iconst (pc := 1218) dL_law_1218 ni_3) ?_
      refine ev_step (st_iadd (pc := 1219) dL_law_1219) ?_
      refine ev_ldX (pc := 1220) dL_law_1220 (fun x278 => ?_)
      refine ev_step (st_aload_n (pc := 1221) (j := 0) dL_law_1221 rfl rfl) ?_
      refine ev_step (st_iload_n (pc := 1222) (j := 3) dL_law_1222 rfl rfl) ?_
      refine ev_step (st_iconst (pc := 1223) dL_law_1223 ni_4) ?_
      refine ev_step (st_iadd (pc := 1224) dL_law_1224) ?_
      refine ev_ldX (pc := 1225) dL_law_1225 (fun x279 => ?_)
      refine ev_ck (fun ha hS => ?_)
      refine ev_callI (iv_V (As := [.int x276, .int x277, .int x278, .int x279]) (st := []) (pc := 1226) rfl m_X9_sure l_L_162 i_X9_sure e_X9_sure ha hS rfl (Nat.le_of_ble_eq_true rfl) rfl dL_law_1226) (tX9_sure G fu v1 x276 x277 x278 x279 h) (by decide) (by decide) (fun x281 h280 => ?_)
      refine ev_step (st_aload_n (pc := 1229) (j := 2) dL_law_1229 rfl rfl) ?_
      refine ev_step (st_aload_n (pc := 1230) (j := 0) dL_law_1230 rfl rfl) ?_
      refine ev_step (st_iload_n (pc := 1231) (j := 3) dL_law_1231 rfl rfl) ?_
      refine ev_step (st_iconst (pc := 1232) dL_law_1232 ni_1) ?_
      refine ev_step (st_iadd (pc := 1233) dL_law_1233) ?_
      refine ev_ldX (pc := 1234) dL_law_1234 (fun x282 => ?_)
      refine ev_step (st_aload_n (pc := 1235) (j := 0) dL_law_1235 rfl rfl) ?_
      refine ev_step (st_iload_n (pc := 1236) (j := 3) dL_law_1236 rfl rfl) ?_
      refine ev_step (st_iconst (pc := 1237) dL_law_1237 ni_2) ?_
      refine ev_step (st_iadd (pc := 1238) dL_law_1238) ?_
      refine ev_ldX (pc := 1239) dL_law_1239 (fun x283 => ?_)
      refine ev_step (st_aload_n (pc := 1240) (j := 0) dL_law_1240 rfl rfl) ?_
      refine ev_step (st_iload_n (pc := 1241) (j := 3) dL_law_1241 rfl rfl) ?_
      refine ev_step (st_iconst (pc := 1242) dL_law_1242 ni_3) ?_
      refine ev_step (st_iadd (pc := 1243) dL_law_1243) ?_
      refine ev_ldX (pc := 1244) dL_law_1244 (fun x284 => ?_)
      refine ev_step (st_aload_n (pc := 1245) (j := 0) dL_law_1245 rfl rfl) ?_
      refine ev_step (st_iload_n (pc := 1246) (j := 3) dL_law_1246 rfl rfl) ?_
      refine ev_step (st_iconst (pc := 1247) dL_law_1247 ni_4) ?_
      refine ev_step (st_iadd (pc := 1248) dL_law_1248) ?_
      refine ev_ldX (pc := 1249) dL_law_1249 (fun x285 => ?_)
      refine ev_ck (fun ha hS => ?_)
      refine ev_callI (iv_V (As := [.int x282, .int x283, .int x284, .int x285]) (st := [.int x281]) (pc := 1250) rfl m_X10_sure l_L_166 i_X10_sure e_X10_sure ha hS rfl (Nat.le_of_ble_eq_true rfl) rfl dL_law_1250) (tX10_sure G fu v2 x282 x283 x284 x285 h280) (by decide) (by decide) (fun x287 h286 => ?_)
      refine ev_br (br_icmp_eq (tgt := 1494) (pc := 1253) dL_law_1253 (by decide)) (fun _ => ?_) (fun _ => ?_)
      · refine ev_sub (ls' := [(0, .ref (gs G).1), (1, .ref (gB G + v1)), (2, .ref (gB G + v2)), (3, .int v3)]) [0, 1, 2, 3] rfl ?_
        exact tL_law_1494 G fu h0 v0 v1 v2 v3 k18 hk18 h286
      · refine ev_step (st_iconst (pc := 1256) dL_law_1256 ni_0) ?_
        exact ev_zret (pc := 1257) dL_law_1257
    refine ev_case (n := 36) (c := (36 : Int32)) (off := 1225) (tgt := 1258) (pc := 33) q275 dL_law_33 (by decide) (by decide) (by decide) (by decide) (by decide) (fun _ => ?_) (fun q288 => ?_)
    · refine ev_step (st_aload_n (pc := 1258) (j := 1) dL_law_1258 rfl rfl) ?_
      refine ev_step (st_aload_n (pc := 1259) (j := 0) dL_law_1259 rfl rfl) ?_
      refine ev_step (st_iload_n (pc := 1260) (j := 3) dL_law_1260 rfl rfl) ?_
      refine ev_step (st_iconst (pc := 1261) dL_law_1261 ni_1) ?_
      refine ev_step (st_iadd (pc := 1262) dL_law_1262) ?_
      refine ev_ldX (pc := 1263) dL_law_1263 (fun x289 => ?_)
      refine ev_step (st_aload_n (pc := 1264) (j := 0) dL_law_1264 rfl rfl) ?_
      refine ev_step (st_iload_n (pc := 1265) (j := 3) dL_law_1265 rfl rfl) ?_
      refine ev_step (st_iconst (pc := 1266) dL_law_1266 ni_2) ?_
      refine ev_step (st_iadd (pc := 1267) dL_law_1267) ?_
      refine ev_ldX (pc := 1268) dL_law_1268 (fun x290 => ?_)
      refine ev_br (br_if_eq (tgt := 1276) (pc := 1269) dL_law_1269 (by decide)) (fun _ => ?_) (fun _ => ?_)
      · refine ev_step (st_iconst (pc := 1276) dL_law_1276 ni_0) ?_
        refine ev_sub (ls' := [(0, .ref (gs G).1), (1, .ref (gB G + v1)), (2, .ref (gB G + v2)), (3, .int v3)]) [0, 1, 2, 3] rfl ?_
        exact tL_law_1277 G fu h0 v0 v1 v2 v3 v1 x289 ((0 : Int32)) k18 hk18 h
      · refine ev_step (st_iconst (pc := 1272) dL_law_1272 ni_1) ?_
        refine ev_step (st_goto (pc := 1273) (tgt := 1277) dL_law_1273 (by decide)) ?_
        refine ev_sub (ls' := [(0, .ref (gs G).1), (1, .ref (gB G + v1)), (2, .ref (gB G + v2)), (3, .int v3)]) [0, 1, 2, 3] rfl ?_
        exact tL_law_1277 G fu h0 v0 v1 v2 v3 v1 x289 ((1 : Int32)) k18 hk18 h
    refine ev_case (n := 37) (c := (37 : Int32)) (off := 1274) (tgt := 1307) (pc := 33) q288 dL_law_33 (by decide) (by decide) (by decide) (by decide) (by decide) (fun _ => ?_) (fun q291 => ?_)
    · refine ev_step (st_aload_n (pc := 1307) (j := 1) dL_law_1307 rfl rfl) ?_
      refine ev_step (st_aload_n (pc := 1308) (j := 0) dL_law_1308 rfl rfl) ?_
      refine ev_step (st_iload_n (pc := 1309) (j := 3) dL_law_1309 rfl rfl) ?_
      refine ev_step (st_iconst (pc := 1310) dL_law_1310 ni_1) ?_
      refine ev_step (st_iadd (pc := 1311) dL_law_1311) ?_
      refine ev_ldX (pc := 1312) dL_law_1312 (fun x292 => ?_)
      refine ev_step (st_aload_n (pc := 1313) (j := 0) dL_law_1313 rfl rfl) ?_
      refine ev_step (st_iload_n (pc := 1314) (j := 3) dL_law_1314 rfl rfl) ?_
      refine ev_step (st_iconst (pc := 1315) dL_law_1315 ni_2) ?_
      refine ev_step (st_iadd (pc := 1316) dL_law_1316) ?_
      refine ev_ldX (pc := 1317) dL_law_1317 (fun x293 => ?_)
      refine ev_br (br_if_eq (tgt := 1325) (pc := 1318) dL_law_1318 (by decide)) (fun _ => ?_) (fun _ => ?_)
      · refine ev_step (st_iconst (pc := 1325) dL_law_1325 ni_0) ?_
        refine ev_sub (ls' := [(0, .ref (gs G).1), (1, .ref (gB G + v1)), (2, .ref (gB G + v2)), (3, .int v3)]) [0, 1, 2, 3] rfl ?_
        exact tL_law_1326 G fu h0 v0 v1 v2 v3 v1 x292 ((0 : Int32)) k18 hk18 h
      · refine ev_step (st_iconst (pc := 1321) dL_law_1321 ni_1) ?_
        refine ev_step (st_goto (pc := 1322) (tgt := 1326) dL_law_1322 (by decide)) ?_
        refine ev_sub (ls' := [(0, .ref (gs G).1), (1, .ref (gB G + v1)), (2, .ref (gB G + v2)), (3, .int v3)]) [0, 1, 2, 3] rfl ?_
        exact tL_law_1326 G fu h0 v0 v1 v2 v3 v1 x292 ((1 : Int32)) k18 hk18 h
    refine ev_case (n := 38) (c := (38 : Int32)) (off := 1323) (tgt := 1356) (pc := 33) q291 dL_law_33 (by decide) (by decide) (by decide) (by decide) (by decide) (fun _ => ?_) (fun q294 => ?_)
    · refine ev_step (st_aload_n (pc := 1356) (j := 1) dL_law_1356 rfl rfl) ?_
      refine ev_ck (fun ha hS => ?_)
      refine ev_callI (iv_V (As := []) (st := []) (pc := 1357) rfl m_X9_forget l_L_176 i_X9_forget e_X9_forget ha hS rfl (Nat.le_of_ble_eq_true rfl) rfl dL_law_1357) (tX9_forget G fu v1 h) (by decide) (by decide) (fun x296 h295 => ?_)
      refine ev_step (st_aload_n (pc := 1360) (j := 2) dL_law_1360 rfl rfl) ?_
      refine ev_ck (fun ha hS => ?_)
      refine ev_callI (iv_V (As := []) (st := [.int x296]) (pc := 1361) rfl m_X10_forget l_L_179 i_X10_forget e_X10_forget ha hS rfl (Nat.le_of_ble_eq_true rfl) rfl dL_law_1361) (tX10_forget G fu v2 h295) (by decide) (by decide) (fun x298 h297 => ?_)
      refine ev_br (br_icmp_eq (tgt := 1494) (pc := 1364) dL_law_1364 (by decide)) (fun _ => ?_) (fun _ => ?_)
      · refine ev_sub (ls' := [(0, .ref (gs G).1), (1, .ref (gB G + v1)), (2, .ref (gB G + v2)), (3, .int v3)]) [0, 1, 2, 3] rfl ?_
        exact tL_law_1494 G fu h0 v0 v1 v2 v3 k18 hk18 h297
      · refine ev_step (st_iconst (pc := 1367) dL_law_1367 ni_0) ?_
        exact ev_zret (pc := 1368) dL_law_1368
    refine ev_case (n := 39) (c := (39 : Int32)) (off := 1336) (tgt := 1369) (pc := 33) q294 dL_law_33 (by decide) (by decide) (by decide) (by decide) (by decide) (fun _ => ?_) (fun q299 => ?_)
    · refine ev_step (st_aload_n (pc := 1369) (j := 1) dL_law_1369 rfl rfl) ?_
      refine ev_step (st_aload_n (pc := 1370) (j := 0) dL_law_1370 rfl rfl) ?_
      refine ev_step (st_iload_n (pc := 1371) (j := 3) dL_law_1371 rfl rfl) ?_
      refine ev_step (st_iconst (pc := 1372) dL_law_1372 ni_1) ?_
      refine ev_step (st_iadd (pc := 1373) dL_law_1373) ?_
      refine ev_ldX (pc := 1374) dL_law_1374 (fun x300 => ?_)
      refine ev_step (st_aload_n (pc := 1375) (j := 0) dL_law_1375 rfl rfl) ?_
      refine ev_step (st_iload_n (pc := 1376) (j := 3) dL_law_1376 rfl rfl) ?_
      refine ev_step (st_iconst (pc := 1377) dL_law_1377 ni_2) ?_
      refine ev_step (st_iadd (pc := 1378) dL_law_1378) ?_
      refine ev_ldX (pc := 1379) dL_law_1379 (fun x301 => ?_)
      refine ev_ck (fun ha hS => ?_)
      refine ev_callI (iv_V (As := [.int x300, .int x301]) (st := []) (pc := 1380) rfl m_X9_who l_L_180 i_X9_who e_X9_who ha hS rfl (Nat.le_of_ble_eq_true rfl) rfl dL_law_1380) (tX9_who G fu v1 x300 x301 h) (by decide) (by decide) (fun x303 h302 => ?_)
      refine ev_step (st_aload_n (pc := 1383) (j := 2) dL_law_1383 rfl rfl) ?_
      refine ev_step (st_aload_n (pc := 1384) (j := 0) dL_law_1384 rfl rfl) ?_
      refine ev_step (st_iload_n (pc := 1385) (j := 3) dL_law_1385 rfl rfl) ?_
      refine ev_step (st_iconst (pc := 1386) dL_law_1386 ni_1) ?_
      refine ev_step (st_iadd (pc := 1387) dL_law_1387) ?_
      refine ev_ldX (pc := 1388) dL_law_1388 (fun x304 => ?_)
      refine ev_step (st_aload_n (pc := 1389) (j := 0) dL_law_1389 rfl rfl) ?_
      refine ev_step (st_iload_n (pc := 1390) (j := 3) dL_law_1390 rfl rfl) ?_
      refine ev_step (st_iconst (pc := 1391) dL_law_1391 ni_2) ?_
      refine ev_step (st_iadd (pc := 1392) dL_law_1392) ?_
      refine ev_ldX (pc := 1393) dL_law_1393 (fun x305 => ?_)
      refine ev_ck (fun ha hS => ?_)
      refine ev_callI (iv_V (As := [.int x304, .int x305]) (st := [.int x303]) (pc := 1394) rfl m_X10_who l_L_183 i_X10_who e_X10_who ha hS rfl (Nat.le_of_ble_eq_true rfl) rfl dL_law_1394) (tX10_who G fu v2 x304 x305 h302) (by decide) (by decide) (fun x307 h306 => ?_)
      refine ev_br (br_icmp_eq (tgt := 1494) (pc := 1397) dL_law_1397 (by decide)) (fun _ => ?_) (fun _ => ?_)
      · refine ev_sub (ls' := [(0, .ref (gs G).1), (1, .ref (gB G + v1)), (2, .ref (gB G + v2)), (3, .int v3)]) [0, 1, 2, 3] rfl ?_
        exact tL_law_1494 G fu h0 v0 v1 v2 v3 k18 hk18 h306
      · refine ev_step (st_iconst (pc := 1400) dL_law_1400 ni_0) ?_
        exact ev_zret (pc := 1401) dL_law_1401
    refine ev_case (n := 40) (c := (40 : Int32)) (off := 1369) (tgt := 1402) (pc := 33) q299 dL_law_33 (by decide) (by decide) (by decide) (by decide) (by decide) (fun _ => ?_) (fun q308 => ?_)
    · refine ev_step (st_aload_n (pc := 1402) (j := 1) dL_law_1402 rfl rfl) ?_
      refine ev_step (st_aload_n (pc := 1403) (j := 0) dL_law_1403 rfl rfl) ?_
      refine ev_step (st_iload_n (pc := 1404) (j := 3) dL_law_1404 rfl rfl) ?_
      refine ev_step (st_iconst (pc := 1405) dL_law_1405 ni_1) ?_
      refine ev_step (st_iadd (pc := 1406) dL_law_1406) ?_
      refine ev_ldX (pc := 1407) dL_law_1407 (fun x309 => ?_)
      refine ev_ck (fun ha hS => ?_)
      refine ev_callI (iv_V (As := [.int x309]) (st := []) (pc := 1408) rfl m_X9_ask l_L_184 i_X9_ask e_X9_ask ha hS rfl (Nat.le_of_ble_eq_true rfl) rfl dL_law_1408) (tX9_ask G fu v1 x309 h) (by decide) (by decide) (fun x311 h310 => ?_)
      refine ev_step (st_aload_n (pc := 1411) (j := 2) dL_law_1411 rfl rfl) ?_
      refine ev_step (st_aload_n (pc := 1412) (j := 0) dL_law_1412 rfl rfl) ?_
      refine ev_step (st_iload_n (pc := 1413) (j := 3) dL_law_1413 rfl rfl) ?_
      refine ev_step (st_iconst (pc := 1414) dL_law_1414 ni_1) ?_
      refine ev_step (st_iadd (pc := 1415) dL_law_1415) ?_
      refine ev_ldX (pc := 1416) dL_law_1416 (fun x312 => ?_)
      refine ev_ck (fun ha hS => ?_)
      refine ev_callI (iv_V (As := [.int x312]) (st := [.int x311]) (pc := 1417) rfl m_X10_ask l_L_187 i_X10_ask e_X10_ask ha hS rfl (Nat.le_of_ble_eq_true rfl) rfl dL_law_1417) (tX10_ask G fu v2 x312 h310) (by decide) (by decide) (fun x314 h313 => ?_)
      refine ev_br (br_icmp_eq (tgt := 1494) (pc := 1420) dL_law_1420 (by decide)) (fun _ => ?_) (fun _ => ?_)
      · refine ev_sub (ls' := [(0, .ref (gs G).1), (1, .ref (gB G + v1)), (2, .ref (gB G + v2)), (3, .int v3)]) [0, 1, 2, 3] rfl ?_
        exact tL_law_1494 G fu h0 v0 v1 v2 v3 k18 hk18 h313
      · refine ev_step (st_iconst (pc := 1423) dL_law_1423 ni_0) ?_
        exact ev_zret (pc := 1424) dL_law_1424
    refine ev_case (n := 41) (c := (41 : Int32)) (off := 1392) (tgt := 1425) (pc := 33) q308 dL_law_33 (by decide) (by decide) (by decide) (by decide) (by decide) (fun _ => ?_) (fun q315 => ?_)
    · refine ev_step (st_aload_n (pc := 1425) (j := 1) dL_law_1425 rfl rfl) ?_
      refine ev_step (st_aload_n (pc := 1426) (j := 0) dL_law_1426 rfl rfl) ?_
      refine ev_step (st_iload_n (pc := 1427) (j := 3) dL_law_1427 rfl rfl) ?_
      refine ev_step (st_iconst (pc := 1428) dL_law_1428 ni_1) ?_
      refine ev_step (st_iadd (pc := 1429) dL_law_1429) ?_
      refine ev_ldX (pc := 1430) dL_law_1430 (fun x316 => ?_)
      refine ev_ck (fun ha hS => ?_)
      refine ev_callI (iv_V (As := [.int x316]) (st := []) (pc := 1431) rfl m_X9_hold l_L_188 i_X9_hold e_X9_hold ha hS rfl (Nat.le_of_ble_eq_true rfl) rfl dL_law_1431) (tX9_hold G fu v1 x316 h) (by decide) (by decide) (fun x318 h317 => ?_)
      refine ev_step (st_aload_n (pc := 1434) (j := 2) dL_law_1434 rfl rfl) ?_
      refine ev_step (st_aload_n (pc := 1435) (j := 0) dL_law_1435 rfl rfl) ?_
      refine ev_step (st_iload_n (pc := 1436) (j := 3) dL_law_1436 rfl rfl) ?_
      refine ev_step (st_iconst (pc := 1437) dL_law_1437 ni_1) ?_
      refine ev_step (st_iadd (pc := 1438) dL_law_1438) ?_
      refine ev_ldX (pc := 1439) dL_law_1439 (fun x319 => ?_)
      refine ev_ck (fun ha hS => ?_)
      refine ev_callI (iv_V (As := [.int x319]) (st := [.int x318]) (pc := 1440) rfl m_X10_hold l_L_191 i_X10_hold e_X10_hold ha hS rfl (Nat.le_of_ble_eq_true rfl) rfl dL_law_1440) (tX10_hold G fu v2 x319 h317) (by decide) (by decide) (fun x321 h320 => ?_)
      refine ev_br (br_icmp_eq (tgt := 1494) (pc := 1443) dL_law_1443 (by decide)) (fun _ => ?_) (fun _ => ?_)
      · refine ev_sub (ls' := [(0, .ref (gs G).1), (1, .ref (gB G + v1)), (2, .ref (gB G + v2)), (3, .int v3)]) [0, 1, 2, 3] rfl ?_
        exact tL_law_1494 G fu h0 v0 v1 v2 v3 k18 hk18 h320
      · refine ev_step (st_iconst (pc := 1446) dL_law_1446 ni_0) ?_
        exact ev_zret (pc := 1447) dL_law_1447
    refine ev_case (n := 42) (c := (42 : Int32)) (off := 1415) (tgt := 1448) (pc := 33) q315 dL_law_33 (by decide) (by decide) (by decide) (by decide) (by decide) (fun _ => ?_) (fun q322 => ?_)
    · refine ev_step (st_aload_n (pc := 1448) (j := 1) dL_law_1448 rfl rfl) ?_
      refine ev_step (st_aload_n (pc := 1449) (j := 0) dL_law_1449 rfl rfl) ?_
      refine ev_step (st_iload_n (pc := 1450) (j := 3) dL_law_1450 rfl rfl) ?_
      refine ev_step (st_iconst (pc := 1451) dL_law_1451 ni_1) ?_
      refine ev_step (st_iadd (pc := 1452) dL_law_1452) ?_
      refine ev_ldX (pc := 1453) dL_law_1453 (fun x323 => ?_)
      refine ev_ck (fun ha hS => ?_)
      refine ev_callI (iv_V (As := [.int x323]) (st := []) (pc := 1454) rfl m_X9_restore l_L_192 i_X9_restore e_X9_restore ha hS rfl (Nat.le_of_ble_eq_true rfl) rfl dL_law_1454) (tX9_restore G fu v1 x323 h) (by decide) (by decide) (fun x325 h324 => ?_)
      refine ev_step (st_aload_n (pc := 1457) (j := 2) dL_law_1457 rfl rfl) ?_
      refine ev_step (st_aload_n (pc := 1458) (j := 0) dL_law_1458 rfl rfl) ?_
      refine ev_step (st_iload_n (pc := 1459) (j := 3) dL_law_1459 rfl rfl) ?_
      refine ev_step (st_iconst (pc := 1460) dL_law_1460 ni_1) ?_
      refine ev_step (st_iadd (pc := 1461) dL_law_1461) ?_
      refine ev_ldX (pc := 1462) dL_law_1462 (fun x326 => ?_)
      refine ev_ck (fun ha hS => ?_)
      refine ev_callI (iv_V (As := [.int x326]) (st := [.int x325]) (pc := 1463) rfl m_X10_restore l_L_195 i_X10_restore e_X10_restore ha hS rfl (Nat.le_of_ble_eq_true rfl) rfl dL_law_1463) (tX10_restore G fu v2 x326 h324) (by decide) (by decide) (fun x328 h327 => ?_)
      refine ev_br (br_icmp_eq (tgt := 1494) (pc := 1466) dL_law_1466 (by decide)) (fun _ => ?_) (fun _ => ?_)
      · refine ev_sub (ls' := [(0, .ref (gs G).1), (1, .ref (gB G + v1)), (2, .ref (gB G + v2)), (3, .int v3)]) [0, 1, 2, 3] rfl ?_
        exact tL_law_1494 G fu h0 v0 v1 v2 v3 k18 hk18 h327
      · refine ev_step (st_iconst (pc := 1469) dL_law_1469 ni_0) ?_
        exact ev_zret (pc := 1470) dL_law_1470
    refine ev_case (n := 43) (c := (43 : Int32)) (off := 1438) (tgt := 1471) (pc := 33) q322 dL_law_33 (by decide) (by decide) (by decide) (by decide) (by decide) (fun _ => ?_) (fun q329 => ?_)
    · refine ev_step (st_aload_n (pc := 1471) (j := 1) dL_law_1471 rfl rfl) ?_
      refine ev_step (st_aload_n (pc := 1472) (j := 0) dL_law_1472 rfl rfl) ?_
      refine ev_step (st_iload_n (pc := 1473) (j := 3) dL_law_1473 rfl rfl) ?_
      refine ev_step (st_iconst (pc := 1474) dL_law_1474 ni_1) ?_
      refine ev_step (st_iadd (pc := 1475) dL_law_1475) ?_
      refine ev_ldX (pc := 1476) dL_law_1476 (fun x330 => ?_)
      refine ev_ck (fun ha hS => ?_)
      refine ev_callI (iv_V (As := [.int x330]) (st := []) (pc := 1477) rfl m_X9_count l_L_196 i_X9_count e_X9_count ha hS rfl (Nat.le_of_ble_eq_true rfl) rfl dL_law_1477) (tX9_count G fu v1 x330 h) (by decide) (by decide) (fun x332 h331 => ?_)
      refine ev_step (st_aload_n (pc := 1480) (j := 2) dL_law_1480 rfl rfl) ?_
      refine ev_step (st_aload_n (pc := 1481) (j := 0) dL_law_1481 rfl rfl) ?_
      refine ev_step (st_iload_n (pc := 1482) (j := 3) dL_law_1482 rfl rfl) ?_
      refine ev_step (st_iconst (pc := 1483) dL_law_1483 ni_1) ?_
      refine ev_step (st_iadd (pc := 1484) dL_law_1484) ?_
      refine ev_ldX (pc := 1485) dL_law_1485 (fun x333 => ?_)
      refine ev_ck (fun ha hS => ?_)
      refine ev_callI (iv_V (As := [.int x333]) (st := [.int x332]) (pc := 1486) rfl m_X10_count l_L_199 i_X10_count e_X10_count ha hS rfl (Nat.le_of_ble_eq_true rfl) rfl dL_law_1486) (tX10_count G fu v2 x333 h331) (by decide) (by decide) (fun x335 h334 => ?_)
      refine ev_br (br_icmp_eq (tgt := 1494) (pc := 1489) dL_law_1489 (by decide)) (fun _ => ?_) (fun _ => ?_)
      · refine ev_sub (ls' := [(0, .ref (gs G).1), (1, .ref (gB G + v1)), (2, .ref (gB G + v2)), (3, .int v3)]) [0, 1, 2, 3] rfl ?_
        exact tL_law_1494 G fu h0 v0 v1 v2 v3 k18 hk18 h334
      · refine ev_step (st_iconst (pc := 1492) dL_law_1492 ni_0) ?_
        exact ev_zret (pc := 1493) dL_law_1493
    refine ev_dflt (n := 44) (tgt := 1494) (pc := 33) q329 dL_law_33 (by decide) (by decide) ?_
    refine ev_sub (ls' := [(0, .ref (gs G).1), (1, .ref (gB G + v1)), (2, .ref (gB G + v2)), (3, .int v3)]) [0, 1, 2, 3] rfl ?_
    exact tL_law_1494 G fu h0 v0 v1 v2 v3 k18 hk18 h
set_option maxRecDepth 100000 in
set_option maxHeartbeats 4000000 in
theorem tL_law (G : gx) (fu : Nat) (v0 : Unit) (h : mh) : Ev lI G yL_law cL_law 4 (some .boolean) 14 h 0 [(0, .ref (gs G).1)] [] h (fL_law fu (gs G).2.1 (gs G).2.2 v0 h) := by
  unfold fL_law
  refine ev_new (pc := 0) n_L_7 dL_law_0 (fun a1 h2 => ?_)
  refine ev_step (st_dup (pc := 3) dL_law_3 rfl) ?_
  refine ev_callV (iv_I (As := []) (st := [.ref (gB G + a1)]) (pc := 4) m_X9_init l_L_9 i_X9_init rfl rfl (Nat.le_of_ble_eq_true rfl) rfl dL_law_4) (tX9_init G fu a1 h2) (by decide) (by decide) (fun h3 => ?_)
  refine ev_step (st_astore_n (pc := 7) (ls' := [(1, .ref (gB G + a1)), (0, .ref (gs G).1)]) dL_law_7 rfl (by decide) rfl) ?_
  refine ev_new (pc := 8) n_L_10 dL_law_8 (fun a4 h5 => ?_)
  refine ev_step (st_dup (pc := 11) dL_law_11 rfl) ?_
  refine ev_callV (iv_I (As := []) (st := [.ref (gB G + a4)]) (pc := 12) m_X10_init l_L_12 i_X10_init rfl rfl (Nat.le_of_ble_eq_true rfl) rfl dL_law_12) (tX10_init G fu a4 h5) (by decide) (by decide) (fun h6 => ?_)
  refine ev_step (st_astore_n (pc := 15) (ls' := [(2, .ref (gB G + a4)), (1, .ref (gB G + a1)), (0, .ref (gs G).1)]) dL_law_15 rfl (by decide) rfl) ?_
  refine ev_step (st_iconst (pc := 16) dL_law_16 ni_0) ?_
  refine ev_step (st_istore_n (pc := 17) (ls' := [(3, .int ((0 : Int32))), (2, .ref (gB G + a4)), (1, .ref (gB G + a1)), (0, .ref (gs G).1)]) dL_law_17 rfl (by decide) rfl) ?_
  refine ev_sub (ls' := [(0, .ref (gs G).1), (1, .ref (gB G + a1)), (2, .ref (gB G + a4)), (3, .int ((0 : Int32)))]) [3, 2, 1, 0] rfl ?_
  exact tL_law_18 G fu h v0 a1 a4 fu ((0 : Int32)) h6
