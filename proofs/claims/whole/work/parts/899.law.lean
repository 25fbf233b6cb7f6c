/-! by program: methods as data, that they are right, what their bodies do -/
theorem dL_law_0 : decode cL_law 0 = .ok (.new 8, 3) := by decide +kernel
theorem dL_law_3 : decode cL_law 3 = .ok (.dup, 1) := by decide +kernel
theorem dL_law_4 : decode cL_law 4 = .ok (.invokespecial 124, 3) := by decide +kernel
theorem dL_law_7 : decode cL_law 7 = .ok (.astore_n 1, 1) := by decide +kernel
theorem dL_law_8 : decode cL_law 8 = .ok (.new 125, 3) := by decide +kernel
theorem dL_law_11 : decode cL_law 11 = .ok (.dup, 1) := by decide +kernel
theorem dL_law_12 : decode cL_law 12 = .ok (.invokespecial 127, 3) := by decide +kernel
theorem dL_law_15 : decode cL_law 15 = .ok (.astore_n 2, 1) := by decide +kernel
theorem dL_law_16 : decode cL_law 16 = .ok (.iconst 1, 1) := by decide +kernel
theorem dL_law_17 : decode cL_law 17 = .ok (.newarray .long, 2) := by decide +kernel
theorem dL_law_19 : decode cL_law 19 = .ok (.astore_n 3, 1) := by decide +kernel
theorem dL_law_20 : decode cL_law 20 = .ok (.iconst 0, 1) := by decide +kernel
theorem dL_law_21 : decode cL_law 21 = .ok (.istore 4, 2) := by decide +kernel
theorem dL_law_23 : decode cL_law 23 = .ok (.iload 4, 2) := by decide +kernel
theorem dL_law_25 : decode cL_law 25 = .ok (.aload_n 0, 1) := by decide +kernel
theorem dL_law_26 : decode cL_law 26 = .ok (.arraylength, 1) := by decide +kernel
theorem dL_law_27 : decode cL_law 27 = .ok (.bipush 7, 2) := by decide +kernel
theorem dL_law_29 : decode cL_law 29 = .ok (.isub, 1) := by decide +kernel
theorem dL_law_30 : decode cL_law 30 = .ok (.if_icmp .gt 2749, 3) := by decide +kernel
theorem dL_law_33 : decode cL_law 33 = .ok (.aload_n 0, 1) := by decide +kernel
theorem dL_law_34 : decode cL_law 34 = .ok (.iload 4, 2) := by decide +kernel
theorem dL_law_36 : decode cL_law 36 = .ok (.iaload, 1) := by decide +kernel
theorem dL_law_37 : decode cL_law 37 = .ok (.bipush 63, 2) := by decide +kernel
theorem dL_law_39 : decode cL_law 39 = .ok (.iand, 1) := by decide +kernel
theorem dL_law_40 : decode cL_law 40 = .ok (.tableswitch 2733 0 39 #[176, 249, 274, 399, 475, 531, 611, 691, 811, 915, 990, 1053, 1109, 1165, 1233, 1301, 1357, 1413, 1438, 1494, 1507, 1575, 1643, 1727, 1835, 1891, 1982, 2066, 2079, 2147, 2227, 2295, 2375, 2443, 2523, 2591, 2671, 2684, 2695, 2708], 176) := by decide +kernel
theorem dL_law_216 : decode cL_law 216 = .ok (.aload_n 1, 1) := by decide +kernel
theorem dL_law_217 : decode cL_law 217 = .ok (.aload_n 0, 1) := by decide +kernel
theorem dL_law_218 : decode cL_law 218 = .ok (.iload 4, 2) := by decide +kernel
theorem dL_law_220 : decode cL_law 220 = .ok (.iconst 1, 1) := by decide +kernel
theorem dL_law_221 : decode cL_law 221 = .ok (.iadd, 1) := by decide +kernel
theorem dL_law_222 : decode cL_law 222 = .ok (.iaload, 1) := by decide +kernel
theorem dL_law_223 : decode cL_law 223 = .ok (.aload_n 0, 1) := by decide +kernel
theorem dL_law_224 : decode cL_law 224 = .ok (.iload 4, 2) := by decide +kernel
theorem dL_law_226 : decode cL_law 226 = .ok (.iconst 2, 1) := by decide +kernel
theorem dL_law_227 : decode cL_law 227 = .ok (.iadd, 1) := by decide +kernel
theorem dL_law_228 : decode cL_law 228 = .ok (.iaload, 1) := by decide +kernel
theorem dL_law_229 : decode cL_law 229 = .ok (.aload_n 0, 1) := by decide +kernel
theorem dL_law_230 : decode cL_law 230 = .ok (.iload 4, 2) := by decide +kernel
theorem dL_law_232 : decode cL_law 232 = .ok (.iconst 3, 1) := by decide +kernel
theorem dL_law_233 : decode cL_law 233 = .ok (.iadd, 1) := by decide +kernel
theorem dL_law_234 : decode cL_law 234 = .ok (.iaload, 1) := by decide +kernel
theorem dL_law_235 : decode cL_law 235 = .ok (.aload_n 0, 1) := by decide +kernel
theorem dL_law_236 : decode cL_law 236 = .ok (.iload 4, 2) := by decide +kernel
theorem dL_law_238 : decode cL_law 238 = .ok (.iconst 4, 1) := by decide +kernel
theorem dL_law_239 : decode cL_law 239 = .ok (.iadd, 1) := by decide +kernel
theorem dL_law_240 : decode cL_law 240 = .ok (.iaload, 1) := by decide +kernel
theorem dL_law_241 : decode cL_law 241 = .ok (.aload_n 0, 1) := by decide +kernel
theorem dL_law_242 : decode cL_law 242 = .ok (.iload 4, 2) := by decide +kernel
theorem dL_law_244 : decode cL_law 244 = .ok (.iconst 5, 1) := by decide +kernel
theorem dL_law_245 : decode cL_law 245 = .ok (.iadd, 1) := by decide +kernel
theorem dL_law_246 : decode cL_law 246 = .ok (.iaload, 1) := by decide +kernel
theorem dL_law_247 : decode cL_law 247 = .ok (.invokevirtual 128, 3) := by decide +kernel
theorem dL_law_250 : decode cL_law 250 = .ok (.aload_n 2, 1) := by decide +kernel
theorem dL_law_251 : decode cL_law 251 = .ok (.aload_n 0, 1) := by decide +kernel
theorem dL_law_252 : decode cL_law 252 = .ok (.iload 4, 2) := by decide +kernel
theorem dL_law_254 : decode cL_law 254 = .ok (.iconst 1, 1) := by decide +kernel
theorem dL_law_255 : decode cL_law 255 = .ok (.iadd, 1) := by decide +kernel
theorem dL_law_256 : decode cL_law 256 = .ok (.iaload, 1) := by decide +kernel
theorem dL_law_257 : decode cL_law 257 = .ok (.aload_n 0, 1) := by decide +kernel
theorem dL_law_258 : decode cL_law 258 = .ok (.iload 4, 2) := by decide +kernel
theorem dL_law_260 : decode cL_law 260 = .ok (.iconst 2, 1) := by decide +kernel
theorem dL_law_261 : decode cL_law 261 = .ok (.iadd, 1) := by decide +kernel
theorem dL_law_262 : decode cL_law 262 = .ok (.iaload, 1) := by decide +kernel
theorem dL_law_263 : decode cL_law 263 = .ok (.aload_n 0, 1) := by decide +kernel
theorem dL_law_264 : decode cL_law 264 = .ok (.iload 4, 2) := by decide +kernel
theorem dL_law_266 : decode cL_law 266 = .ok (.iconst 3, 1) := by decide +kernel
theorem dL_law_267 : decode cL_law 267 = .ok (.iadd, 1) := by decide +kernel
theorem dL_law_268 : decode cL_law 268 = .ok (.iaload, 1) := by decide +kernel
theorem dL_law_269 : decode cL_law 269 = .ok (.aload_n 0, 1) := by decide +kernel
theorem dL_law_270 : decode cL_law 270 = .ok (.iload 4, 2) := by decide +kernel
theorem dL_law_272 : decode cL_law 272 = .ok (.iconst 4, 1) := by decide +kernel
theorem dL_law_273 : decode cL_law 273 = .ok (.iadd, 1) := by decide +kernel
theorem dL_law_274 : decode cL_law 274 = .ok (.iaload, 1) := by decide +kernel
theorem dL_law_275 : decode cL_law 275 = .ok (.aload_n 0, 1) := by decide +kernel
theorem dL_law_276 : decode cL_law 276 = .ok (.iload 4, 2) := by decide +kernel
theorem dL_law_278 : decode cL_law 278 = .ok (.iconst 5, 1) := by decide +kernel
theorem dL_law_279 : decode cL_law 279 = .ok (.iadd, 1) := by decide +kernel
theorem dL_law_280 : decode cL_law 280 = .ok (.iaload, 1) := by decide +kernel
theorem dL_law_281 : decode cL_law 281 = .ok (.invokevirtual 131, 3) := by decide +kernel
theorem dL_law_284 : decode cL_law 284 = .ok (.if_icmp .eq 2489, 3) := by decide +kernel
theorem dL_law_287 : decode cL_law 287 = .ok (.iconst 0, 1) := by decide +kernel
theorem dL_law_288 : decode cL_law 288 = .ok (.ireturn, 1) := by decide +kernel
theorem dL_law_289 : decode cL_law 289 = .ok (.aload_n 1, 1) := by decide +kernel
theorem dL_law_290 : decode cL_law 290 = .ok (.aload_n 0, 1) := by decide +kernel
theorem dL_law_291 : decode cL_law 291 = .ok (.iload 4, 2) := by decide +kernel
theorem dL_law_293 : decode cL_law 293 = .ok (.iconst 1, 1) := by decide +kernel
theorem dL_law_294 : decode cL_law 294 = .ok (.iadd, 1) := by decide +kernel
theorem dL_law_295 : decode cL_law 295 = .ok (.iaload, 1) := by decide +kernel
theorem dL_law_296 : decode cL_law 296 = .ok (.invokevirtual 132, 3) := by decide +kernel
theorem dL_law_299 : decode cL_law 299 = .ok (.aload_n 2, 1) := by decide +kernel
theorem dL_law_300 : decode cL_law 300 = .ok (.aload_n 0, 1) := by decide +kernel
theorem dL_law_301 : decode cL_law 301 = .ok (.iload 4, 2) := by decide +kernel
theorem dL_law_303 : decode cL_law 303 = .ok (.iconst 1, 1) := by decide +kernel
theorem dL_law_304 : decode cL_law 304 = .ok (.iadd, 1) := by decide +kernel
theorem dL_law_305 : decode cL_law 305 = .ok (.iaload, 1) := by decide +kernel
theorem dL_law_306 : decode cL_law 306 = .ok (.invokevirtual 135, 3) := by decide +kernel
theorem dL_law_309 : decode cL_law 309 = .ok (.if_icmp .eq 2464, 3) := by decide +kernel
theorem dL_law_312 : decode cL_law 312 = .ok (.iconst 0, 1) := by decide +kernel
theorem dL_law_313 : decode cL_law 313 = .ok (.ireturn, 1) := by decide +kernel
theorem dL_law_314 : decode cL_law 314 = .ok (.aload_n 1, 1) := by decide +kernel
theorem dL_law_315 : decode cL_law 315 = .ok (.aload_n 0, 1) := by decide +kernel
theorem dL_law_316 : decode cL_law 316 = .ok (.iload 4, 2) := by decide +kernel
theorem dL_law_318 : decode cL_law 318 = .ok (.iconst 1, 1) := by decide +kernel
theorem dL_law_319 : decode cL_law 319 = .ok (.iadd, 1) := by decide +kernel
theorem dL_law_320 : decode cL_law 320 = .ok (.iaload, 1) := by decide +kernel
theorem dL_law_321 : decode cL_law 321 = .ok (.aload_n 0, 1) := by decide +kernel
theorem dL_law_322 : decode cL_law 322 = .ok (.iload 4, 2) := by decide +kernel
theorem dL_law_324 : decode cL_law 324 = .ok (.iconst 2, 1) := by decide +kernel
theorem dL_law_325 : decode cL_law 325 = .ok (.iadd, 1) := by decide +kernel
theorem dL_law_326 : decode cL_law 326 = .ok (.iaload, 1) := by decide +kernel
theorem dL_law_327 : decode cL_law 327 = .ok (.aload_n 0, 1) := by decide +kernel
theorem dL_law_328 : decode cL_law 328 = .ok (.iload 4, 2) := by decide +kernel
theorem dL_law_330 : decode cL_law 330 = .ok (.iconst 3, 1) := by decide +kernel
theorem dL_law_331 : decode cL_law 331 = .ok (.iadd, 1) := by decide +kernel
theorem dL_law_332 : decode cL_law 332 = .ok (.iaload, 1) := by decide +kernel
theorem dL_law_333 : decode cL_law 333 = .ok (.aload_n 0, 1) := by decide +kernel
theorem dL_law_334 : decode cL_law 334 = .ok (.iload 4, 2) := by decide +kernel
theorem dL_law_336 : decode cL_law 336 = .ok (.iconst 4, 1) := by decide +kernel
theorem dL_law_337 : decode cL_law 337 = .ok (.iadd, 1) := by decide +kernel
theorem dL_law_338 : decode cL_law 338 = .ok (.iaload, 1) := by decide +kernel
theorem dL_law_339 : decode cL_law 339 = .ok (.aload_n 0, 1) := by decide +kernel
theorem dL_law_340 : decode cL_law 340 = .ok (.iload 4, 2) := by decide +kernel
theorem dL_law_342 : decode cL_law 342 = .ok (.iconst 5, 1) := by decide +kernel
theorem dL_law_343 : decode cL_law 343 = .ok (.iadd, 1) := by decide +kernel
theorem dL_law_344 : decode cL_law 344 = .ok (.iaload, 1) := by decide +kernel
theorem dL_law_345 : decode cL_law 345 = .ok (.aload_n 0, 1) := by decide +kernel
theorem dL_law_346 : decode cL_law 346 = .ok (.iload 4, 2) := by decide +kernel
theorem dL_law_348 : decode cL_law 348 = .ok (.bipush 6, 2) := by decide +kernel
theorem dL_law_350 : decode cL_law 350 = .ok (.iadd, 1) := by decide +kernel
theorem dL_law_351 : decode cL_law 351 = .ok (.iaload, 1) := by decide +kernel
theorem dL_law_352 : decode cL_law 352 = .ok (.aload_n 3, 1) := by decide +kernel
theorem dL_law_353 : decode cL_law 353 = .ok (.invokestatic 136, 3) := by decide +kernel
theorem dL_law_356 : decode cL_law 356 = .ok (.istore 5, 2) := by decide +kernel
theorem dL_law_358 : decode cL_law 358 = .ok (.aload_n 2, 1) := by decide +kernel
theorem dL_law_359 : decode cL_law 359 = .ok (.aload_n 0, 1) := by decide +kernel
theorem dL_law_360 : decode cL_law 360 = .ok (.iload 4, 2) := by decide +kernel
theorem dL_law_362 : decode cL_law 362 = .ok (.iconst 1, 1) := by decide +kernel
theorem dL_law_363 : decode cL_law 363 = .ok (.iadd, 1) := by decide +kernel
theorem dL_law_364 : decode cL_law 364 = .ok (.iaload, 1) := by decide +kernel
theorem dL_law_365 : decode cL_law 365 = .ok (.aload_n 0, 1) := by decide +kernel
theorem dL_law_366 : decode cL_law 366 = .ok (.iload 4, 2) := by decide +kernel
theorem dL_law_368 : decode cL_law 368 = .ok (.iconst 2, 1) := by decide +kernel
theorem dL_law_369 : decode cL_law 369 = .ok (.iadd, 1) := by decide +kernel
theorem dL_law_370 : decode cL_law 370 = .ok (.iaload, 1) := by decide +kernel
theorem dL_law_371 : decode cL_law 371 = .ok (.aload_n 0, 1) := by decide +kernel
theorem dL_law_372 : decode cL_law 372 = .ok (.iload 4, 2) := by decide +kernel
theorem dL_law_374 : decode cL_law 374 = .ok (.iconst 3, 1) := by decide +kernel
theorem dL_law_375 : decode cL_law 375 = .ok (.iadd, 1) := by decide +kernel
theorem dL_law_376 : decode cL_law 376 = .ok (.iaload, 1) := by decide +kernel
theorem dL_law_377 : decode cL_law 377 = .ok (.aload_n 0, 1) := by decide +kernel
theorem dL_law_378 : decode cL_law 378 = .ok (.iload 4, 2) := by decide +kernel
theorem dL_law_380 : decode cL_law 380 = .ok (.iconst 4, 1) := by decide +kernel
theorem dL_law_381 : decode cL_law 381 = .ok (.iadd, 1) := by decide +kernel
theorem dL_law_382 : decode cL_law 382 = .ok (.iaload, 1) := by decide +kernel
theorem dL_law_383 : decode cL_law 383 = .ok (.aload_n 0, 1) := by decide +kernel
theorem dL_law_384 : decode cL_law 384 = .ok (.iload 4, 2) := by decide +kernel
theorem dL_law_386 : decode cL_law 386 = .ok (.iconst 5, 1) := by decide +kernel
theorem dL_law_387 : decode cL_law 387 = .ok (.iadd, 1) := by decide +kernel
theorem dL_law_388 : decode cL_law 388 = .ok (.iaload, 1) := by decide +kernel
theorem dL_law_389 : decode cL_law 389 = .ok (.aload_n 0, 1) := by decide +kernel
theorem dL_law_390 : decode cL_law 390 = .ok (.iload 4, 2) := by decide +kernel
theorem dL_law_392 : decode cL_law 392 = .ok (.bipush 6, 2) := by decide +kernel
theorem dL_law_394 : decode cL_law 394 = .ok (.iadd, 1) := by decide +kernel
theorem dL_law_395 : decode cL_law 395 = .ok (.iaload, 1) := by decide +kernel
theorem dL_law_396 : decode cL_law 396 = .ok (.invokevirtual 141, 3) := by decide +kernel
theorem dL_law_399 : decode cL_law 399 = .ok (.istore 6, 2) := by decide +kernel
theorem dL_law_401 : decode cL_law 401 = .ok (.aload_n 2, 1) := by decide +kernel
theorem dL_law_402 : decode cL_law 402 = .ok (.invokevirtual 142, 3) := by decide +kernel
theorem dL_law_405 : decode cL_law 405 = .ok (.iload 5, 2) := by decide +kernel
theorem dL_law_407 : decode cL_law 407 = .ok (.if_icmp .eq 5, 3) := by decide +kernel
theorem dL_law_410 : decode cL_law 410 = .ok (.iconst 0, 1) := by decide +kernel
theorem dL_law_411 : decode cL_law 411 = .ok (.ireturn, 1) := by decide +kernel
theorem dL_law_412 : decode cL_law 412 = .ok (.iload 5, 2) := by decide +kernel
theorem dL_law_414 : decode cL_law 414 = .ok (.ifCond .ne 22, 3) := by decide +kernel
theorem dL_law_417 : decode cL_law 417 = .ok (.aload_n 3, 1) := by decide +kernel
theorem dL_law_418 : decode cL_law 418 = .ok (.iconst 0, 1) := by decide +kernel
theorem dL_law_419 : decode cL_law 419 = .ok (.laload, 1) := by decide +kernel
theorem dL_law_420 : decode cL_law 420 = .ok (.iload 6, 2) := by decide +kernel
theorem dL_law_422 : decode cL_law 422 = .ok (.ifCond .eq 7, 3) := by decide +kernel
theorem dL_law_425 : decode cL_law 425 = .ok (.lconst 1, 1) := by decide +kernel
theorem dL_law_426 : decode cL_law 426 = .ok (.goto 4, 3) := by decide +kernel
theorem dL_law_429 : decode cL_law 429 = .ok (.lconst 0, 1) := by decide +kernel
theorem dL_law_430 : decode cL_law 430 = .ok (.lcmp, 1) := by decide +kernel
theorem dL_law_431 : decode cL_law 431 = .ok (.ifCond .eq 5, 3) := by decide +kernel
theorem dL_law_434 : decode cL_law 434 = .ok (.iconst 0, 1) := by decide +kernel
theorem dL_law_435 : decode cL_law 435 = .ok (.ireturn, 1) := by decide +kernel
theorem dL_law_436 : decode cL_law 436 = .ok (.goto 2337, 3) := by decide +kernel
theorem dL_law_439 : decode cL_law 439 = .ok (.aload_n 1, 1) := by decide +kernel
theorem dL_law_440 : decode cL_law 440 = .ok (.aload_n 0, 1) := by decide +kernel
theorem dL_law_441 : decode cL_law 441 = .ok (.iload 4, 2) := by decide +kernel
theorem dL_law_443 : decode cL_law 443 = .ok (.iconst 1, 1) := by decide +kernel
theorem dL_law_444 : decode cL_law 444 = .ok (.iadd, 1) := by decide +kernel
theorem dL_law_445 : decode cL_law 445 = .ok (.iaload, 1) := by decide +kernel
theorem dL_law_446 : decode cL_law 446 = .ok (.aload_n 0, 1) := by decide +kernel
theorem dL_law_447 : decode cL_law 447 = .ok (.iload 4, 2) := by decide +kernel
theorem dL_law_449 : decode cL_law 449 = .ok (.iconst 2, 1) := by decide +kernel
theorem dL_law_450 : decode cL_law 450 = .ok (.iadd, 1) := by decide +kernel
theorem dL_law_451 : decode cL_law 451 = .ok (.iaload, 1) := by decide +kernel
theorem dL_law_452 : decode cL_law 452 = .ok (.aload_n 0, 1) := by decide +kernel
theorem dL_law_453 : decode cL_law 453 = .ok (.iload 4, 2) := by decide +kernel
theorem dL_law_455 : decode cL_law 455 = .ok (.iconst 3, 1) := by decide +kernel
theorem dL_law_456 : decode cL_law 456 = .ok (.iadd, 1) := by decide +kernel
theorem dL_law_457 : decode cL_law 457 = .ok (.iaload, 1) := by decide +kernel
theorem dL_law_458 : decode cL_law 458 = .ok (.ifCond .eq 7, 3) := by decide +kernel
theorem dL_law_461 : decode cL_law 461 = .ok (.iconst 1, 1) := by decide +kernel
theorem dL_law_462 : decode cL_law 462 = .ok (.goto 4, 3) := by decide +kernel
theorem dL_law_465 : decode cL_law 465 = .ok (.iconst 0, 1) := by decide +kernel
theorem dL_law_466 : decode cL_law 466 = .ok (.invokestatic 146, 3) := by decide +kernel
theorem dL_law_469 : decode cL_law 469 = .ok (.istore 5, 2) := by decide +kernel
theorem dL_law_471 : decode cL_law 471 = .ok (.aload_n 2, 1) := by decide +kernel
theorem dL_law_472 : decode cL_law 472 = .ok (.aload_n 0, 1) := by decide +kernel
theorem dL_law_473 : decode cL_law 473 = .ok (.iload 4, 2) := by decide +kernel
theorem dL_law_475 : decode cL_law 475 = .ok (.iconst 1, 1) := by decide +kernel
theorem dL_law_476 : decode cL_law 476 = .ok (.iadd, 1) := by decide +kernel
theorem dL_law_477 : decode cL_law 477 = .ok (.iaload, 1) := by decide +kernel
theorem dL_law_478 : decode cL_law 478 = .ok (.aload_n 0, 1) := by decide +kernel
theorem dL_law_479 : decode cL_law 479 = .ok (.iload 4, 2) := by decide +kernel
theorem dL_law_481 : decode cL_law 481 = .ok (.iconst 2, 1) := by decide +kernel
theorem dL_law_482 : decode cL_law 482 = .ok (.iadd, 1) := by decide +kernel
theorem dL_law_483 : decode cL_law 483 = .ok (.iaload, 1) := by decide +kernel
theorem dL_law_484 : decode cL_law 484 = .ok (.aload_n 0, 1) := by decide +kernel
theorem dL_law_485 : decode cL_law 485 = .ok (.iload 4, 2) := by decide +kernel
theorem dL_law_487 : decode cL_law 487 = .ok (.iconst 3, 1) := by decide +kernel
theorem dL_law_488 : decode cL_law 488 = .ok (.iadd, 1) := by decide +kernel
theorem dL_law_489 : decode cL_law 489 = .ok (.iaload, 1) := by decide +kernel
theorem dL_law_490 : decode cL_law 490 = .ok (.ifCond .eq 7, 3) := by decide +kernel
theorem dL_law_493 : decode cL_law 493 = .ok (.iconst 1, 1) := by decide +kernel
theorem dL_law_494 : decode cL_law 494 = .ok (.goto 4, 3) := by decide +kernel
theorem dL_law_497 : decode cL_law 497 = .ok (.iconst 0, 1) := by decide +kernel
theorem dL_law_498 : decode cL_law 498 = .ok (.invokevirtual 149, 3) := by decide +kernel
theorem dL_law_501 : decode cL_law 501 = .ok (.aload_n 2, 1) := by decide +kernel
theorem dL_law_502 : decode cL_law 502 = .ok (.invokevirtual 142, 3) := by decide +kernel
theorem dL_law_505 : decode cL_law 505 = .ok (.iload 5, 2) := by decide +kernel
theorem dL_law_507 : decode cL_law 507 = .ok (.if_icmp .eq 5, 3) := by decide +kernel
theorem dL_law_510 : decode cL_law 510 = .ok (.iconst 0, 1) := by decide +kernel
theorem dL_law_511 : decode cL_law 511 = .ok (.ireturn, 1) := by decide +kernel
theorem dL_law_512 : decode cL_law 512 = .ok (.goto 2261, 3) := by decide +kernel
theorem dL_law_515 : decode cL_law 515 = .ok (.aload_n 1, 1) := by decide +kernel
theorem dL_law_516 : decode cL_law 516 = .ok (.aload_n 0, 1) := by decide +kernel
theorem dL_law_517 : decode cL_law 517 = .ok (.iload 4, 2) := by decide +kernel
theorem dL_law_519 : decode cL_law 519 = .ok (.iconst 1, 1) := by decide +kernel
theorem dL_law_520 : decode cL_law 520 = .ok (.iadd, 1) := by decide +kernel
theorem dL_law_521 : decode cL_law 521 = .ok (.iaload, 1) := by decide +kernel
theorem dL_law_522 : decode cL_law 522 = .ok (.aload_n 3, 1) := by decide +kernel
theorem dL_law_523 : decode cL_law 523 = .ok (.invokestatic 150, 3) := by decide +kernel
theorem dL_law_526 : decode cL_law 526 = .ok (.istore 5, 2) := by decide +kernel
theorem dL_law_528 : decode cL_law 528 = .ok (.aload_n 2, 1) := by decide +kernel
theorem dL_law_529 : decode cL_law 529 = .ok (.aload_n 0, 1) := by decide +kernel
theorem dL_law_530 : decode cL_law 530 = .ok (.iload 4, 2) := by decide +kernel
theorem dL_law_532 : decode cL_law 532 = .ok (.iconst 1, 1) := by decide +kernel
theorem dL_law_533 : decode cL_law 533 = .ok (.iadd, 1) := by decide +kernel
theorem dL_law_534 : decode cL_law 534 = .ok (.iaload, 1) := by decide +kernel
theorem dL_law_535 : decode cL_law 535 = .ok (.invokevirtual 153, 3) := by decide +kernel
theorem dL_law_538 : decode cL_law 538 = .ok (.istore 6, 2) := by decide +kernel
theorem dL_law_540 : decode cL_law 540 = .ok (.aload_n 2, 1) := by decide +kernel
theorem dL_law_541 : decode cL_law 541 = .ok (.invokevirtual 142, 3) := by decide +kernel
theorem dL_law_544 : decode cL_law 544 = .ok (.iload 5, 2) := by decide +kernel
theorem dL_law_546 : decode cL_law 546 = .ok (.if_icmp .eq 5, 3) := by decide +kernel
theorem dL_law_549 : decode cL_law 549 = .ok (.iconst 0, 1) := by decide +kernel
theorem dL_law_550 : decode cL_law 550 = .ok (.ireturn, 1) := by decide +kernel
theorem dL_law_551 : decode cL_law 551 = .ok (.iload 5, 2) := by decide +kernel
theorem dL_law_553 : decode cL_law 553 = .ok (.ifCond .ne 15, 3) := by decide +kernel
theorem dL_law_556 : decode cL_law 556 = .ok (.aload_n 3, 1) := by decide +kernel
theorem dL_law_557 : decode cL_law 557 = .ok (.iconst 0, 1) := by decide +kernel
theorem dL_law_558 : decode cL_law 558 = .ok (.laload, 1) := by decide +kernel
theorem dL_law_559 : decode cL_law 559 = .ok (.iload 6, 2) := by decide +kernel
theorem dL_law_561 : decode cL_law 561 = .ok (.i2l, 1) := by decide +kernel
theorem dL_law_562 : decode cL_law 562 = .ok (.lcmp, 1) := by decide +kernel
theorem dL_law_563 : decode cL_law 563 = .ok (.ifCond .eq 5, 3) := by decide +kernel
theorem dL_law_566 : decode cL_law 566 = .ok (.iconst 0, 1) := by decide +kernel
theorem dL_law_567 : decode cL_law 567 = .ok (.ireturn, 1) := by decide +kernel
theorem dL_law_568 : decode cL_law 568 = .ok (.goto 2205, 3) := by decide +kernel
theorem dL_law_571 : decode cL_law 571 = .ok (.aload_n 1, 1) := by decide +kernel
theorem dL_law_572 : decode cL_law 572 = .ok (.aload_n 0, 1) := by decide +kernel
theorem dL_law_573 : decode cL_law 573 = .ok (.iload 4, 2) := by decide +kernel
theorem dL_law_575 : decode cL_law 575 = .ok (.iconst 1, 1) := by decide +kernel
theorem dL_law_576 : decode cL_law 576 = .ok (.iadd, 1) := by decide +kernel
theorem dL_law_577 : decode cL_law 577 = .ok (.iaload, 1) := by decide +kernel
theorem dL_law_578 : decode cL_law 578 = .ok (.aload_n 0, 1) := by decide +kernel
theorem dL_law_579 : decode cL_law 579 = .ok (.iload 4, 2) := by decide +kernel
theorem dL_law_581 : decode cL_law 581 = .ok (.iconst 2, 1) := by decide +kernel
theorem dL_law_582 : decode cL_law 582 = .ok (.iadd, 1) := by decide +kernel
theorem dL_law_583 : decode cL_law 583 = .ok (.iaload, 1) := by decide +kernel
theorem dL_law_584 : decode cL_law 584 = .ok (.aload_n 0, 1) := by decide +kernel
theorem dL_law_585 : decode cL_law 585 = .ok (.iload 4, 2) := by decide +kernel
theorem dL_law_587 : decode cL_law 587 = .ok (.iconst 3, 1) := by decide +kernel
theorem dL_law_588 : decode cL_law 588 = .ok (.iadd, 1) := by decide +kernel
theorem dL_law_589 : decode cL_law 589 = .ok (.iaload, 1) := by decide +kernel
theorem dL_law_590 : decode cL_law 590 = .ok (.aload_n 3, 1) := by decide +kernel
theorem dL_law_591 : decode cL_law 591 = .ok (.invokestatic 154, 3) := by decide +kernel
theorem dL_law_594 : decode cL_law 594 = .ok (.istore 5, 2) := by decide +kernel
theorem dL_law_596 : decode cL_law 596 = .ok (.aload_n 2, 1) := by decide +kernel
theorem dL_law_597 : decode cL_law 597 = .ok (.aload_n 0, 1) := by decide +kernel
theorem dL_law_598 : decode cL_law 598 = .ok (.iload 4, 2) := by decide +kernel
theorem dL_law_600 : decode cL_law 600 = .ok (.iconst 1, 1) := by decide +kernel
theorem dL_law_601 : decode cL_law 601 = .ok (.iadd, 1) := by decide +kernel
theorem dL_law_602 : decode cL_law 602 = .ok (.iaload, 1) := by decide +kernel
theorem dL_law_603 : decode cL_law 603 = .ok (.aload_n 0, 1) := by decide +kernel
theorem dL_law_604 : decode cL_law 604 = .ok (.iload 4, 2) := by decide +kernel
theorem dL_law_606 : decode cL_law 606 = .ok (.iconst 2, 1) := by decide +kernel
theorem dL_law_607 : decode cL_law 607 = .ok (.iadd, 1) := by decide +kernel
theorem dL_law_608 : decode cL_law 608 = .ok (.iaload, 1) := by decide +kernel
theorem dL_law_609 : decode cL_law 609 = .ok (.aload_n 0, 1) := by decide +kernel
theorem dL_law_610 : decode cL_law 610 = .ok (.iload 4, 2) := by decide +kernel
theorem dL_law_612 : decode cL_law 612 = .ok (.iconst 3, 1) := by decide +kernel
theorem dL_law_613 : decode cL_law 613 = .ok (.iadd, 1) := by decide +kernel
theorem dL_law_614 : decode cL_law 614 = .ok (.iaload, 1) := by decide +kernel
theorem dL_law_615 : decode cL_law 615 = .ok (.invokevirtual 157, 3) := by decide +kernel
theorem dL_law_618 : decode cL_law 618 = .ok (.istore 6, 2) := by decide +kernel
theorem dL_law_620 : decode cL_law 620 = .ok (.aload_n 2, 1) := by decide +kernel
theorem dL_law_621 : decode cL_law 621 = .ok (.invokevirtual 142, 3) := by decide +kernel
theorem dL_law_624 : decode cL_law 624 = .ok (.iload 5, 2) := by decide +kernel
theorem dL_law_626 : decode cL_law 626 = .ok (.if_icmp .eq 5, 3) := by decide +kernel
theorem dL_law_629 : decode cL_law 629 = .ok (.iconst 0, 1) := by decide +kernel
theorem dL_law_630 : decode cL_law 630 = .ok (.ireturn, 1) := by decide +kernel
theorem dL_law_631 : decode cL_law 631 = .ok (.iload 5, 2) := by decide +kernel
theorem dL_law_633 : decode cL_law 633 = .ok (.ifCond .ne 15, 3) := by decide +kernel
theorem dL_law_636 : decode cL_law 636 = .ok (.aload_n 3, 1) := by decide +kernel
theorem dL_law_637 : decode cL_law 637 = .ok (.iconst 0, 1) := by decide +kernel
theorem dL_law_638 : decode cL_law 638 = .ok (.laload, 1) := by decide +kernel
theorem dL_law_639 : decode cL_law 639 = .ok (.iload 6, 2) := by decide +kernel
theorem dL_law_641 : decode cL_law 641 = .ok (.i2l, 1) := by decide +kernel
theorem dL_law_642 : decode cL_law 642 = .ok (.lcmp, 1) := by decide +kernel
theorem dL_law_643 : decode cL_law 643 = .ok (.ifCond .eq 5, 3) := by decide +kernel
theorem dL_law_646 : decode cL_law 646 = .ok (.iconst 0, 1) := by decide +kernel
theorem dL_law_647 : decode cL_law 647 = .ok (.ireturn, 1) := by decide +kernel
theorem dL_law_648 : decode cL_law 648 = .ok (.goto 2125, 3) := by decide +kernel
theorem dL_law_651 : decode cL_law 651 = .ok (.aload_n 1, 1) := by decide +kernel
theorem dL_law_652 : decode cL_law 652 = .ok (.aload_n 0, 1) := by decide +kernel
theorem dL_law_653 : decode cL_law 653 = .ok (.iload 4, 2) := by decide +kernel
theorem dL_law_655 : decode cL_law 655 = .ok (.iconst 1, 1) := by decide +kernel
theorem dL_law_656 : decode cL_law 656 = .ok (.iadd, 1) := by decide +kernel
theorem dL_law_657 : decode cL_law 657 = .ok (.iaload, 1) := by decide +kernel
theorem dL_law_658 : decode cL_law 658 = .ok (.aload_n 0, 1) := by decide +kernel
theorem dL_law_659 : decode cL_law 659 = .ok (.iload 4, 2) := by decide +kernel
theorem dL_law_661 : decode cL_law 661 = .ok (.iconst 2, 1) := by decide +kernel
theorem dL_law_662 : decode cL_law 662 = .ok (.iadd, 1) := by decide +kernel
theorem dL_law_663 : decode cL_law 663 = .ok (.iaload, 1) := by decide +kernel
theorem dL_law_664 : decode cL_law 664 = .ok (.aload_n 0, 1) := by decide +kernel
theorem dL_law_665 : decode cL_law 665 = .ok (.iload 4, 2) := by decide +kernel
theorem dL_law_667 : decode cL_law 667 = .ok (.iconst 3, 1) := by decide +kernel
theorem dL_law_668 : decode cL_law 668 = .ok (.iadd, 1) := by decide +kernel
theorem dL_law_669 : decode cL_law 669 = .ok (.iaload, 1) := by decide +kernel
theorem dL_law_670 : decode cL_law 670 = .ok (.aload_n 3, 1) := by decide +kernel
theorem dL_law_671 : decode cL_law 671 = .ok (.invokestatic 158, 3) := by decide +kernel
theorem dL_law_674 : decode cL_law 674 = .ok (.istore 5, 2) := by decide +kernel
theorem dL_law_676 : decode cL_law 676 = .ok (.aload_n 2, 1) := by decide +kernel
theorem dL_law_677 : decode cL_law 677 = .ok (.aload_n 0, 1) := by decide +kernel
theorem dL_law_678 : decode cL_law 678 = .ok (.iload 4, 2) := by decide +kernel
theorem dL_law_680 : decode cL_law 680 = .ok (.iconst 1, 1) := by decide +kernel
theorem dL_law_681 : decode cL_law 681 = .ok (.iadd, 1) := by decide +kernel
theorem dL_law_682 : decode cL_law 682 = .ok (.iaload, 1) := by decide +kernel
theorem dL_law_683 : decode cL_law 683 = .ok (.aload_n 0, 1) := by decide +kernel
theorem dL_law_684 : decode cL_law 684 = .ok (.iload 4, 2) := by decide +kernel
theorem dL_law_686 : decode cL_law 686 = .ok (.iconst 2, 1) := by decide +kernel
theorem dL_law_687 : decode cL_law 687 = .ok (.iadd, 1) := by decide +kernel
theorem dL_law_688 : decode cL_law 688 = .ok (.iaload, 1) := by decide +kernel
theorem dL_law_689 : decode cL_law 689 = .ok (.aload_n 0, 1) := by decide +kernel
theorem dL_law_690 : decode cL_law 690 = .ok (.iload 4, 2) := by decide +kernel
theorem dL_law_692 : decode cL_law 692 = .ok (.iconst 3, 1) := by decide +kernel
theorem dL_law_693 : decode cL_law 693 = .ok (.iadd, 1) := by decide +kernel
theorem dL_law_694 : decode cL_law 694 = .ok (.iaload, 1) := by decide +kernel
theorem dL_law_695 : decode cL_law 695 = .ok (.invokevirtual 160, 3) := by decide +kernel
theorem dL_law_698 : decode cL_law 698 = .ok (.istore 6, 2) := by decide +kernel
theorem dL_law_700 : decode cL_law 700 = .ok (.aload_n 2, 1) := by decide +kernel
theorem dL_law_701 : decode cL_law 701 = .ok (.invokevirtual 142, 3) := by decide +kernel
theorem dL_law_704 : decode cL_law 704 = .ok (.iload 5, 2) := by decide +kernel
theorem dL_law_706 : decode cL_law 706 = .ok (.if_icmp .eq 5, 3) := by decide +kernel
theorem dL_law_709 : decode cL_law 709 = .ok (.iconst 0, 1) := by decide +kernel
theorem dL_law_710 : decode cL_law 710 = .ok (.ireturn, 1) := by decide +kernel
theorem dL_law_711 : decode cL_law 711 = .ok (.iload 5, 2) := by decide +kernel
theorem dL_law_713 : decode cL_law 713 = .ok (.ifCond .ne 15, 3) := by decide +kernel
theorem dL_law_716 : decode cL_law 716 = .ok (.aload_n 3, 1) := by decide +kernel
theorem dL_law_717 : decode cL_law 717 = .ok (.iconst 0, 1) := by decide +kernel
theorem dL_law_718 : decode cL_law 718 = .ok (.laload, 1) := by decide +kernel
theorem dL_law_719 : decode cL_law 719 = .ok (.iload 6, 2) := by decide +kernel
theorem dL_law_721 : decode cL_law 721 = .ok (.i2l, 1) := by decide +kernel
theorem dL_law_722 : decode cL_law 722 = .ok (.lcmp, 1) := by decide +kernel
theorem dL_law_723 : decode cL_law 723 = .ok (.ifCond .eq 5, 3) := by decide +kernel
theorem dL_law_726 : decode cL_law 726 = .ok (.iconst 0, 1) := by decide +kernel
theorem dL_law_727 : decode cL_law 727 = .ok (.ireturn, 1) := by decide +kernel
theorem dL_law_728 : decode cL_law 728 = .ok (.goto 2045, 3) := by decide +kernel
theorem dL_law_731 : decode cL_law 731 = .ok (.aload_n 1, 1) := by decide +kernel
theorem dL_law_732 : decode cL_law 732 = .ok (.aload_n 0, 1) := by decide +kernel
theorem dL_law_733 : decode cL_law 733 = .ok (.iload 4, 2) := by decide +kernel
theorem dL_law_735 : decode cL_law 735 = .ok (.iconst 1, 1) := by decide +kernel
theorem dL_law_736 : decode cL_law 736 = .ok (.iadd, 1) := by decide +kernel
theorem dL_law_737 : decode cL_law 737 = .ok (.iaload, 1) := by decide +kernel
theorem dL_law_738 : decode cL_law 738 = .ok (.aload_n 0, 1) := by decide +kernel
theorem dL_law_739 : decode cL_law 739 = .ok (.iload 4, 2) := by decide +kernel
theorem dL_law_741 : decode cL_law 741 = .ok (.iconst 2, 1) := by decide +kernel
theorem dL_law_742 : decode cL_law 742 = .ok (.iadd, 1) := by decide +kernel
theorem dL_law_743 : decode cL_law 743 = .ok (.iaload, 1) := by decide +kernel
theorem dL_law_744 : decode cL_law 744 = .ok (.aload_n 0, 1) := by decide +kernel
theorem dL_law_745 : decode cL_law 745 = .ok (.iload 4, 2) := by decide +kernel
theorem dL_law_747 : decode cL_law 747 = .ok (.iconst 3, 1) := by decide +kernel
theorem dL_law_748 : decode cL_law 748 = .ok (.iadd, 1) := by decide +kernel
theorem dL_law_749 : decode cL_law 749 = .ok (.iaload, 1) := by decide +kernel
theorem dL_law_750 : decode cL_law 750 = .ok (.aload_n 0, 1) := by decide +kernel
theorem dL_law_751 : decode cL_law 751 = .ok (.iload 4, 2) := by decide +kernel
theorem dL_law_753 : decode cL_law 753 = .ok (.iconst 4, 1) := by decide +kernel
theorem dL_law_754 : decode cL_law 754 = .ok (.iadd, 1) := by decide +kernel
theorem dL_law_755 : decode cL_law 755 = .ok (.iaload, 1) := by decide +kernel
theorem dL_law_756 : decode cL_law 756 = .ok (.aload_n 0, 1) := by decide +kernel
theorem dL_law_757 : decode cL_law 757 = .ok (.iload 4, 2) := by decide +kernel
theorem dL_law_759 : decode cL_law 759 = .ok (.iconst 5, 1) := by decide +kernel
theorem dL_law_760 : decode cL_law 760 = .ok (.iadd, 1) := by decide +kernel
theorem dL_law_761 : decode cL_law 761 = .ok (.iaload, 1) := by decide +kernel
theorem dL_law_762 : decode cL_law 762 = .ok (.ifCond .eq 7, 3) := by decide +kernel
theorem dL_law_765 : decode cL_law 765 = .ok (.iconst 1, 1) := by decide +kernel
theorem dL_law_766 : decode cL_law 766 = .ok (.goto 4, 3) := by decide +kernel
theorem dL_law_769 : decode cL_law 769 = .ok (.iconst 0, 1) := by decide +kernel
theorem dL_law_770 : decode cL_law 770 = .ok (.aload_n 3, 1) := by decide +kernel
theorem dL_law_771 : decode cL_law 771 = .ok (.invokestatic 161, 3) := by decide +kernel
theorem dL_law_774 : decode cL_law 774 = .ok (.istore 5, 2) := by decide +kernel
theorem dL_law_776 : decode cL_law 776 = .ok (.aload_n 2, 1) := by decide +kernel
theorem dL_law_777 : decode cL_law 777 = .ok (.aload_n 0, 1) := by decide +kernel
theorem dL_law_778 : decode cL_law 778 = .ok (.iload 4, 2) := by decide +kernel
theorem dL_law_780 : decode cL_law 780 = .ok (.iconst 1, 1) := by decide +kernel
theorem dL_law_781 : decode cL_law 781 = .ok (.iadd, 1) := by decide +kernel
theorem dL_law_782 : decode cL_law 782 = .ok (.iaload, 1) := by decide +kernel
theorem dL_law_783 : decode cL_law 783 = .ok (.aload_n 0, 1) := by decide +kernel
theorem dL_law_784 : decode cL_law 784 = .ok (.iload 4, 2) := by decide +kernel
theorem dL_law_786 : decode cL_law 786 = .ok (.iconst 2, 1) := by decide +kernel
theorem dL_law_787 : decode cL_law 787 = .ok (.iadd, 1) := by decide +kernel
theorem dL_law_788 : decode cL_law 788 = .ok (.iaload, 1) := by decide +kernel
theorem dL_law_789 : decode cL_law 789 = .ok (.aload_n 0, 1) := by decide +kernel
theorem dL_law_790 : decode cL_law 790 = .ok (.iload 4, 2) := by decide +kernel
theorem dL_law_792 : decode cL_law 792 = .ok (.iconst 3, 1) := by decide +kernel
theorem dL_law_793 : decode cL_law 793 = .ok (.iadd, 1) := by decide +kernel
theorem dL_law_794 : decode cL_law 794 = .ok (.iaload, 1) := by decide +kernel
theorem dL_law_795 : decode cL_law 795 = .ok (.aload_n 0, 1) := by decide +kernel
theorem dL_law_796 : decode cL_law 796 = .ok (.iload 4, 2) := by decide +kernel
theorem dL_law_798 : decode cL_law 798 = .ok (.iconst 4, 1) := by decide +kernel
theorem dL_law_799 : decode cL_law 799 = .ok (.iadd, 1) := by decide +kernel
theorem dL_law_800 : decode cL_law 800 = .ok (.iaload, 1) := by decide +kernel
theorem dL_law_801 : decode cL_law 801 = .ok (.aload_n 0, 1) := by decide +kernel
theorem dL_law_802 : decode cL_law 802 = .ok (.iload 4, 2) := by decide +kernel
theorem dL_law_804 : decode cL_law 804 = .ok (.iconst 5, 1) := by decide +kernel
theorem dL_law_805 : decode cL_law 805 = .ok (.iadd, 1) := by decide +kernel
theorem dL_law_806 : decode cL_law 806 = .ok (.iaload, 1) := by decide +kernel
theorem dL_law_807 : decode cL_law 807 = .ok (.ifCond .eq 7, 3) := by decide +kernel
theorem dL_law_810 : decode cL_law 810 = .ok (.iconst 1, 1) := by decide +kernel
theorem dL_law_811 : decode cL_law 811 = .ok (.goto 4, 3) := by decide +kernel
theorem dL_law_814 : decode cL_law 814 = .ok (.iconst 0, 1) := by decide +kernel
theorem dL_law_815 : decode cL_law 815 = .ok (.invokevirtual 164, 3) := by decide +kernel
theorem dL_law_818 : decode cL_law 818 = .ok (.istore 6, 2) := by decide +kernel
theorem dL_law_820 : decode cL_law 820 = .ok (.aload_n 2, 1) := by decide +kernel
theorem dL_law_821 : decode cL_law 821 = .ok (.invokevirtual 142, 3) := by decide +kernel
theorem dL_law_824 : decode cL_law 824 = .ok (.iload 5, 2) := by decide +kernel
theorem dL_law_826 : decode cL_law 826 = .ok (.if_icmp .eq 5, 3) := by decide +kernel
theorem dL_law_829 : decode cL_law 829 = .ok (.iconst 0, 1) := by decide +kernel
theorem dL_law_830 : decode cL_law 830 = .ok (.ireturn, 1) := by decide +kernel
theorem dL_law_831 : decode cL_law 831 = .ok (.iload 5, 2) := by decide +kernel
theorem dL_law_833 : decode cL_law 833 = .ok (.ifCond .ne 15, 3) := by decide +kernel
theorem dL_law_836 : decode cL_law 836 = .ok (.aload_n 3, 1) := by decide +kernel
theorem dL_law_837 : decode cL_law 837 = .ok (.iconst 0, 1) := by decide +kernel
theorem dL_law_838 : decode cL_law 838 = .ok (.laload, 1) := by decide +kernel
theorem dL_law_839 : decode cL_law 839 = .ok (.iload 6, 2) := by decide +kernel
theorem dL_law_841 : decode cL_law 841 = .ok (.i2l, 1) := by decide +kernel
theorem dL_law_842 : decode cL_law 842 = .ok (.lcmp, 1) := by decide +kernel
theorem dL_law_843 : decode cL_law 843 = .ok (.ifCond .eq 5, 3) := by decide +kernel
theorem dL_law_846 : decode cL_law 846 = .ok (.iconst 0, 1) := by decide +kernel
theorem dL_law_847 : decode cL_law 847 = .ok (.ireturn, 1) := by decide +kernel
theorem dL_law_848 : decode cL_law 848 = .ok (.goto 1925, 3) := by decide +kernel
theorem dL_law_851 : decode cL_law 851 = .ok (.aload_n 1, 1) := by decide +kernel
theorem dL_law_852 : decode cL_law 852 = .ok (.aload_n 0, 1) := by decide +kernel
theorem dL_law_853 : decode cL_law 853 = .ok (.iload 4, 2) := by decide +kernel
theorem dL_law_855 : decode cL_law 855 = .ok (.iconst 1, 1) := by decide +kernel
theorem dL_law_856 : decode cL_law 856 = .ok (.iadd, 1) := by decide +kernel
theorem dL_law_857 : decode cL_law 857 = .ok (.iaload, 1) := by decide +kernel
theorem dL_law_858 : decode cL_law 858 = .ok (.aload_n 0, 1) := by decide +kernel
theorem dL_law_859 : decode cL_law 859 = .ok (.iload 4, 2) := by decide +kernel
theorem dL_law_861 : decode cL_law 861 = .ok (.iconst 2, 1) := by decide +kernel
theorem dL_law_862 : decode cL_law 862 = .ok (.iadd, 1) := by decide +kernel
theorem dL_law_863 : decode cL_law 863 = .ok (.iaload, 1) := by decide +kernel
theorem dL_law_864 : decode cL_law 864 = .ok (.aload_n 0, 1) := by decide +kernel
theorem dL_law_865 : decode cL_law 865 = .ok (.iload 4, 2) := by decide +kernel
theorem dL_law_867 : decode cL_law 867 = .ok (.iconst 3, 1) := by decide +kernel
theorem dL_law_868 : decode cL_law 868 = .ok (.iadd, 1) := by decide +kernel
theorem dL_law_869 : decode cL_law 869 = .ok (.iaload, 1) := by decide +kernel
theorem dL_law_870 : decode cL_law 870 = .ok (.aload_n 0, 1) := by decide +kernel
theorem dL_law_871 : decode cL_law 871 = .ok (.iload 4, 2) := by decide +kernel
theorem dL_law_873 : decode cL_law 873 = .ok (.iconst 4, 1) := by decide +kernel
theorem dL_law_874 : decode cL_law 874 = .ok (.iadd, 1) := by decide +kernel
theorem dL_law_875 : decode cL_law 875 = .ok (.iaload, 1) := by decide +kernel
theorem dL_law_876 : decode cL_law 876 = .ok (.aload_n 0, 1) := by decide +kernel
theorem dL_law_877 : decode cL_law 877 = .ok (.iload 4, 2) := by decide +kernel
theorem dL_law_879 : decode cL_law 879 = .ok (.iconst 5, 1) := by decide +kernel
theorem dL_law_880 : decode cL_law 880 = .ok (.iadd, 1) := by decide +kernel
theorem dL_law_881 : decode cL_law 881 = .ok (.iaload, 1) := by decide +kernel
theorem dL_law_882 : decode cL_law 882 = .ok (.aload_n 3, 1) := by decide +kernel
theorem dL_law_883 : decode cL_law 883 = .ok (.invokestatic 165, 3) := by decide +kernel
theorem dL_law_886 : decode cL_law 886 = .ok (.istore 5, 2) := by decide +kernel
theorem dL_law_888 : decode cL_law 888 = .ok (.aload_n 2, 1) := by decide +kernel
theorem dL_law_889 : decode cL_law 889 = .ok (.aload_n 0, 1) := by decide +kernel
theorem dL_law_890 : decode cL_law 890 = .ok (.iload 4, 2) := by decide +kernel
theorem dL_law_892 : decode cL_law 892 = .ok (.iconst 1, 1) := by decide +kernel
theorem dL_law_893 : decode cL_law 893 = .ok (.iadd, 1) := by decide +kernel
theorem dL_law_894 : decode cL_law 894 = .ok (.iaload, 1) := by decide +kernel
theorem dL_law_895 : decode cL_law 895 = .ok (.aload_n 0, 1) := by decide +kernel
theorem dL_law_896 : decode cL_law 896 = .ok (.iload 4, 2) := by decide +kernel
theorem dL_law_898 : decode cL_law 898 = .ok (.iconst 2, 1) := by decide +kernel
theorem dL_law_899 : decode cL_law 899 = .ok (.iadd, 1) := by decide +kernel
theorem dL_law_900 : decode cL_law 900 = .ok (.iaload, 1) := by decide +kernel
theorem dL_law_901 : decode cL_law 901 = .ok (.aload_n 0, 1) := by decide +kernel
theorem dL_law_902 : decode cL_law 902 = .ok (.iload 4, 2) := by decide +kernel
theorem dL_law_904 : decode cL_law 904 = .ok (.iconst 3, 1) := by decide +kernel
theorem dL_law_905 : decode cL_law 905 = .ok (.iadd, 1) := by decide +kernel
theorem dL_law_906 : decode cL_law 906 = .ok (.iaload, 1) := by decide +kernel
theorem dL_law_907 : decode cL_law 907 = .ok (.aload_n 0, 1) := by decide +kernel
theorem dL_law_908 : decode cL_law 908 = .ok (.iload 4, 2) := by decide +kernel
theorem dL_law_910 : decode cL_law 910 = .ok (.iconst 4, 1) := by decide +kernel
theorem dL_law_911 : decode cL_law 911 = .ok (.iadd, 1) := by decide +kernel
theorem dL_law_912 : decode cL_law 912 = .ok (.iaload, 1) := by decide +kernel
theorem dL_law_913 : decode cL_law 913 = .ok (.aload_n 0, 1) := by decide +kernel
theorem dL_law_914 : decode cL_law 914 = .ok (.iload 4, 2) := by decide +kernel
theorem dL_law_916 : decode cL_law 916 = .ok (.iconst 5, 1) := by decide +kernel
theorem dL_law_917 : decode cL_law 917 = .ok (.iadd, 1) := by decide +kernel
theorem dL_law_918 : decode cL_law 918 = .ok (.iaload, 1) := by decide +kernel
theorem dL_law_919 : decode cL_law 919 = .ok (.invokevirtual 168, 3) := by decide +kernel
theorem dL_law_922 : decode cL_law 922 = .ok (.istore 6, 2) := by decide +kernel
theorem dL_law_924 : decode cL_law 924 = .ok (.aload_n 2, 1) := by decide +kernel
theorem dL_law_925 : decode cL_law 925 = .ok (.invokevirtual 142, 3) := by decide +kernel
theorem dL_law_928 : decode cL_law 928 = .ok (.iload 5, 2) := by decide +kernel
theorem dL_law_930 : decode cL_law 930 = .ok (.if_icmp .eq 5, 3) := by decide +kernel
theorem dL_law_933 : decode cL_law 933 = .ok (.iconst 0, 1) := by decide +kernel
theorem dL_law_934 : decode cL_law 934 = .ok (.ireturn, 1) := by decide +kernel
theorem dL_law_935 : decode cL_law 935 = .ok (.iload 5, 2) := by decide +kernel
theorem dL_law_937 : decode cL_law 937 = .ok (.ifCond .ne 15, 3) := by decide +kernel
theorem dL_law_940 : decode cL_law 940 = .ok (.aload_n 3, 1) := by decide +kernel
theorem dL_law_941 : decode cL_law 941 = .ok (.iconst 0, 1) := by decide +kernel
theorem dL_law_942 : decode cL_law 942 = .ok (.laload, 1) := by decide +kernel
theorem dL_law_943 : decode cL_law 943 = .ok (.iload 6, 2) := by decide +kernel
theorem dL_law_945 : decode cL_law 945 = .ok (.i2l, 1) := by decide +kernel
theorem dL_law_946 : decode cL_law 946 = .ok (.lcmp, 1) := by decide +kernel
theorem dL_law_947 : decode cL_law 947 = .ok (.ifCond .eq 5, 3) := by decide +kernel
theorem dL_law_950 : decode cL_law 950 = .ok (.iconst 0, 1) := by decide +kernel
theorem dL_law_951 : decode cL_law 951 = .ok (.ireturn, 1) := by decide +kernel
theorem dL_law_952 : decode cL_law 952 = .ok (.goto 1821, 3) := by decide +kernel
theorem dL_law_955 : decode cL_law 955 = .ok (.aload_n 1, 1) := by decide +kernel
theorem dL_law_956 : decode cL_law 956 = .ok (.aload_n 0, 1) := by decide +kernel
theorem dL_law_957 : decode cL_law 957 = .ok (.iload 4, 2) := by decide +kernel
theorem dL_law_959 : decode cL_law 959 = .ok (.iconst 1, 1) := by decide +kernel
theorem dL_law_960 : decode cL_law 960 = .ok (.iadd, 1) := by decide +kernel
theorem dL_law_961 : decode cL_law 961 = .ok (.iaload, 1) := by decide +kernel
theorem dL_law_962 : decode cL_law 962 = .ok (.aload_n 0, 1) := by decide +kernel
theorem dL_law_963 : decode cL_law 963 = .ok (.iload 4, 2) := by decide +kernel
theorem dL_law_965 : decode cL_law 965 = .ok (.iconst 2, 1) := by decide +kernel
theorem dL_law_966 : decode cL_law 966 = .ok (.iadd, 1) := by decide +kernel
theorem dL_law_967 : decode cL_law 967 = .ok (.iaload, 1) := by decide +kernel
theorem dL_law_968 : decode cL_law 968 = .ok (.aload_n 3, 1) := by decide +kernel
theorem dL_law_969 : decode cL_law 969 = .ok (.invokestatic 169, 3) := by decide +kernel
theorem dL_law_972 : decode cL_law 972 = .ok (.istore 5, 2) := by decide +kernel
theorem dL_law_974 : decode cL_law 974 = .ok (.aload_n 2, 1) := by decide +kernel
theorem dL_law_975 : decode cL_law 975 = .ok (.aload_n 0, 1) := by decide +kernel
theorem dL_law_976 : decode cL_law 976 = .ok (.iload 4, 2) := by decide +kernel
theorem dL_law_978 : decode cL_law 978 = .ok (.iconst 1, 1) := by decide +kernel
theorem dL_law_979 : decode cL_law 979 = .ok (.iadd, 1) := by decide +kernel
theorem dL_law_980 : decode cL_law 980 = .ok (.iaload, 1) := by decide +kernel
theorem dL_law_981 : decode cL_law 981 = .ok (.aload_n 0, 1) := by decide +kernel
theorem dL_law_982 : decode cL_law 982 = .ok (.iload 4, 2) := by decide +kernel
theorem dL_law_984 : decode cL_law 984 = .ok (.iconst 2, 1) := by decide +kernel
theorem dL_law_985 : decode cL_law 985 = .ok (.iadd, 1) := by decide +kernel
theorem dL_law_986 : decode cL_law 986 = .ok (.iaload, 1) := by decide +kernel
theorem dL_law_987 : decode cL_law 987 = .ok (.invokevirtual 172, 3) := by decide +kernel
theorem dL_law_990 : decode cL_law 990 = .ok (.istore 6, 2) := by decide +kernel
theorem dL_law_992 : decode cL_law 992 = .ok (.aload_n 2, 1) := by decide +kernel
theorem dL_law_993 : decode cL_law 993 = .ok (.invokevirtual 142, 3) := by decide +kernel
theorem dL_law_996 : decode cL_law 996 = .ok (.iload 5, 2) := by decide +kernel
theorem dL_law_998 : decode cL_law 998 = .ok (.if_icmp .eq 5, 3) := by decide +kernel
theorem dL_law_1001 : decode cL_law 1001 = .ok (.iconst 0, 1) := by decide +kernel
theorem dL_law_1002 : decode cL_law 1002 = .ok (.ireturn, 1) := by decide +kernel
theorem dL_law_1003 : decode cL_law 1003 = .ok (.iload 5, 2) := by decide +kernel
theorem dL_law_1005 : decode cL_law 1005 = .ok (.ifCond .ne 22, 3) := by decide +kernel
theorem dL_law_1008 : decode cL_law 1008 = .ok (.aload_n 3, 1) := by decide +kernel
theorem dL_law_1009 : decode cL_law 1009 = .ok (.iconst 0, 1) := by decide +kernel
theorem dL_law_1010 : decode cL_law 1010 = .ok (.laload, 1) := by decide +kernel
theorem dL_law_1011 : decode cL_law 1011 = .ok (.iload 6, 2) := by decide +kernel
theorem dL_law_1013 : decode cL_law 1013 = .ok (.ifCond .eq 7, 3) := by decide +kernel
theorem dL_law_1016 : decode cL_law 1016 = .ok (.lconst 1, 1) := by decide +kernel
theorem dL_law_1017 : decode cL_law 1017 = .ok (.goto 4, 3) := by decide +kernel
theorem dL_law_1020 : decode cL_law 1020 = .ok (.lconst 0, 1) := by decide +kernel
theorem dL_law_1021 : decode cL_law 1021 = .ok (.lcmp, 1) := by decide +kernel
theorem dL_law_1022 : decode cL_law 1022 = .ok (.ifCond .eq 5, 3) := by decide +kernel
theorem dL_law_1025 : decode cL_law 1025 = .ok (.iconst 0, 1) := by decide +kernel
theorem dL_law_1026 : decode cL_law 1026 = .ok (.ireturn, 1) := by decide +kernel
theorem dL_law_1027 : decode cL_law 1027 = .ok (.goto 1746, 3) := by decide +kernel
theorem dL_law_1030 : decode cL_law 1030 = .ok (.aload_n 1, 1) := by decide +kernel
theorem dL_law_1031 : decode cL_law 1031 = .ok (.aload_n 0, 1) := by decide +kernel
theorem dL_law_1032 : decode cL_law 1032 = .ok (.iload 4, 2) := by decide +kernel
theorem dL_law_1034 : decode cL_law 1034 = .ok (.iconst 1, 1) := by decide +kernel
theorem dL_law_1035 : decode cL_law 1035 = .ok (.iadd, 1) := by decide +kernel
theorem dL_law_1036 : decode cL_law 1036 = .ok (.iaload, 1) := by decide +kernel
theorem dL_law_1037 : decode cL_law 1037 = .ok (.aload_n 3, 1) := by decide +kernel
theorem dL_law_1038 : decode cL_law 1038 = .ok (.invokestatic 173, 3) := by decide +kernel
theorem dL_law_1041 : decode cL_law 1041 = .ok (.istore 5, 2) := by decide +kernel
theorem dL_law_1043 : decode cL_law 1043 = .ok (.aload_n 2, 1) := by decide +kernel
theorem dL_law_1044 : decode cL_law 1044 = .ok (.aload_n 0, 1) := by decide +kernel
theorem dL_law_1045 : decode cL_law 1045 = .ok (.iload 4, 2) := by decide +kernel
theorem dL_law_1047 : decode cL_law 1047 = .ok (.iconst 1, 1) := by decide +kernel
theorem dL_law_1048 : decode cL_law 1048 = .ok (.iadd, 1) := by decide +kernel
theorem dL_law_1049 : decode cL_law 1049 = .ok (.iaload, 1) := by decide +kernel
theorem dL_law_1050 : decode cL_law 1050 = .ok (.invokevirtual 175, 3) := by decide +kernel
theorem dL_law_1053 : decode cL_law 1053 = .ok (.istore 6, 2) := by decide +kernel
theorem dL_law_1055 : decode cL_law 1055 = .ok (.aload_n 2, 1) := by decide +kernel
theorem dL_law_1056 : decode cL_law 1056 = .ok (.invokevirtual 142, 3) := by decide +kernel
theorem dL_law_1059 : decode cL_law 1059 = .ok (.iload 5, 2) := by decide +kernel
theorem dL_law_1061 : decode cL_law 1061 = .ok (.if_icmp .eq 5, 3) := by decide +kernel
theorem dL_law_1064 : decode cL_law 1064 = .ok (.iconst 0, 1) := by decide +kernel
theorem dL_law_1065 : decode cL_law 1065 = .ok (.ireturn, 1) := by decide +kernel
theorem dL_law_1066 : decode cL_law 1066 = .ok (.iload 5, 2) := by decide +kernel
theorem dL_law_1068 : decode cL_law 1068 = .ok (.ifCond .ne 22, 3) := by decide +kernel
theorem dL_law_1071 : decode cL_law 1071 = .ok (.aload_n 3, 1) := by decide +kernel
theorem dL_law_1072 : decode cL_law 1072 = .ok (.iconst 0, 1) := by decide +kernel
theorem dL_law_1073 : decode cL_law 1073 = .ok (.laload, 1) := by decide +kernel
theorem dL_law_1074 : decode cL_law 1074 = .ok (.iload 6, 2) := by decide +kernel
theorem dL_law_1076 : decode cL_law 1076 = .ok (.ifCond .eq 7, 3) := by decide +kernel
theorem dL_law_1079 : decode cL_law 1079 = .ok (.lconst 1, 1) := by decide +kernel
theorem dL_law_1080 : decode cL_law 1080 = .ok (.goto 4, 3) := by decide +kernel
theorem dL_law_1083 : decode cL_law 1083 = .ok (.lconst 0, 1) := by decide +kernel
theorem dL_law_1084 : decode cL_law 1084 = .ok (.lcmp, 1) := by decide +kernel
theorem dL_law_1085 : decode cL_law 1085 = .ok (.ifCond .eq 5, 3) := by decide +kernel
theorem dL_law_1088 : decode cL_law 1088 = .ok (.iconst 0, 1) := by decide +kernel
theorem dL_law_1089 : decode cL_law 1089 = .ok (.ireturn, 1) := by decide +kernel
theorem dL_law_1090 : decode cL_law 1090 = .ok (.goto 1683, 3) := by decide +kernel
theorem dL_law_1093 : decode cL_law 1093 = .ok (.aload_n 1, 1) := by decide +kernel
theorem dL_law_1094 : decode cL_law 1094 = .ok (.aload_n 0, 1) := by decide +kernel
theorem dL_law_1095 : decode cL_law 1095 = .ok (.iload 4, 2) := by decide +kernel
theorem dL_law_1097 : decode cL_law 1097 = .ok (.iconst 1, 1) := by decide +kernel
theorem dL_law_1098 : decode cL_law 1098 = .ok (.iadd, 1) := by decide +kernel
theorem dL_law_1099 : decode cL_law 1099 = .ok (.iaload, 1) := by decide +kernel
theorem dL_law_1100 : decode cL_law 1100 = .ok (.aload_n 3, 1) := by decide +kernel
theorem dL_law_1101 : decode cL_law 1101 = .ok (.invokestatic 176, 3) := by decide +kernel
theorem dL_law_1104 : decode cL_law 1104 = .ok (.istore 5, 2) := by decide +kernel
theorem dL_law_1106 : decode cL_law 1106 = .ok (.aload_n 2, 1) := by decide +kernel
theorem dL_law_1107 : decode cL_law 1107 = .ok (.aload_n 0, 1) := by decide +kernel
theorem dL_law_1108 : decode cL_law 1108 = .ok (.iload 4, 2) := by decide +kernel
theorem dL_law_1110 : decode cL_law 1110 = .ok (.iconst 1, 1) := by decide +kernel
theorem dL_law_1111 : decode cL_law 1111 = .ok (.iadd, 1) := by decide +kernel
theorem dL_law_1112 : decode cL_law 1112 = .ok (.iaload, 1) := by decide +kernel
theorem dL_law_1113 : decode cL_law 1113 = .ok (.invokevirtual 178, 3) := by decide +kernel
theorem dL_law_1116 : decode cL_law 1116 = .ok (.istore 6, 2) := by decide +kernel
theorem dL_law_1118 : decode cL_law 1118 = .ok (.aload_n 2, 1) := by decide +kernel
theorem dL_law_1119 : decode cL_law 1119 = .ok (.invokevirtual 142, 3) := by decide +kernel
theorem dL_law_1122 : decode cL_law 1122 = .ok (.iload 5, 2) := by decide +kernel
theorem dL_law_1124 : decode cL_law 1124 = .ok (.if_icmp .eq 5, 3) := by decide +kernel
theorem dL_law_1127 : decode cL_law 1127 = .ok (.iconst 0, 1) := by decide +kernel
theorem dL_law_1128 : decode cL_law 1128 = .ok (.ireturn, 1) := by decide +kernel
theorem dL_law_1129 : decode cL_law 1129 = .ok (.iload 5, 2) := by decide +kernel
theorem dL_law_1131 : decode cL_law 1131 = .ok (.ifCond .ne 15, 3) := by decide +kernel
theorem dL_law_1134 : decode cL_law 1134 = .ok (.aload_n 3, 1) := by decide +kernel
theorem dL_law_1135 : decode cL_law 1135 = .ok (.iconst 0, 1) := by decide +kernel
theorem dL_law_1136 : decode cL_law 1136 = .ok (.laload, 1) := by decide +kernel
theorem dL_law_1137 : decode cL_law 1137 = .ok (.iload 6, 2) := by decide +kernel
theorem dL_law_1139 : decode cL_law 1139 = .ok (.i2l, 1) := by decide +kernel
theorem dL_law_1140 : decode cL_law 1140 = .ok (.lcmp, 1) := by decide +kernel
theorem dL_law_1141 : decode cL_law 1141 = .ok (.ifCond .eq 5, 3) := by decide +kernel
theorem dL_law_1144 : decode cL_law 1144 = .ok (.iconst 0, 1) := by decide +kernel
theorem dL_law_1145 : decode cL_law 1145 = .ok (.ireturn, 1) := by decide +kernel
theorem dL_law_1146 : decode cL_law 1146 = .ok (.goto 1627, 3) := by decide +kernel
theorem dL_law_1149 : decode cL_law 1149 = .ok (.aload_n 1, 1) := by decide +kernel
theorem dL_law_1150 : decode cL_law 1150 = .ok (.aload_n 0, 1) := by decide +kernel
theorem dL_law_1151 : decode cL_law 1151 = .ok (.iload 4, 2) := by decide +kernel
theorem dL_law_1153 : decode cL_law 1153 = .ok (.iconst 1, 1) := by decide +kernel
theorem dL_law_1154 : decode cL_law 1154 = .ok (.iadd, 1) := by decide +kernel
theorem dL_law_1155 : decode cL_law 1155 = .ok (.iaload, 1) := by decide +kernel
theorem dL_law_1156 : decode cL_law 1156 = .ok (.aload_n 3, 1) := by decide +kernel
theorem dL_law_1157 : decode cL_law 1157 = .ok (.invokestatic 179, 3) := by decide +kernel
theorem dL_law_1160 : decode cL_law 1160 = .ok (.istore 5, 2) := by decide +kernel
theorem dL_law_1162 : decode cL_law 1162 = .ok (.aload_n 2, 1) := by decide +kernel
theorem dL_law_1163 : decode cL_law 1163 = .ok (.aload_n 0, 1) := by decide +kernel
theorem dL_law_1164 : decode cL_law 1164 = .ok (.iload 4, 2) := by decide +kernel
theorem dL_law_1166 : decode cL_law 1166 = .ok (.iconst 1, 1) := by decide +kernel
theorem dL_law_1167 : decode cL_law 1167 = .ok (.iadd, 1) := by decide +kernel
theorem dL_law_1168 : decode cL_law 1168 = .ok (.iaload, 1) := by decide +kernel
theorem dL_law_1169 : decode cL_law 1169 = .ok (.invokevirtual 181, 3) := by decide +kernel
theorem dL_law_1172 : decode cL_law 1172 = .ok (.istore 6, 2) := by decide +kernel
theorem dL_law_1174 : decode cL_law 1174 = .ok (.aload_n 2, 1) := by decide +kernel
theorem dL_law_1175 : decode cL_law 1175 = .ok (.invokevirtual 142, 3) := by decide +kernel
theorem dL_law_1178 : decode cL_law 1178 = .ok (.iload 5, 2) := by decide +kernel
theorem dL_law_1180 : decode cL_law 1180 = .ok (.if_icmp .eq 5, 3) := by decide +kernel
theorem dL_law_1183 : decode cL_law 1183 = .ok (.iconst 0, 1) := by decide +kernel
theorem dL_law_1184 : decode cL_law 1184 = .ok (.ireturn, 1) := by decide +kernel
theorem dL_law_1185 : decode cL_law 1185 = .ok (.iload 5, 2) := by decide +kernel
theorem dL_law_1187 : decode cL_law 1187 = .ok (.ifCond .ne 15, 3) := by decide +kernel
theorem dL_law_1190 : decode cL_law 1190 = .ok (.aload_n 3, 1) := by decide +kernel
theorem dL_law_1191 : decode cL_law 1191 = .ok (.iconst 0, 1) := by decide +kernel
theorem dL_law_1192 : decode cL_law 1192 = .ok (.laload, 1) := by decide +kernel
theorem dL_law_1193 : decode cL_law 1193 = .ok (.iload 6, 2) := by decide +kernel
theorem dL_law_1195 : decode cL_law 1195 = .ok (.i2l, 1) := by decide +kernel
theorem dL_law_1196 : decode cL_law 1196 = .ok (.lcmp, 1) := by decide +kernel
theorem dL_law_1197 : decode cL_law 1197 = .ok (.ifCond .eq 5, 3) := by decide +kernel
theorem dL_law_1200 : decode cL_law 1200 = .ok (.iconst 0, 1) := by decide +kernel
theorem dL_law_1201 : decode cL_law 1201 = .ok (.ireturn, 1) := by decide +kernel
theorem dL_law_1202 : decode cL_law 1202 = .ok (.goto 1571, 3) := by decide +kernel
theorem dL_law_1205 : decode cL_law 1205 = .ok (.aload_n 1, 1) := by decide +kernel
theorem dL_law_1206 : decode cL_law 1206 = .ok (.aload_n 0, 1) := by decide +kernel
theorem dL_law_1207 : decode cL_law 1207 = .ok (.iload 4, 2) := by decide +kernel
theorem dL_law_1209 : decode cL_law 1209 = .ok (.iconst 1, 1) := by decide +kernel
theorem dL_law_1210 : decode cL_law 1210 = .ok (.iadd, 1) := by decide +kernel
theorem dL_law_1211 : decode cL_law 1211 = .ok (.iaload, 1) := by decide +kernel
theorem dL_law_1212 : decode cL_law 1212 = .ok (.aload_n 0, 1) := by decide +kernel
theorem dL_law_1213 : decode cL_law 1213 = .ok (.iload 4, 2) := by decide +kernel
theorem dL_law_1215 : decode cL_law 1215 = .ok (.iconst 2, 1) := by decide +kernel
theorem dL_law_1216 : decode cL_law 1216 = .ok (.iadd, 1) := by decide +kernel
theorem dL_law_1217 : decode cL_law 1217 = .ok (.iaload, 1) := by decide +kernel
theorem dL_law_1218 : decode cL_law 1218 = .ok (.aload_n 3, 1) := by decide +kernel
theorem dL_law_1219 : decode cL_law 1219 = .ok (.invokestatic 182, 3) := by decide +kernel
theorem dL_law_1222 : decode cL_law 1222 = .ok (.istore 5, 2) := by decide +kernel
theorem dL_law_1224 : decode cL_law 1224 = .ok (.aload_n 2, 1) := by decide +kernel
theorem dL_law_1225 : decode cL_law 1225 = .ok (.aload_n 0, 1) := by decide +kernel
theorem dL_law_1226 : decode cL_law 1226 = .ok (.iload 4, 2) := by decide +kernel
theorem dL_law_1228 : decode cL_law 1228 = .ok (.iconst 1, 1) := by decide +kernel
theorem dL_law_1229 : decode cL_law 1229 = .ok (.iadd, 1) := by decide +kernel
theorem dL_law_1230 : decode cL_law 1230 = .ok (.iaload, 1) := by decide +kernel
theorem dL_law_1231 : decode cL_law 1231 = .ok (.aload_n 0, 1) := by decide +kernel
theorem dL_law_1232 : decode cL_law 1232 = .ok (.iload 4, 2) := by decide +kernel
theorem dL_law_1234 : decode cL_law 1234 = .ok (.iconst 2, 1) := by decide +kernel
theorem dL_law_1235 : decode cL_law 1235 = .ok (.iadd, 1) := by decide +kernel
theorem dL_law_1236 : decode cL_law 1236 = .ok (.iaload, 1) := by decide +kernel
theorem dL_law_1237 : decode cL_law 1237 = .ok (.invokevirtual 184, 3) := by decide +kernel
theorem dL_law_1240 : decode cL_law 1240 = .ok (.istore 6, 2) := by decide +kernel
theorem dL_law_1242 : decode cL_law 1242 = .ok (.aload_n 2, 1) := by decide +kernel
theorem dL_law_1243 : decode cL_law 1243 = .ok (.invokevirtual 142, 3) := by decide +kernel
theorem dL_law_1246 : decode cL_law 1246 = .ok (.iload 5, 2) := by decide +kernel
theorem dL_law_1248 : decode cL_law 1248 = .ok (.if_icmp .eq 5, 3) := by decide +kernel
theorem dL_law_1251 : decode cL_law 1251 = .ok (.iconst 0, 1) := by decide +kernel
theorem dL_law_1252 : decode cL_law 1252 = .ok (.ireturn, 1) := by decide +kernel
theorem dL_law_1253 : decode cL_law 1253 = .ok (.iload 5, 2) := by decide +kernel
theorem dL_law_1255 : decode cL_law 1255 = .ok (.ifCond .ne 15, 3) := by decide +kernel
theorem dL_law_1258 : decode cL_law 1258 = .ok (.aload_n 3, 1) := by decide +kernel
theorem dL_law_1259 : decode cL_law 1259 = .ok (.iconst 0, 1) := by decide +kernel
theorem dL_law_1260 : decode cL_law 1260 = .ok (.laload, 1) := by decide +kernel
theorem dL_law_1261 : decode cL_law 1261 = .ok (.iload 6, 2) := by decide +kernel
theorem dL_law_1263 : decode cL_law 1263 = .ok (.i2l, 1) := by decide +kernel
theorem dL_law_1264 : decode cL_law 1264 = .ok (.lcmp, 1) := by decide +kernel
theorem dL_law_1265 : decode cL_law 1265 = .ok (.ifCond .eq 5, 3) := by decide +kernel
theorem dL_law_1268 : decode cL_law 1268 = .ok (.iconst 0, 1) := by decide +kernel
theorem dL_law_1269 : decode cL_law 1269 = .ok (.ireturn, 1) := by decide +kernel
theorem dL_law_1270 : decode cL_law 1270 = .ok (.goto 1503, 3) := by decide +kernel
theorem dL_law_1273 : decode cL_law 1273 = .ok (.aload_n 1, 1) := by decide +kernel
theorem dL_law_1274 : decode cL_law 1274 = .ok (.aload_n 0, 1) := by decide +kernel
theorem dL_law_1275 : decode cL_law 1275 = .ok (.iload 4, 2) := by decide +kernel
theorem dL_law_1277 : decode cL_law 1277 = .ok (.iconst 1, 1) := by decide +kernel
theorem dL_law_1278 : decode cL_law 1278 = .ok (.iadd, 1) := by decide +kernel
theorem dL_law_1279 : decode cL_law 1279 = .ok (.iaload, 1) := by decide +kernel
theorem dL_law_1280 : decode cL_law 1280 = .ok (.aload_n 0, 1) := by decide +kernel
theorem dL_law_1281 : decode cL_law 1281 = .ok (.iload 4, 2) := by decide +kernel
theorem dL_law_1283 : decode cL_law 1283 = .ok (.iconst 2, 1) := by decide +kernel
theorem dL_law_1284 : decode cL_law 1284 = .ok (.iadd, 1) := by decide +kernel
theorem dL_law_1285 : decode cL_law 1285 = .ok (.iaload, 1) := by decide +kernel
theorem dL_law_1286 : decode cL_law 1286 = .ok (.aload_n 3, 1) := by decide +kernel
theorem dL_law_1287 : decode cL_law 1287 = .ok (.invokestatic 185, 3) := by decide +kernel
theorem dL_law_1290 : decode cL_law 1290 = .ok (.istore 5, 2) := by decide +kernel
theorem dL_law_1292 : decode cL_law 1292 = .ok (.aload_n 2, 1) := by decide +kernel
theorem dL_law_1293 : decode cL_law 1293 = .ok (.aload_n 0, 1) := by decide +kernel
theorem dL_law_1294 : decode cL_law 1294 = .ok (.iload 4, 2) := by decide +kernel
theorem dL_law_1296 : decode cL_law 1296 = .ok (.iconst 1, 1) := by decide +kernel
theorem dL_law_1297 : decode cL_law 1297 = .ok (.iadd, 1) := by decide +kernel
theorem dL_law_1298 : decode cL_law 1298 = .ok (.iaload, 1) := by decide +kernel
theorem dL_law_1299 : decode cL_law 1299 = .ok (.aload_n 0, 1) := by decide +kernel
theorem dL_law_1300 : decode cL_law 1300 = .ok (.iload 4, 2) := by decide +kernel
theorem dL_law_1302 : decode cL_law 1302 = .ok (.iconst 2, 1) := by decide +kernel
theorem dL_law_1303 : decode cL_law 1303 = .ok (.iadd, 1) := by decide +kernel
theorem dL_law_1304 : decode cL_law 1304 = .ok (.iaload, 1) := by decide +kernel
theorem dL_law_1305 : decode cL_law 1305 = .ok (.invokevirtual 187, 3) := by decide +kernel
theorem dL_law_1308 : decode cL_law 1308 = .ok (.istore 6, 2) := by decide +kernel
theorem dL_law_1310 : decode cL_law 1310 = .ok (.aload_n 2, 1) := by decide +kernel
theorem dL_law_1311 : decode cL_law 1311 = .ok (.invokevirtual 142, 3) := by decide +kernel
theorem dL_law_1314 : decode cL_law 1314 = .ok (.iload 5, 2) := by decide +kernel
theorem dL_law_1316 : decode cL_law 1316 = .ok (.if_icmp .eq 5, 3) := by decide +kernel
theorem dL_law_1319 : decode cL_law 1319 = .ok (.iconst 0, 1) := by decide +kernel
theorem dL_law_1320 : decode cL_law 1320 = .ok (.ireturn, 1) := by decide +kernel
theorem dL_law_1321 : decode cL_law 1321 = .ok (.iload 5, 2) := by decide +kernel
theorem dL_law_1323 : decode cL_law 1323 = .ok (.ifCond .ne 15, 3) := by decide +kernel
theorem dL_law_1326 : decode cL_law 1326 = .ok (.aload_n 3, 1) := by decide +kernel
theorem dL_law_1327 : decode cL_law 1327 = .ok (.iconst 0, 1) := by decide +kernel
theorem dL_law_1328 : decode cL_law 1328 = .ok (.laload, 1) := by decide +kernel
theorem dL_law_1329 : decode cL_law 1329 = .ok (.iload 6, 2) := by decide +kernel
theorem dL_law_1331 : decode cL_law 1331 = .ok (.i2l, 1) := by decide +kernel
theorem dL_law_1332 : decode cL_law 1332 = .ok (.lcmp, 1) := by decide +kernel
theorem dL_law_1333 : decode cL_law 1333 = .ok (.ifCond .eq 5, 3) := by decide +kernel
theorem dL_law_1336 : decode cL_law 1336 = .ok (.iconst 0, 1) := by decide +kernel
theorem dL_law_1337 : decode cL_law 1337 = .ok (.ireturn, 1) := by decide +kernel
theorem dL_law_1338 : decode cL_law 1338 = .ok (.goto 1435, 3) := by decide +kernel
theorem dL_law_1341 : decode cL_law 1341 = .ok (.aload_n 1, 1) := by decide +kernel
theorem dL_law_1342 : decode cL_law 1342 = .ok (.aload_n 0, 1) := by decide +kernel
theorem dL_law_1343 : decode cL_law 1343 = .ok (.iload 4, 2) := by decide +kernel
theorem dL_law_1345 : decode cL_law 1345 = .ok (.iconst 1, 1) := by decide +kernel
theorem dL_law_1346 : decode cL_law 1346 = .ok (.iadd, 1) := by decide +kernel
theorem dL_law_1347 : decode cL_law 1347 = .ok (.iaload, 1) := by decide +kernel
theorem dL_law_1348 : decode cL_law 1348 = .ok (.aload_n 3, 1) := by decide +kernel
theorem dL_law_1349 : decode cL_law 1349 = .ok (.invokestatic 188, 3) := by decide +kernel
theorem dL_law_1352 : decode cL_law 1352 = .ok (.istore 5, 2) := by decide +kernel
theorem dL_law_1354 : decode cL_law 1354 = .ok (.aload_n 2, 1) := by decide +kernel
theorem dL_law_1355 : decode cL_law 1355 = .ok (.aload_n 0, 1) := by decide +kernel
theorem dL_law_1356 : decode cL_law 1356 = .ok (.iload 4, 2) := by decide +kernel
theorem dL_law_1358 : decode cL_law 1358 = .ok (.iconst 1, 1) := by decide +kernel
theorem dL_law_1359 : decode cL_law 1359 = .ok (.iadd, 1) := by decide +kernel
theorem dL_law_1360 : decode cL_law 1360 = .ok (.iaload, 1) := by decide +kernel
theorem dL_law_1361 : decode cL_law 1361 = .ok (.invokevirtual 190, 3) := by decide +kernel
theorem dL_law_1364 : decode cL_law 1364 = .ok (.istore 6, 2) := by decide +kernel
theorem dL_law_1366 : decode cL_law 1366 = .ok (.aload_n 2, 1) := by decide +kernel
theorem dL_law_1367 : decode cL_law 1367 = .ok (.invokevirtual 142, 3) := by decide +kernel
theorem dL_law_1370 : decode cL_law 1370 = .ok (.iload 5, 2) := by decide +kernel
theorem dL_law_1372 : decode cL_law 1372 = .ok (.if_icmp .eq 5, 3) := by decide +kernel
theorem dL_law_1375 : decode cL_law 1375 = .ok (.iconst 0, 1) := by decide +kernel
theorem dL_law_1376 : decode cL_law 1376 = .ok (.ireturn, 1) := by decide +kernel
theorem dL_law_1377 : decode cL_law 1377 = .ok (.iload 5, 2) := by decide +kernel
theorem dL_law_1379 : decode cL_law 1379 = .ok (.ifCond .ne 15, 3) := by decide +kernel
theorem dL_law_1382 : decode cL_law 1382 = .ok (.aload_n 3, 1) := by decide +kernel
theorem dL_law_1383 : decode cL_law 1383 = .ok (.iconst 0, 1) := by decide +kernel
theorem dL_law_1384 : decode cL_law 1384 = .ok (.laload, 1) := by decide +kernel
theorem dL_law_1385 : decode cL_law 1385 = .ok (.iload 6, 2) := by decide +kernel
theorem dL_law_1387 : decode cL_law 1387 = .ok (.i2l, 1) := by decide +kernel
theorem dL_law_1388 : decode cL_law 1388 = .ok (.lcmp, 1) := by decide +kernel
theorem dL_law_1389 : decode cL_law 1389 = .ok (.ifCond .eq 5, 3) := by decide +kernel
theorem dL_law_1392 : decode cL_law 1392 = .ok (.iconst 0, 1) := by decide +kernel
theorem dL_law_1393 : decode cL_law 1393 = .ok (.ireturn, 1) := by decide +kernel
theorem dL_law_1394 : decode cL_law 1394 = .ok (.goto 1379, 3) := by decide +kernel
theorem dL_law_1397 : decode cL_law 1397 = .ok (.aload_n 1, 1) := by decide +kernel
theorem dL_law_1398 : decode cL_law 1398 = .ok (.aload_n 0, 1) := by decide +kernel
theorem dL_law_1399 : decode cL_law 1399 = .ok (.iload 4, 2) := by decide +kernel
theorem dL_law_1401 : decode cL_law 1401 = .ok (.iconst 1, 1) := by decide +kernel
theorem dL_law_1402 : decode cL_law 1402 = .ok (.iadd, 1) := by decide +kernel
theorem dL_law_1403 : decode cL_law 1403 = .ok (.iaload, 1) := by decide +kernel
theorem dL_law_1404 : decode cL_law 1404 = .ok (.aload_n 3, 1) := by decide +kernel
theorem dL_law_1405 : decode cL_law 1405 = .ok (.invokestatic 191, 3) := by decide +kernel
theorem dL_law_1408 : decode cL_law 1408 = .ok (.istore 5, 2) := by decide +kernel
theorem dL_law_1410 : decode cL_law 1410 = .ok (.aload_n 2, 1) := by decide +kernel
theorem dL_law_1411 : decode cL_law 1411 = .ok (.aload_n 0, 1) := by decide +kernel
theorem dL_law_1412 : decode cL_law 1412 = .ok (.iload 4, 2) := by decide +kernel
theorem dL_law_1414 : decode cL_law 1414 = .ok (.iconst 1, 1) := by decide +kernel
theorem dL_law_1415 : decode cL_law 1415 = .ok (.iadd, 1) := by decide +kernel
theorem dL_law_1416 : decode cL_law 1416 = .ok (.iaload, 1) := by decide +kernel
theorem dL_law_1417 : decode cL_law 1417 = .ok (.invokevirtual 193, 3) := by decide +kernel
theorem dL_law_1420 : decode cL_law 1420 = .ok (.istore 6, 2) := by decide +kernel
theorem dL_law_1422 : decode cL_law 1422 = .ok (.aload_n 2, 1) := by decide +kernel
theorem dL_law_1423 : decode cL_law 1423 = .ok (.invokevirtual 142, 3) := by decide +kernel
theorem dL_law_1426 : decode cL_law 1426 = .ok (.iload 5, 2) := by decide +kernel
theorem dL_law_1428 : decode cL_law 1428 = .ok (.if_icmp .eq 5, 3) := by decide +kernel
theorem dL_law_1431 : decode cL_law 1431 = .ok (.iconst 0, 1) := by decide +kernel
theorem dL_law_1432 : decode cL_law 1432 = .ok (.ireturn, 1) := by decide +kernel
theorem dL_law_1433 : decode cL_law 1433 = .ok (.iload 5, 2) := by decide +kernel
theorem dL_law_1435 : decode cL_law 1435 = .ok (.ifCond .ne 15, 3) := by decide +kernel
theorem dL_law_1438 : decode cL_law 1438 = .ok (.aload_n 3, 1) := by decide +kernel
theorem dL_law_1439 : decode cL_law 1439 = .ok (.iconst 0, 1) := by decide +kernel
theorem dL_law_1440 : decode cL_law 1440 = .ok (.laload, 1) := by decide +kernel
theorem dL_law_1441 : decode cL_law 1441 = .ok (.iload 6, 2) := by decide +kernel
theorem dL_law_1443 : decode cL_law 1443 = .ok (.i2l, 1) := by decide +kernel
theorem dL_law_1444 : decode cL_law 1444 = .ok (.lcmp, 1) := by decide +kernel
theorem dL_law_1445 : decode cL_law 1445 = .ok (.ifCond .eq 5, 3) := by decide +kernel
theorem dL_law_1448 : decode cL_law 1448 = .ok (.iconst 0, 1) := by decide +kernel
theorem dL_law_1449 : decode cL_law 1449 = .ok (.ireturn, 1) := by decide +kernel
theorem dL_law_1450 : decode cL_law 1450 = .ok (.goto 1323, 3) := by decide +kernel
theorem dL_law_1453 : decode cL_law 1453 = .ok (.aload_n 1, 1) := by decide +kernel
theorem dL_law_1454 : decode cL_law 1454 = .ok (.aload_n 0, 1) := by decide +kernel
theorem dL_law_1455 : decode cL_law 1455 = .ok (.iload 4, 2) := by decide +kernel
theorem dL_law_1457 : decode cL_law 1457 = .ok (.iconst 1, 1) := by decide +kernel
theorem dL_law_1458 : decode cL_law 1458 = .ok (.iadd, 1) := by decide +kernel
theorem dL_law_1459 : decode cL_law 1459 = .ok (.iaload, 1) := by decide +kernel
theorem dL_law_1460 : decode cL_law 1460 = .ok (.invokevirtual 194, 3) := by decide +kernel
theorem dL_law_1463 : decode cL_law 1463 = .ok (.aload_n 2, 1) := by decide +kernel
theorem dL_law_1464 : decode cL_law 1464 = .ok (.aload_n 0, 1) := by decide +kernel
theorem dL_law_1465 : decode cL_law 1465 = .ok (.iload 4, 2) := by decide +kernel
theorem dL_law_1467 : decode cL_law 1467 = .ok (.iconst 1, 1) := by decide +kernel
theorem dL_law_1468 : decode cL_law 1468 = .ok (.iadd, 1) := by decide +kernel
theorem dL_law_1469 : decode cL_law 1469 = .ok (.iaload, 1) := by decide +kernel
theorem dL_law_1470 : decode cL_law 1470 = .ok (.invokevirtual 197, 3) := by decide +kernel
theorem dL_law_1473 : decode cL_law 1473 = .ok (.if_icmp .eq 1300, 3) := by decide +kernel
theorem dL_law_1476 : decode cL_law 1476 = .ok (.iconst 0, 1) := by decide +kernel
theorem dL_law_1477 : decode cL_law 1477 = .ok (.ireturn, 1) := by decide +kernel
theorem dL_law_1478 : decode cL_law 1478 = .ok (.aload_n 1, 1) := by decide +kernel
theorem dL_law_1479 : decode cL_law 1479 = .ok (.aload_n 0, 1) := by decide +kernel
theorem dL_law_1480 : decode cL_law 1480 = .ok (.iload 4, 2) := by decide +kernel
theorem dL_law_1482 : decode cL_law 1482 = .ok (.iconst 1, 1) := by decide +kernel
theorem dL_law_1483 : decode cL_law 1483 = .ok (.iadd, 1) := by decide +kernel
theorem dL_law_1484 : decode cL_law 1484 = .ok (.iaload, 1) := by decide +kernel
theorem dL_law_1485 : decode cL_law 1485 = .ok (.aload_n 3, 1) := by decide +kernel
theorem dL_law_1486 : decode cL_law 1486 = .ok (.invokestatic 198, 3) := by decide +kernel
theorem dL_law_1489 : decode cL_law 1489 = .ok (.istore 5, 2) := by decide +kernel
theorem dL_law_1491 : decode cL_law 1491 = .ok (.aload_n 2, 1) := by decide +kernel
theorem dL_law_1492 : decode cL_law 1492 = .ok (.aload_n 0, 1) := by decide +kernel
theorem dL_law_1493 : decode cL_law 1493 = .ok (.iload 4, 2) := by decide +kernel
theorem dL_law_1495 : decode cL_law 1495 = .ok (.iconst 1, 1) := by decide +kernel
theorem dL_law_1496 : decode cL_law 1496 = .ok (.iadd, 1) := by decide +kernel
theorem dL_law_1497 : decode cL_law 1497 = .ok (.iaload, 1) := by decide +kernel
theorem dL_law_1498 : decode cL_law 1498 = .ok (.invokevirtual 200, 3) := by decide +kernel
theorem dL_law_1501 : decode cL_law 1501 = .ok (.istore 6, 2) := by decide +kernel
theorem dL_law_1503 : decode cL_law 1503 = .ok (.aload_n 2, 1) := by decide +kernel
theorem dL_law_1504 : decode cL_law 1504 = .ok (.invokevirtual 142, 3) := by decide +kernel
theorem dL_law_1507 : decode cL_law 1507 = .ok (.iload 5, 2) := by decide +kernel
theorem dL_law_1509 : decode cL_law 1509 = .ok (.if_icmp .eq 5, 3) := by decide +kernel
theorem dL_law_1512 : decode cL_law 1512 = .ok (.iconst 0, 1) := by decide +kernel
theorem dL_law_1513 : decode cL_law 1513 = .ok (.ireturn, 1) := by decide +kernel
theorem dL_law_1514 : decode cL_law 1514 = .ok (.iload 5, 2) := by decide +kernel
theorem dL_law_1516 : decode cL_law 1516 = .ok (.ifCond .ne 15, 3) := by decide +kernel
theorem dL_law_1519 : decode cL_law 1519 = .ok (.aload_n 3, 1) := by decide +kernel
theorem dL_law_1520 : decode cL_law 1520 = .ok (.iconst 0, 1) := by decide +kernel
theorem dL_law_1521 : decode cL_law 1521 = .ok (.laload, 1) := by decide +kernel
theorem dL_law_1522 : decode cL_law 1522 = .ok (.iload 6, 2) := by decide +kernel
theorem dL_law_1524 : decode cL_law 1524 = .ok (.i2l, 1) := by decide +kernel
theorem dL_law_1525 : decode cL_law 1525 = .ok (.lcmp, 1) := by decide +kernel
theorem dL_law_1526 : decode cL_law 1526 = .ok (.ifCond .eq 5, 3) := by decide +kernel
theorem dL_law_1529 : decode cL_law 1529 = .ok (.iconst 0, 1) := by decide +kernel
theorem dL_law_1530 : decode cL_law 1530 = .ok (.ireturn, 1) := by decide +kernel
theorem dL_law_1531 : decode cL_law 1531 = .ok (.goto 1242, 3) := by decide +kernel
theorem dL_law_1534 : decode cL_law 1534 = .ok (.aload_n 1, 1) := by decide +kernel
theorem dL_law_1535 : decode cL_law 1535 = .ok (.invokevirtual 201, 3) := by decide +kernel
theorem dL_law_1538 : decode cL_law 1538 = .ok (.aload_n 2, 1) := by decide +kernel
theorem dL_law_1539 : decode cL_law 1539 = .ok (.invokevirtual 204, 3) := by decide +kernel
theorem dL_law_1542 : decode cL_law 1542 = .ok (.if_icmp .eq 1231, 3) := by decide +kernel
theorem dL_law_1545 : decode cL_law 1545 = .ok (.iconst 0, 1) := by decide +kernel
theorem dL_law_1546 : decode cL_law 1546 = .ok (.ireturn, 1) := by decide +kernel
theorem dL_law_1547 : decode cL_law 1547 = .ok (.aload_n 1, 1) := by decide +kernel
theorem dL_law_1548 : decode cL_law 1548 = .ok (.aload_n 0, 1) := by decide +kernel
theorem dL_law_1549 : decode cL_law 1549 = .ok (.iload 4, 2) := by decide +kernel
theorem dL_law_1551 : decode cL_law 1551 = .ok (.iconst 1, 1) := by decide +kernel
theorem dL_law_1552 : decode cL_law 1552 = .ok (.iadd, 1) := by decide +kernel
theorem dL_law_1553 : decode cL_law 1553 = .ok (.iaload, 1) := by decide +kernel
theorem dL_law_1554 : decode cL_law 1554 = .ok (.aload_n 0, 1) := by decide +kernel
theorem dL_law_1555 : decode cL_law 1555 = .ok (.iload 4, 2) := by decide +kernel
theorem dL_law_1557 : decode cL_law 1557 = .ok (.iconst 2, 1) := by decide +kernel
theorem dL_law_1558 : decode cL_law 1558 = .ok (.iadd, 1) := by decide +kernel
theorem dL_law_1559 : decode cL_law 1559 = .ok (.iaload, 1) := by decide +kernel
theorem dL_law_1560 : decode cL_law 1560 = .ok (.aload_n 3, 1) := by decide +kernel
theorem dL_law_1561 : decode cL_law 1561 = .ok (.invokestatic 205, 3) := by decide +kernel
theorem dL_law_1564 : decode cL_law 1564 = .ok (.istore 5, 2) := by decide +kernel
theorem dL_law_1566 : decode cL_law 1566 = .ok (.aload_n 2, 1) := by decide +kernel
theorem dL_law_1567 : decode cL_law 1567 = .ok (.aload_n 0, 1) := by decide +kernel
theorem dL_law_1568 : decode cL_law 1568 = .ok (.iload 4, 2) := by decide +kernel
theorem dL_law_1570 : decode cL_law 1570 = .ok (.iconst 1, 1) := by decide +kernel
theorem dL_law_1571 : decode cL_law 1571 = .ok (.iadd, 1) := by decide +kernel
theorem dL_law_1572 : decode cL_law 1572 = .ok (.iaload, 1) := by decide +kernel
theorem dL_law_1573 : decode cL_law 1573 = .ok (.aload_n 0, 1) := by decide +kernel
theorem dL_law_1574 : decode cL_law 1574 = .ok (.iload 4, 2) := by decide +kernel
theorem dL_law_1576 : decode cL_law 1576 = .ok (.iconst 2, 1) := by decide +kernel
theorem dL_law_1577 : decode cL_law 1577 = .ok (.iadd, 1) := by decide +kernel
theorem dL_law_1578 : decode cL_law 1578 = .ok (.iaload, 1) := by decide +kernel
theorem dL_law_1579 : decode cL_law 1579 = .ok (.invokevirtual 207, 3) := by decide +kernel
theorem dL_law_1582 : decode cL_law 1582 = .ok (.istore 6, 2) := by decide +kernel
theorem dL_law_1584 : decode cL_law 1584 = .ok (.aload_n 2, 1) := by decide +kernel
theorem dL_law_1585 : decode cL_law 1585 = .ok (.invokevirtual 142, 3) := by decide +kernel
theorem dL_law_1588 : decode cL_law 1588 = .ok (.iload 5, 2) := by decide +kernel
theorem dL_law_1590 : decode cL_law 1590 = .ok (.if_icmp .eq 5, 3) := by decide +kernel
theorem dL_law_1593 : decode cL_law 1593 = .ok (.iconst 0, 1) := by decide +kernel
theorem dL_law_1594 : decode cL_law 1594 = .ok (.ireturn, 1) := by decide +kernel
theorem dL_law_1595 : decode cL_law 1595 = .ok (.iload 5, 2) := by decide +kernel
theorem dL_law_1597 : decode cL_law 1597 = .ok (.ifCond .ne 15, 3) := by decide +kernel
theorem dL_law_1600 : decode cL_law 1600 = .ok (.aload_n 3, 1) := by decide +kernel
theorem dL_law_1601 : decode cL_law 1601 = .ok (.iconst 0, 1) := by decide +kernel
theorem dL_law_1602 : decode cL_law 1602 = .ok (.laload, 1) := by decide +kernel
theorem dL_law_1603 : decode cL_law 1603 = .ok (.iload 6, 2) := by decide +kernel
theorem dL_law_1605 : decode cL_law 1605 = .ok (.i2l, 1) := by decide +kernel
theorem dL_law_1606 : decode cL_law 1606 = .ok (.lcmp, 1) := by decide +kernel
theorem dL_law_1607 : decode cL_law 1607 = .ok (.ifCond .eq 5, 3) := by decide +kernel
theorem dL_law_1610 : decode cL_law 1610 = .ok (.iconst 0, 1) := by decide +kernel
theorem dL_law_1611 : decode cL_law 1611 = .ok (.ireturn, 1) := by decide +kernel
theorem dL_law_1612 : decode cL_law 1612 = .ok (.goto 1161, 3) := by decide +kernel
theorem dL_law_1615 : decode cL_law 1615 = .ok (.aload_n 1, 1) := by decide +kernel
theorem dL_law_1616 : decode cL_law 1616 = .ok (.aload_n 0, 1) := by decide +kernel
theorem dL_law_1617 : decode cL_law 1617 = .ok (.iload 4, 2) := by decide +kernel
theorem dL_law_1619 : decode cL_law 1619 = .ok (.iconst 1, 1) := by decide +kernel
theorem dL_law_1620 : decode cL_law 1620 = .ok (.iadd, 1) := by decide +kernel
theorem dL_law_1621 : decode cL_law 1621 = .ok (.iaload, 1) := by decide +kernel
theorem dL_law_1622 : decode cL_law 1622 = .ok (.aload_n 0, 1) := by decide +kernel
theorem dL_law_1623 : decode cL_law 1623 = .ok (.iload 4, 2) := by decide +kernel
theorem dL_law_1625 : decode cL_law 1625 = .ok (.iconst 2, 1) := by decide +kernel
theorem dL_law_1626 : decode cL_law 1626 = .ok (.iadd, 1) := by decide +kernel
theorem dL_law_1627 : decode cL_law 1627 = .ok (.iaload, 1) := by decide +kernel
theorem dL_law_1628 : decode cL_law 1628 = .ok (.aload_n 3, 1) := by decide +kernel
theorem dL_law_1629 : decode cL_law 1629 = .ok (.invokestatic 208, 3) := by decide +kernel
theorem dL_law_1632 : decode cL_law 1632 = .ok (.istore 5, 2) := by decide +kernel
theorem dL_law_1634 : decode cL_law 1634 = .ok (.aload_n 2, 1) := by decide +kernel
theorem dL_law_1635 : decode cL_law 1635 = .ok (.aload_n 0, 1) := by decide +kernel
theorem dL_law_1636 : decode cL_law 1636 = .ok (.iload 4, 2) := by decide +kernel
theorem dL_law_1638 : decode cL_law 1638 = .ok (.iconst 1, 1) := by decide +kernel
theorem dL_law_1639 : decode cL_law 1639 = .ok (.iadd, 1) := by decide +kernel
theorem dL_law_1640 : decode cL_law 1640 = .ok (.iaload, 1) := by decide +kernel
theorem dL_law_1641 : decode cL_law 1641 = .ok (.aload_n 0, 1) := by decide +kernel
theorem dL_law_1642 : decode cL_law 1642 = .ok (.iload 4, 2) := by decide +kernel
theorem dL_law_1644 : decode cL_law 1644 = .ok (.iconst 2, 1) := by decide +kernel
theorem dL_law_1645 : decode cL_law 1645 = .ok (.iadd, 1) := by decide +kernel
theorem dL_law_1646 : decode cL_law 1646 = .ok (.iaload, 1) := by decide +kernel
theorem dL_law_1647 : decode cL_law 1647 = .ok (.invokevirtual 210, 3) := by decide +kernel
theorem dL_law_1650 : decode cL_law 1650 = .ok (.istore 6, 2) := by decide +kernel
theorem dL_law_1652 : decode cL_law 1652 = .ok (.aload_n 2, 1) := by decide +kernel
theorem dL_law_1653 : decode cL_law 1653 = .ok (.invokevirtual 142, 3) := by decide +kernel
theorem dL_law_1656 : decode cL_law 1656 = .ok (.iload 5, 2) := by decide +kernel
theorem dL_law_1658 : decode cL_law 1658 = .ok (.if_icmp .eq 5, 3) := by decide +kernel
theorem dL_law_1661 : decode cL_law 1661 = .ok (.iconst 0, 1) := by decide +kernel
theorem dL_law_1662 : decode cL_law 1662 = .ok (.ireturn, 1) := by decide +kernel
theorem dL_law_1663 : decode cL_law 1663 = .ok (.iload 5, 2) := by decide +kernel
theorem dL_law_1665 : decode cL_law 1665 = .ok (.ifCond .ne 15, 3) := by decide +kernel
theorem dL_law_1668 : decode cL_law 1668 = .ok (.aload_n 3, 1) := by decide +kernel
theorem dL_law_1669 : decode cL_law 1669 = .ok (.iconst 0, 1) := by decide +kernel
theorem dL_law_1670 : decode cL_law 1670 = .ok (.laload, 1) := by decide +kernel
theorem dL_law_1671 : decode cL_law 1671 = .ok (.iload 6, 2) := by decide +kernel
theorem dL_law_1673 : decode cL_law 1673 = .ok (.i2l, 1) := by decide +kernel
theorem dL_law_1674 : decode cL_law 1674 = .ok (.lcmp, 1) := by decide +kernel
theorem dL_law_1675 : decode cL_law 1675 = .ok (.ifCond .eq 5, 3) := by decide +kernel
theorem dL_law_1678 : decode cL_law 1678 = .ok (.iconst 0, 1) := by decide +kernel
theorem dL_law_1679 : decode cL_law 1679 = .ok (.ireturn, 1) := by decide +kernel
theorem dL_law_1680 : decode cL_law 1680 = .ok (.goto 1093, 3) := by decide +kernel
theorem dL_law_1683 : decode cL_law 1683 = .ok (.aload_n 1, 1) := by decide +kernel
theorem dL_law_1684 : decode cL_law 1684 = .ok (.aload_n 0, 1) := by decide +kernel
theorem dL_law_1685 : decode cL_law 1685 = .ok (.iload 4, 2) := by decide +kernel
theorem dL_law_1687 : decode cL_law 1687 = .ok (.iconst 1, 1) := by decide +kernel
theorem dL_law_1688 : decode cL_law 1688 = .ok (.iadd, 1) := by decide +kernel
theorem dL_law_1689 : decode cL_law 1689 = .ok (.iaload, 1) := by decide +kernel
theorem dL_law_1690 : decode cL_law 1690 = .ok (.aload_n 0, 1) := by decide +kernel
theorem dL_law_1691 : decode cL_law 1691 = .ok (.iload 4, 2) := by decide +kernel
theorem dL_law_1693 : decode cL_law 1693 = .ok (.iconst 2, 1) := by decide +kernel
theorem dL_law_1694 : decode cL_law 1694 = .ok (.iadd, 1) := by decide +kernel
theorem dL_law_1695 : decode cL_law 1695 = .ok (.iaload, 1) := by decide +kernel
theorem dL_law_1696 : decode cL_law 1696 = .ok (.ifCond .eq 7, 3) := by decide +kernel
theorem dL_law_1699 : decode cL_law 1699 = .ok (.iconst 1, 1) := by decide +kernel
theorem dL_law_1700 : decode cL_law 1700 = .ok (.goto 4, 3) := by decide +kernel
theorem dL_law_1703 : decode cL_law 1703 = .ok (.iconst 0, 1) := by decide +kernel
theorem dL_law_1704 : decode cL_law 1704 = .ok (.aload_n 3, 1) := by decide +kernel
theorem dL_law_1705 : decode cL_law 1705 = .ok (.invokestatic 211, 3) := by decide +kernel
theorem dL_law_1708 : decode cL_law 1708 = .ok (.istore 5, 2) := by decide +kernel
theorem dL_law_1710 : decode cL_law 1710 = .ok (.aload_n 2, 1) := by decide +kernel
theorem dL_law_1711 : decode cL_law 1711 = .ok (.aload_n 0, 1) := by decide +kernel
theorem dL_law_1712 : decode cL_law 1712 = .ok (.iload 4, 2) := by decide +kernel
theorem dL_law_1714 : decode cL_law 1714 = .ok (.iconst 1, 1) := by decide +kernel
theorem dL_law_1715 : decode cL_law 1715 = .ok (.iadd, 1) := by decide +kernel
theorem dL_law_1716 : decode cL_law 1716 = .ok (.iaload, 1) := by decide +kernel
theorem dL_law_1717 : decode cL_law 1717 = .ok (.aload_n 0, 1) := by decide +kernel
theorem dL_law_1718 : decode cL_law 1718 = .ok (.iload 4, 2) := by decide +kernel
theorem dL_law_1720 : decode cL_law 1720 = .ok (.iconst 2, 1) := by decide +kernel
theorem dL_law_1721 : decode cL_law 1721 = .ok (.iadd, 1) := by decide +kernel
theorem dL_law_1722 : decode cL_law 1722 = .ok (.iaload, 1) := by decide +kernel
theorem dL_law_1723 : decode cL_law 1723 = .ok (.ifCond .eq 7, 3) := by decide +kernel
theorem dL_law_1726 : decode cL_law 1726 = .ok (.iconst 1, 1) := by decide +kernel
theorem dL_law_1727 : decode cL_law 1727 = .ok (.goto 4, 3) := by decide +kernel
theorem dL_law_1730 : decode cL_law 1730 = .ok (.iconst 0, 1) := by decide +kernel
theorem dL_law_1731 : decode cL_law 1731 = .ok (.invokevirtual 214, 3) := by decide +kernel
theorem dL_law_1734 : decode cL_law 1734 = .ok (.istore 6, 2) := by decide +kernel
theorem dL_law_1736 : decode cL_law 1736 = .ok (.aload_n 2, 1) := by decide +kernel
theorem dL_law_1737 : decode cL_law 1737 = .ok (.invokevirtual 142, 3) := by decide +kernel
theorem dL_law_1740 : decode cL_law 1740 = .ok (.iload 5, 2) := by decide +kernel
theorem dL_law_1742 : decode cL_law 1742 = .ok (.if_icmp .eq 5, 3) := by decide +kernel
theorem dL_law_1745 : decode cL_law 1745 = .ok (.iconst 0, 1) := by decide +kernel
theorem dL_law_1746 : decode cL_law 1746 = .ok (.ireturn, 1) := by decide +kernel
theorem dL_law_1747 : decode cL_law 1747 = .ok (.iload 5, 2) := by decide +kernel
theorem dL_law_1749 : decode cL_law 1749 = .ok (.ifCond .ne 15, 3) := by decide +kernel
theorem dL_law_1752 : decode cL_law 1752 = .ok (.aload_n 3, 1) := by decide +kernel
theorem dL_law_1753 : decode cL_law 1753 = .ok (.iconst 0, 1) := by decide +kernel
theorem dL_law_1754 : decode cL_law 1754 = .ok (.laload, 1) := by decide +kernel
theorem dL_law_1755 : decode cL_law 1755 = .ok (.iload 6, 2) := by decide +kernel
theorem dL_law_1757 : decode cL_law 1757 = .ok (.i2l, 1) := by decide +kernel
theorem dL_law_1758 : decode cL_law 1758 = .ok (.lcmp, 1) := by decide +kernel
theorem dL_law_1759 : decode cL_law 1759 = .ok (.ifCond .eq 5, 3) := by decide +kernel
theorem dL_law_1762 : decode cL_law 1762 = .ok (.iconst 0, 1) := by decide +kernel
theorem dL_law_1763 : decode cL_law 1763 = .ok (.ireturn, 1) := by decide +kernel
theorem dL_law_1764 : decode cL_law 1764 = .ok (.goto 1009, 3) := by decide +kernel
theorem dL_law_1767 : decode cL_law 1767 = .ok (.aload_n 1, 1) := by decide +kernel
theorem dL_law_1768 : decode cL_law 1768 = .ok (.aload_n 0, 1) := by decide +kernel
theorem dL_law_1769 : decode cL_law 1769 = .ok (.iload 4, 2) := by decide +kernel
theorem dL_law_1771 : decode cL_law 1771 = .ok (.iconst 1, 1) := by decide +kernel
theorem dL_law_1772 : decode cL_law 1772 = .ok (.iadd, 1) := by decide +kernel
theorem dL_law_1773 : decode cL_law 1773 = .ok (.iaload, 1) := by decide +kernel
theorem dL_law_1774 : decode cL_law 1774 = .ok (.aload_n 0, 1) := by decide +kernel
theorem dL_law_1775 : decode cL_law 1775 = .ok (.iload 4, 2) := by decide +kernel
theorem dL_law_1777 : decode cL_law 1777 = .ok (.iconst 2, 1) := by decide +kernel
theorem dL_law_1778 : decode cL_law 1778 = .ok (.iadd, 1) := by decide +kernel
theorem dL_law_1779 : decode cL_law 1779 = .ok (.iaload, 1) := by decide +kernel
theorem dL_law_1780 : decode cL_law 1780 = .ok (.aload_n 0, 1) := by decide +kernel
theorem dL_law_1781 : decode cL_law 1781 = .ok (.iload 4, 2) := by decide +kernel
theorem dL_law_1783 : decode cL_law 1783 = .ok (.iconst 3, 1) := by decide +kernel
theorem dL_law_1784 : decode cL_law 1784 = .ok (.iadd, 1) := by decide +kernel
theorem dL_law_1785 : decode cL_law 1785 = .ok (.iaload, 1) := by decide +kernel
theorem dL_law_1786 : decode cL_law 1786 = .ok (.aload_n 0, 1) := by decide +kernel
theorem dL_law_1787 : decode cL_law 1787 = .ok (.iload 4, 2) := by decide +kernel
theorem dL_law_1789 : decode cL_law 1789 = .ok (.iconst 4, 1) := by decide +kernel
theorem dL_law_1790 : decode cL_law 1790 = .ok (.iadd, 1) := by decide +kernel
theorem dL_law_1791 : decode cL_law 1791 = .ok (.iaload, 1) := by decide +kernel
theorem dL_law_1792 : decode cL_law 1792 = .ok (.ifCond .eq 7, 3) := by decide +kernel
theorem dL_law_1795 : decode cL_law 1795 = .ok (.iconst 1, 1) := by decide +kernel
theorem dL_law_1796 : decode cL_law 1796 = .ok (.goto 4, 3) := by decide +kernel
theorem dL_law_1799 : decode cL_law 1799 = .ok (.iconst 0, 1) := by decide +kernel
theorem dL_law_1800 : decode cL_law 1800 = .ok (.aload_n 3, 1) := by decide +kernel
theorem dL_law_1801 : decode cL_law 1801 = .ok (.invokestatic 215, 3) := by decide +kernel
theorem dL_law_1804 : decode cL_law 1804 = .ok (.istore 5, 2) := by decide +kernel
theorem dL_law_1806 : decode cL_law 1806 = .ok (.aload_n 2, 1) := by decide +kernel
theorem dL_law_1807 : decode cL_law 1807 = .ok (.aload_n 0, 1) := by decide +kernel
theorem dL_law_1808 : decode cL_law 1808 = .ok (.iload 4, 2) := by decide +kernel
theorem dL_law_1810 : decode cL_law 1810 = .ok (.iconst 1, 1) := by decide +kernel
theorem dL_law_1811 : decode cL_law 1811 = .ok (.iadd, 1) := by decide +kernel
theorem dL_law_1812 : decode cL_law 1812 = .ok (.iaload, 1) := by decide +kernel
theorem dL_law_1813 : decode cL_law 1813 = .ok (.aload_n 0, 1) := by decide +kernel
theorem dL_law_1814 : decode cL_law 1814 = .ok (.iload 4, 2) := by decide +kernel
theorem dL_law_1816 : decode cL_law 1816 = .ok (.iconst 2, 1) := by decide +kernel
theorem dL_law_1817 : decode cL_law 1817 = .ok (.iadd, 1) := by decide +kernel
theorem dL_law_1818 : decode cL_law 1818 = .ok (.iaload, 1) := by decide +kernel
theorem dL_law_1819 : decode cL_law 1819 = .ok (.aload_n 0, 1) := by decide +kernel
theorem dL_law_1820 : decode cL_law 1820 = .ok (.iload 4, 2) := by decide +kernel
theorem dL_law_1822 : decode cL_law 1822 = .ok (.iconst 3, 1) := by decide +kernel
theorem dL_law_1823 : decode cL_law 1823 = .ok (.iadd, 1) := by decide +kernel
theorem dL_law_1824 : decode cL_law 1824 = .ok (.iaload, 1) := by decide +kernel
theorem dL_law_1825 : decode cL_law 1825 = .ok (.aload_n 0, 1) := by decide +kernel
theorem dL_law_1826 : decode cL_law 1826 = .ok (.iload 4, 2) := by decide +kernel
theorem dL_law_1828 : decode cL_law 1828 = .ok (.iconst 4, 1) := by decide +kernel
theorem dL_law_1829 : decode cL_law 1829 = .ok (.iadd, 1) := by decide +kernel
theorem dL_law_1830 : decode cL_law 1830 = .ok (.iaload, 1) := by decide +kernel
theorem dL_law_1831 : decode cL_law 1831 = .ok (.ifCond .eq 7, 3) := by decide +kernel
theorem dL_law_1834 : decode cL_law 1834 = .ok (.iconst 1, 1) := by decide +kernel
theorem dL_law_1835 : decode cL_law 1835 = .ok (.goto 4, 3) := by decide +kernel
theorem dL_law_1838 : decode cL_law 1838 = .ok (.iconst 0, 1) := by decide +kernel
theorem dL_law_1839 : decode cL_law 1839 = .ok (.invokevirtual 218, 3) := by decide +kernel
theorem dL_law_1842 : decode cL_law 1842 = .ok (.istore 6, 2) := by decide +kernel
theorem dL_law_1844 : decode cL_law 1844 = .ok (.aload_n 2, 1) := by decide +kernel
theorem dL_law_1845 : decode cL_law 1845 = .ok (.invokevirtual 142, 3) := by decide +kernel
theorem dL_law_1848 : decode cL_law 1848 = .ok (.iload 5, 2) := by decide +kernel
theorem dL_law_1850 : decode cL_law 1850 = .ok (.if_icmp .eq 5, 3) := by decide +kernel
theorem dL_law_1853 : decode cL_law 1853 = .ok (.iconst 0, 1) := by decide +kernel
theorem dL_law_1854 : decode cL_law 1854 = .ok (.ireturn, 1) := by decide +kernel
theorem dL_law_1855 : decode cL_law 1855 = .ok (.iload 5, 2) := by decide +kernel
theorem dL_law_1857 : decode cL_law 1857 = .ok (.ifCond .ne 15, 3) := by decide +kernel
theorem dL_law_1860 : decode cL_law 1860 = .ok (.aload_n 3, 1) := by decide +kernel
theorem dL_law_1861 : decode cL_law 1861 = .ok (.iconst 0, 1) := by decide +kernel
theorem dL_law_1862 : decode cL_law 1862 = .ok (.laload, 1) := by decide +kernel
theorem dL_law_1863 : decode cL_law 1863 = .ok (.iload 6, 2) := by decide +kernel
theorem dL_law_1865 : decode cL_law 1865 = .ok (.i2l, 1) := by decide +kernel
theorem dL_law_1866 : decode cL_law 1866 = .ok (.lcmp, 1) := by decide +kernel
theorem dL_law_1867 : decode cL_law 1867 = .ok (.ifCond .eq 5, 3) := by decide +kernel
theorem dL_law_1870 : decode cL_law 1870 = .ok (.iconst 0, 1) := by decide +kernel
theorem dL_law_1871 : decode cL_law 1871 = .ok (.ireturn, 1) := by decide +kernel
theorem dL_law_1872 : decode cL_law 1872 = .ok (.goto 901, 3) := by decide +kernel
theorem dL_law_1875 : decode cL_law 1875 = .ok (.aload_n 1, 1) := by decide +kernel
theorem dL_law_1876 : decode cL_law 1876 = .ok (.aload_n 0, 1) := by decide +kernel
theorem dL_law_1877 : decode cL_law 1877 = .ok (.iload 4, 2) := by decide +kernel
theorem dL_law_1879 : decode cL_law 1879 = .ok (.iconst 1, 1) := by decide +kernel
theorem dL_law_1880 : decode cL_law 1880 = .ok (.iadd, 1) := by decide +kernel
theorem dL_law_1881 : decode cL_law 1881 = .ok (.iaload, 1) := by decide +kernel
theorem dL_law_1882 : decode cL_law 1882 = .ok (.aload_n 3, 1) := by decide +kernel
theorem dL_law_1883 : decode cL_law 1883 = .ok (.invokestatic 219, 3) := by decide +kernel
theorem dL_law_1886 : decode cL_law 1886 = .ok (.istore 5, 2) := by decide +kernel
theorem dL_law_1888 : decode cL_law 1888 = .ok (.aload_n 2, 1) := by decide +kernel
theorem dL_law_1889 : decode cL_law 1889 = .ok (.aload_n 0, 1) := by decide +kernel
theorem dL_law_1890 : decode cL_law 1890 = .ok (.iload 4, 2) := by decide +kernel
theorem dL_law_1892 : decode cL_law 1892 = .ok (.iconst 1, 1) := by decide +kernel
theorem dL_law_1893 : decode cL_law 1893 = .ok (.iadd, 1) := by decide +kernel
theorem dL_law_1894 : decode cL_law 1894 = .ok (.iaload, 1) := by decide +kernel
theorem dL_law_1895 : decode cL_law 1895 = .ok (.invokevirtual 221, 3) := by decide +kernel
theorem dL_law_1898 : decode cL_law 1898 = .ok (.istore 6, 2) := by decide +kernel
theorem dL_law_1900 : decode cL_law 1900 = .ok (.aload_n 2, 1) := by decide +kernel
theorem dL_law_1901 : decode cL_law 1901 = .ok (.invokevirtual 142, 3) := by decide +kernel
theorem dL_law_1904 : decode cL_law 1904 = .ok (.iload 5, 2) := by decide +kernel
theorem dL_law_1906 : decode cL_law 1906 = .ok (.if_icmp .eq 5, 3) := by decide +kernel
theorem dL_law_1909 : decode cL_law 1909 = .ok (.iconst 0, 1) := by decide +kernel
theorem dL_law_1910 : decode cL_law 1910 = .ok (.ireturn, 1) := by decide +kernel
theorem dL_law_1911 : decode cL_law 1911 = .ok (.iload 5, 2) := by decide +kernel
theorem dL_law_1913 : decode cL_law 1913 = .ok (.ifCond .ne 15, 3) := by decide +kernel
theorem dL_law_1916 : decode cL_law 1916 = .ok (.aload_n 3, 1) := by decide +kernel
theorem dL_law_1917 : decode cL_law 1917 = .ok (.iconst 0, 1) := by decide +kernel
theorem dL_law_1918 : decode cL_law 1918 = .ok (.laload, 1) := by decide +kernel
theorem dL_law_1919 : decode cL_law 1919 = .ok (.iload 6, 2) := by decide +kernel
theorem dL_law_1921 : decode cL_law 1921 = .ok (.i2l, 1) := by decide +kernel
theorem dL_law_1922 : decode cL_law 1922 = .ok (.lcmp, 1) := by decide +kernel
theorem dL_law_1923 : decode cL_law 1923 = .ok (.ifCond .eq 5, 3) := by decide +kernel
theorem dL_law_1926 : decode cL_law 1926 = .ok (.iconst 0, 1) := by decide +kernel
theorem dL_law_1927 : decode cL_law 1927 = .ok (.ireturn, 1) := by decide +kernel
theorem dL_law_1928 : decode cL_law 1928 = .ok (.goto 845, 3) := by decide +kernel
theorem dL_law_1931 : decode cL_law 1931 = .ok (.aload_n 1, 1) := by decide +kernel
theorem dL_law_1932 : decode cL_law 1932 = .ok (.aload_n 0, 1) := by decide +kernel
theorem dL_law_1933 : decode cL_law 1933 = .ok (.iload 4, 2) := by decide +kernel
theorem dL_law_1935 : decode cL_law 1935 = .ok (.iconst 1, 1) := by decide +kernel
theorem dL_law_1936 : decode cL_law 1936 = .ok (.iadd, 1) := by decide +kernel
theorem dL_law_1937 : decode cL_law 1937 = .ok (.iaload, 1) := by decide +kernel
theorem dL_law_1938 : decode cL_law 1938 = .ok (.aload_n 0, 1) := by decide +kernel
theorem dL_law_1939 : decode cL_law 1939 = .ok (.iload 4, 2) := by decide +kernel
theorem dL_law_1941 : decode cL_law 1941 = .ok (.iconst 2, 1) := by decide +kernel
theorem dL_law_1942 : decode cL_law 1942 = .ok (.iadd, 1) := by decide +kernel
theorem dL_law_1943 : decode cL_law 1943 = .ok (.iaload, 1) := by decide +kernel
theorem dL_law_1944 : decode cL_law 1944 = .ok (.ifCond .eq 7, 3) := by decide +kernel
theorem dL_law_1947 : decode cL_law 1947 = .ok (.iconst 1, 1) := by decide +kernel
theorem dL_law_1948 : decode cL_law 1948 = .ok (.goto 4, 3) := by decide +kernel
theorem dL_law_1951 : decode cL_law 1951 = .ok (.iconst 0, 1) := by decide +kernel
theorem dL_law_1952 : decode cL_law 1952 = .ok (.aload_n 3, 1) := by decide +kernel
theorem dL_law_1953 : decode cL_law 1953 = .ok (.invokestatic 222, 3) := by decide +kernel
theorem dL_law_1956 : decode cL_law 1956 = .ok (.istore 5, 2) := by decide +kernel
theorem dL_law_1958 : decode cL_law 1958 = .ok (.aload_n 2, 1) := by decide +kernel
theorem dL_law_1959 : decode cL_law 1959 = .ok (.aload_n 0, 1) := by decide +kernel
theorem dL_law_1960 : decode cL_law 1960 = .ok (.iload 4, 2) := by decide +kernel
theorem dL_law_1962 : decode cL_law 1962 = .ok (.iconst 1, 1) := by decide +kernel
theorem dL_law_1963 : decode cL_law 1963 = .ok (.iadd, 1) := by decide +kernel
theorem dL_law_1964 : decode cL_law 1964 = .ok (.iaload, 1) := by decide +kernel
theorem dL_law_1965 : decode cL_law 1965 = .ok (.aload_n 0, 1) := by decide +kernel
theorem dL_law_1966 : decode cL_law 1966 = .ok (.iload 4, 2) := by decide +kernel
theorem dL_law_1968 : decode cL_law 1968 = .ok (.iconst 2, 1) := by decide +kernel
theorem dL_law_1969 : decode cL_law 1969 = .ok (.iadd, 1) := by decide +kernel
theorem dL_law_1970 : decode cL_law 1970 = .ok (.iaload, 1) := by decide +kernel
theorem dL_law_1971 : decode cL_law 1971 = .ok (.ifCond .eq 7, 3) := by decide +kernel
theorem dL_law_1974 : decode cL_law 1974 = .ok (.iconst 1, 1) := by decide +kernel
theorem dL_law_1975 : decode cL_law 1975 = .ok (.goto 4, 3) := by decide +kernel
theorem dL_law_1978 : decode cL_law 1978 = .ok (.iconst 0, 1) := by decide +kernel
theorem dL_law_1979 : decode cL_law 1979 = .ok (.invokevirtual 224, 3) := by decide +kernel
theorem dL_law_1982 : decode cL_law 1982 = .ok (.istore 6, 2) := by decide +kernel
theorem dL_law_1984 : decode cL_law 1984 = .ok (.aload_n 2, 1) := by decide +kernel
theorem dL_law_1985 : decode cL_law 1985 = .ok (.invokevirtual 142, 3) := by decide +kernel
theorem dL_law_1988 : decode cL_law 1988 = .ok (.iload 5, 2) := by decide +kernel
theorem dL_law_1990 : decode cL_law 1990 = .ok (.if_icmp .eq 5, 3) := by decide +kernel
theorem dL_law_1993 : decode cL_law 1993 = .ok (.iconst 0, 1) := by decide +kernel
theorem dL_law_1994 : decode cL_law 1994 = .ok (.ireturn, 1) := by decide +kernel
theorem dL_law_1995 : decode cL_law 1995 = .ok (.iload 5, 2) := by decide +kernel
theorem dL_law_1997 : decode cL_law 1997 = .ok (.ifCond .ne 22, 3) := by decide +kernel
theorem dL_law_2000 : decode cL_law 2000 = .ok (.aload_n 3, 1) := by decide +kernel
theorem dL_law_2001 : decode cL_law 2001 = .ok (.iconst 0, 1) := by decide +kernel
theorem dL_law_2002 : decode cL_law 2002 = .ok (.laload, 1) := by decide +kernel
theorem dL_law_2003 : decode cL_law 2003 = .ok (.iload 6, 2) := by decide +kernel
theorem dL_law_2005 : decode cL_law 2005 = .ok (.ifCond .eq 7, 3) := by decide +kernel
theorem dL_law_2008 : decode cL_law 2008 = .ok (.lconst 1, 1) := by decide +kernel
theorem dL_law_2009 : decode cL_law 2009 = .ok (.goto 4, 3) := by decide +kernel
theorem dL_law_2012 : decode cL_law 2012 = .ok (.lconst 0, 1) := by decide +kernel
theorem dL_law_2013 : decode cL_law 2013 = .ok (.lcmp, 1) := by decide +kernel
theorem dL_law_2014 : decode cL_law 2014 = .ok (.ifCond .eq 5, 3) := by decide +kernel
theorem dL_law_2017 : decode cL_law 2017 = .ok (.iconst 0, 1) := by decide +kernel
theorem dL_law_2018 : decode cL_law 2018 = .ok (.ireturn, 1) := by decide +kernel
theorem dL_law_2019 : decode cL_law 2019 = .ok (.goto 754, 3) := by decide +kernel
theorem dL_law_2022 : decode cL_law 2022 = .ok (.aload_n 1, 1) := by decide +kernel
theorem dL_law_2023 : decode cL_law 2023 = .ok (.aload_n 0, 1) := by decide +kernel
theorem dL_law_2024 : decode cL_law 2024 = .ok (.iload 4, 2) := by decide +kernel
theorem dL_law_2026 : decode cL_law 2026 = .ok (.iconst 1, 1) := by decide +kernel
theorem dL_law_2027 : decode cL_law 2027 = .ok (.iadd, 1) := by decide +kernel
theorem dL_law_2028 : decode cL_law 2028 = .ok (.iaload, 1) := by decide +kernel
theorem dL_law_2029 : decode cL_law 2029 = .ok (.aload_n 0, 1) := by decide +kernel
theorem dL_law_2030 : decode cL_law 2030 = .ok (.iload 4, 2) := by decide +kernel
theorem dL_law_2032 : decode cL_law 2032 = .ok (.iconst 2, 1) := by decide +kernel
theorem dL_law_2033 : decode cL_law 2033 = .ok (.iadd, 1) := by decide +kernel
theorem dL_law_2034 : decode cL_law 2034 = .ok (.iaload, 1) := by decide +kernel
theorem dL_law_2035 : decode cL_law 2035 = .ok (.ifCond .eq 7, 3) := by decide +kernel
theorem dL_law_2038 : decode cL_law 2038 = .ok (.iconst 1, 1) := by decide +kernel
theorem dL_law_2039 : decode cL_law 2039 = .ok (.goto 4, 3) := by decide +kernel
theorem dL_law_2042 : decode cL_law 2042 = .ok (.iconst 0, 1) := by decide +kernel
theorem dL_law_2043 : decode cL_law 2043 = .ok (.aload_n 3, 1) := by decide +kernel
theorem dL_law_2044 : decode cL_law 2044 = .ok (.invokestatic 225, 3) := by decide +kernel
theorem dL_law_2047 : decode cL_law 2047 = .ok (.istore 5, 2) := by decide +kernel
theorem dL_law_2049 : decode cL_law 2049 = .ok (.aload_n 2, 1) := by decide +kernel
theorem dL_law_2050 : decode cL_law 2050 = .ok (.aload_n 0, 1) := by decide +kernel
theorem dL_law_2051 : decode cL_law 2051 = .ok (.iload 4, 2) := by decide +kernel
theorem dL_law_2053 : decode cL_law 2053 = .ok (.iconst 1, 1) := by decide +kernel
theorem dL_law_2054 : decode cL_law 2054 = .ok (.iadd, 1) := by decide +kernel
theorem dL_law_2055 : decode cL_law 2055 = .ok (.iaload, 1) := by decide +kernel
theorem dL_law_2056 : decode cL_law 2056 = .ok (.aload_n 0, 1) := by decide +kernel
theorem dL_law_2057 : decode cL_law 2057 = .ok (.iload 4, 2) := by decide +kernel
theorem dL_law_2059 : decode cL_law 2059 = .ok (.iconst 2, 1) := by decide +kernel
theorem dL_law_2060 : decode cL_law 2060 = .ok (.iadd, 1) := by decide +kernel
theorem dL_law_2061 : decode cL_law 2061 = .ok (.iaload, 1) := by decide +kernel
theorem dL_law_2062 : decode cL_law 2062 = .ok (.ifCond .eq 7, 3) := by decide +kernel
theorem dL_law_2065 : decode cL_law 2065 = .ok (.iconst 1, 1) := by decide +kernel
theorem dL_law_2066 : decode cL_law 2066 = .ok (.goto 4, 3) := by decide +kernel
theorem dL_law_2069 : decode cL_law 2069 = .ok (.iconst 0, 1) := by decide +kernel
theorem dL_law_2070 : decode cL_law 2070 = .ok (.invokevirtual 227, 3) := by decide +kernel
theorem dL_law_2073 : decode cL_law 2073 = .ok (.istore 6, 2) := by decide +kernel
theorem dL_law_2075 : decode cL_law 2075 = .ok (.aload_n 2, 1) := by decide +kernel
theorem dL_law_2076 : decode cL_law 2076 = .ok (.invokevirtual 142, 3) := by decide +kernel
theorem dL_law_2079 : decode cL_law 2079 = .ok (.iload 5, 2) := by decide +kernel
theorem dL_law_2081 : decode cL_law 2081 = .ok (.if_icmp .eq 5, 3) := by decide +kernel
theorem dL_law_2084 : decode cL_law 2084 = .ok (.iconst 0, 1) := by decide +kernel
theorem dL_law_2085 : decode cL_law 2085 = .ok (.ireturn, 1) := by decide +kernel
theorem dL_law_2086 : decode cL_law 2086 = .ok (.iload 5, 2) := by decide +kernel
theorem dL_law_2088 : decode cL_law 2088 = .ok (.ifCond .ne 15, 3) := by decide +kernel
theorem dL_law_2091 : decode cL_law 2091 = .ok (.aload_n 3, 1) := by decide +kernel
theorem dL_law_2092 : decode cL_law 2092 = .ok (.iconst 0, 1) := by decide +kernel
theorem dL_law_2093 : decode cL_law 2093 = .ok (.laload, 1) := by decide +kernel
theorem dL_law_2094 : decode cL_law 2094 = .ok (.iload 6, 2) := by decide +kernel
theorem dL_law_2096 : decode cL_law 2096 = .ok (.i2l, 1) := by decide +kernel
theorem dL_law_2097 : decode cL_law 2097 = .ok (.lcmp, 1) := by decide +kernel
theorem dL_law_2098 : decode cL_law 2098 = .ok (.ifCond .eq 5, 3) := by decide +kernel
theorem dL_law_2101 : decode cL_law 2101 = .ok (.iconst 0, 1) := by decide +kernel
theorem dL_law_2102 : decode cL_law 2102 = .ok (.ireturn, 1) := by decide +kernel
theorem dL_law_2103 : decode cL_law 2103 = .ok (.goto 670, 3) := by decide +kernel
theorem dL_law_2106 : decode cL_law 2106 = .ok (.aload_n 1, 1) := by decide +kernel
theorem dL_law_2107 : decode cL_law 2107 = .ok (.invokevirtual 228, 3) := by decide +kernel
theorem dL_law_2110 : decode cL_law 2110 = .ok (.aload_n 2, 1) := by decide +kernel
theorem dL_law_2111 : decode cL_law 2111 = .ok (.invokevirtual 231, 3) := by decide +kernel
theorem dL_law_2114 : decode cL_law 2114 = .ok (.if_icmp .eq 659, 3) := by decide +kernel
theorem dL_law_2117 : decode cL_law 2117 = .ok (.iconst 0, 1) := by decide +kernel
theorem dL_law_2118 : decode cL_law 2118 = .ok (.ireturn, 1) := by decide +kernel
theorem dL_law_2119 : decode cL_law 2119 = .ok (.aload_n 1, 1) := by decide +kernel
theorem dL_law_2120 : decode cL_law 2120 = .ok (.aload_n 0, 1) := by decide +kernel
theorem dL_law_2121 : decode cL_law 2121 = .ok (.iload 4, 2) := by decide +kernel
theorem dL_law_2123 : decode cL_law 2123 = .ok (.iconst 1, 1) := by decide +kernel
theorem dL_law_2124 : decode cL_law 2124 = .ok (.iadd, 1) := by decide +kernel
theorem dL_law_2125 : decode cL_law 2125 = .ok (.iaload, 1) := by decide +kernel
theorem dL_law_2126 : decode cL_law 2126 = .ok (.aload_n 0, 1) := by decide +kernel
theorem dL_law_2127 : decode cL_law 2127 = .ok (.iload 4, 2) := by decide +kernel
theorem dL_law_2129 : decode cL_law 2129 = .ok (.iconst 2, 1) := by decide +kernel
theorem dL_law_2130 : decode cL_law 2130 = .ok (.iadd, 1) := by decide +kernel
theorem dL_law_2131 : decode cL_law 2131 = .ok (.iaload, 1) := by decide +kernel
theorem dL_law_2132 : decode cL_law 2132 = .ok (.aload_n 3, 1) := by decide +kernel
theorem dL_law_2133 : decode cL_law 2133 = .ok (.invokestatic 232, 3) := by decide +kernel
theorem dL_law_2136 : decode cL_law 2136 = .ok (.istore 5, 2) := by decide +kernel
theorem dL_law_2138 : decode cL_law 2138 = .ok (.aload_n 2, 1) := by decide +kernel
theorem dL_law_2139 : decode cL_law 2139 = .ok (.aload_n 0, 1) := by decide +kernel
theorem dL_law_2140 : decode cL_law 2140 = .ok (.iload 4, 2) := by decide +kernel
theorem dL_law_2142 : decode cL_law 2142 = .ok (.iconst 1, 1) := by decide +kernel
theorem dL_law_2143 : decode cL_law 2143 = .ok (.iadd, 1) := by decide +kernel
theorem dL_law_2144 : decode cL_law 2144 = .ok (.iaload, 1) := by decide +kernel
theorem dL_law_2145 : decode cL_law 2145 = .ok (.aload_n 0, 1) := by decide +kernel
theorem dL_law_2146 : decode cL_law 2146 = .ok (.iload 4, 2) := by decide +kernel
theorem dL_law_2148 : decode cL_law 2148 = .ok (.iconst 2, 1) := by decide +kernel
theorem dL_law_2149 : decode cL_law 2149 = .ok (.iadd, 1) := by decide +kernel
theorem dL_law_2150 : decode cL_law 2150 = .ok (.iaload, 1) := by decide +kernel
theorem dL_law_2151 : decode cL_law 2151 = .ok (.invokevirtual 234, 3) := by decide +kernel
theorem dL_law_2154 : decode cL_law 2154 = .ok (.istore 6, 2) := by decide +kernel
theorem dL_law_2156 : decode cL_law 2156 = .ok (.aload_n 2, 1) := by decide +kernel
theorem dL_law_2157 : decode cL_law 2157 = .ok (.invokevirtual 142, 3) := by decide +kernel
theorem dL_law_2160 : decode cL_law 2160 = .ok (.iload 5, 2) := by decide +kernel
theorem dL_law_2162 : decode cL_law 2162 = .ok (.if_icmp .eq 5, 3) := by decide +kernel
theorem dL_law_2165 : decode cL_law 2165 = .ok (.iconst 0, 1) := by decide +kernel
theorem dL_law_2166 : decode cL_law 2166 = .ok (.ireturn, 1) := by decide +kernel
theorem dL_law_2167 : decode cL_law 2167 = .ok (.iload 5, 2) := by decide +kernel
theorem dL_law_2169 : decode cL_law 2169 = .ok (.ifCond .ne 15, 3) := by decide +kernel
theorem dL_law_2172 : decode cL_law 2172 = .ok (.aload_n 3, 1) := by decide +kernel
theorem dL_law_2173 : decode cL_law 2173 = .ok (.iconst 0, 1) := by decide +kernel
theorem dL_law_2174 : decode cL_law 2174 = .ok (.laload, 1) := by decide +kernel
theorem dL_law_2175 : decode cL_law 2175 = .ok (.iload 6, 2) := by decide +kernel
theorem dL_law_2177 : decode cL_law 2177 = .ok (.i2l, 1) := by decide +kernel
theorem dL_law_2178 : decode cL_law 2178 = .ok (.lcmp, 1) := by decide +kernel
theorem dL_law_2179 : decode cL_law 2179 = .ok (.ifCond .eq 5, 3) := by decide +kernel
theorem dL_law_2182 : decode cL_law 2182 = .ok (.iconst 0, 1) := by decide +kernel
theorem dL_law_2183 : decode cL_law 2183 = .ok (.ireturn, 1) := by decide +kernel
theorem dL_law_2184 : decode cL_law 2184 = .ok (.goto 589, 3) := by decide +kernel
theorem dL_law_2187 : decode cL_law 2187 = .ok (.aload_n 1, 1) := by decide +kernel
theorem dL_law_2188 : decode cL_law 2188 = .ok (.aload_n 0, 1) := by decide +kernel
theorem dL_law_2189 : decode cL_law 2189 = .ok (.iload 4, 2) := by decide +kernel
theorem dL_law_2191 : decode cL_law 2191 = .ok (.iconst 1, 1) := by decide +kernel
theorem dL_law_2192 : decode cL_law 2192 = .ok (.iadd, 1) := by decide +kernel
theorem dL_law_2193 : decode cL_law 2193 = .ok (.iaload, 1) := by decide +kernel
theorem dL_law_2194 : decode cL_law 2194 = .ok (.aload_n 0, 1) := by decide +kernel
theorem dL_law_2195 : decode cL_law 2195 = .ok (.iload 4, 2) := by decide +kernel
theorem dL_law_2197 : decode cL_law 2197 = .ok (.iconst 2, 1) := by decide +kernel
theorem dL_law_2198 : decode cL_law 2198 = .ok (.iadd, 1) := by decide +kernel
theorem dL_law_2199 : decode cL_law 2199 = .ok (.iaload, 1) := by decide +kernel
theorem dL_law_2200 : decode cL_law 2200 = .ok (.aload_n 0, 1) := by decide +kernel
theorem dL_law_2201 : decode cL_law 2201 = .ok (.iload 4, 2) := by decide +kernel
theorem dL_law_2203 : decode cL_law 2203 = .ok (.iconst 3, 1) := by decide +kernel
theorem dL_law_2204 : decode cL_law 2204 = .ok (.iadd, 1) := by decide +kernel
theorem dL_law_2205 : decode cL_law 2205 = .ok (.iaload, 1) := by decide +kernel
theorem dL_law_2206 : decode cL_law 2206 = .ok (.aload_n 3, 1) := by decide +kernel
theorem dL_law_2207 : decode cL_law 2207 = .ok (.invokestatic 235, 3) := by decide +kernel
theorem dL_law_2210 : decode cL_law 2210 = .ok (.istore 5, 2) := by decide +kernel
theorem dL_law_2212 : decode cL_law 2212 = .ok (.aload_n 2, 1) := by decide +kernel
theorem dL_law_2213 : decode cL_law 2213 = .ok (.aload_n 0, 1) := by decide +kernel
theorem dL_law_2214 : decode cL_law 2214 = .ok (.iload 4, 2) := by decide +kernel
theorem dL_law_2216 : decode cL_law 2216 = .ok (.iconst 1, 1) := by decide +kernel
theorem dL_law_2217 : decode cL_law 2217 = .ok (.iadd, 1) := by decide +kernel
theorem dL_law_2218 : decode cL_law 2218 = .ok (.iaload, 1) := by decide +kernel
theorem dL_law_2219 : decode cL_law 2219 = .ok (.aload_n 0, 1) := by decide +kernel
theorem dL_law_2220 : decode cL_law 2220 = .ok (.iload 4, 2) := by decide +kernel
theorem dL_law_2222 : decode cL_law 2222 = .ok (.iconst 2, 1) := by decide +kernel
theorem dL_law_2223 : decode cL_law 2223 = .ok (.iadd, 1) := by decide +kernel
theorem dL_law_2224 : decode cL_law 2224 = .ok (.iaload, 1) := by decide +kernel
theorem dL_law_2225 : decode cL_law 2225 = .ok (.aload_n 0, 1) := by decide +kernel
theorem dL_law_2226 : decode cL_law 2226 = .ok (.iload 4, 2) := by decide +kernel
theorem dL_law_2228 : decode cL_law 2228 = .ok (.iconst 3, 1) := by decide +kernel
theorem dL_law_2229 : decode cL_law 2229 = .ok (.iadd, 1) := by decide +kernel
theorem dL_law_2230 : decode cL_law 2230 = .ok (.iaload, 1) := by decide +kernel
theorem dL_law_2231 : decode cL_law 2231 = .ok (.invokevirtual 237, 3) := by decide +kernel
theorem dL_law_2234 : decode cL_law 2234 = .ok (.istore 6, 2) := by decide +kernel
theorem dL_law_2236 : decode cL_law 2236 = .ok (.aload_n 2, 1) := by decide +kernel
theorem dL_law_2237 : decode cL_law 2237 = .ok (.invokevirtual 142, 3) := by decide +kernel
theorem dL_law_2240 : decode cL_law 2240 = .ok (.iload 5, 2) := by decide +kernel
theorem dL_law_2242 : decode cL_law 2242 = .ok (.if_icmp .eq 5, 3) := by decide +kernel
theorem dL_law_2245 : decode cL_law 2245 = .ok (.iconst 0, 1) := by decide +kernel
theorem dL_law_2246 : decode cL_law 2246 = .ok (.ireturn, 1) := by decide +kernel
theorem dL_law_2247 : decode cL_law 2247 = .ok (.iload 5, 2) := by decide +kernel
theorem dL_law_2249 : decode cL_law 2249 = .ok (.ifCond .ne 15, 3) := by decide +kernel
theorem dL_law_2252 : decode cL_law 2252 = .ok (.aload_n 3, 1) := by decide +kernel
theorem dL_law_2253 : decode cL_law 2253 = .ok (.iconst 0, 1) := by decide +kernel
theorem dL_law_2254 : decode cL_law 2254 = .ok (.laload, 1) := by decide +kernel
theorem dL_law_2255 : decode cL_law 2255 = .ok (.iload 6, 2) := by decide +kernel
theorem dL_law_2257 : decode cL_law 2257 = .ok (.i2l, 1) := by decide +kernel
theorem dL_law_2258 : decode cL_law 2258 = .ok (.lcmp, 1) := by decide +kernel
theorem dL_law_2259 : decode cL_law 2259 = .ok (.ifCond .eq 5, 3) := by decide +kernel
theorem dL_law_2262 : decode cL_law 2262 = .ok (.iconst 0, 1) := by decide +kernel
theorem dL_law_2263 : decode cL_law 2263 = .ok (.ireturn, 1) := by decide +kernel
theorem dL_law_2264 : decode cL_law 2264 = .ok (.goto 509, 3) := by decide +kernel
theorem dL_law_2267 : decode cL_law 2267 = .ok (.aload_n 1, 1) := by decide +kernel
theorem dL_law_2268 : decode cL_law 2268 = .ok (.aload_n 0, 1) := by decide +kernel
theorem dL_law_2269 : decode cL_law 2269 = .ok (.iload 4, 2) := by decide +kernel
theorem dL_law_2271 : decode cL_law 2271 = .ok (.iconst 1, 1) := by decide +kernel
theorem dL_law_2272 : decode cL_law 2272 = .ok (.iadd, 1) := by decide +kernel
theorem dL_law_2273 : decode cL_law 2273 = .ok (.iaload, 1) := by decide +kernel
theorem dL_law_2274 : decode cL_law 2274 = .ok (.aload_n 0, 1) := by decide +kernel
theorem dL_law_2275 : decode cL_law 2275 = .ok (.iload 4, 2) := by decide +kernel
theorem dL_law_2277 : decode cL_law 2277 = .ok (.iconst 2, 1) := by decide +kernel
theorem dL_law_2278 : decode cL_law 2278 = .ok (.iadd, 1) := by decide +kernel
theorem dL_law_2279 : decode cL_law 2279 = .ok (.iaload, 1) := by decide +kernel
theorem dL_law_2280 : decode cL_law 2280 = .ok (.aload_n 3, 1) := by decide +kernel
theorem dL_law_2281 : decode cL_law 2281 = .ok (.invokestatic 238, 3) := by decide +kernel
theorem dL_law_2284 : decode cL_law 2284 = .ok (.istore 5, 2) := by decide +kernel
theorem dL_law_2286 : decode cL_law 2286 = .ok (.aload_n 2, 1) := by decide +kernel
theorem dL_law_2287 : decode cL_law 2287 = .ok (.aload_n 0, 1) := by decide +kernel
theorem dL_law_2288 : decode cL_law 2288 = .ok (.iload 4, 2) := by decide +kernel
theorem dL_law_2290 : decode cL_law 2290 = .ok (.iconst 1, 1) := by decide +kernel
theorem dL_law_2291 : decode cL_law 2291 = .ok (.iadd, 1) := by decide +kernel
theorem dL_law_2292 : decode cL_law 2292 = .ok (.iaload, 1) := by decide +kernel
theorem dL_law_2293 : decode cL_law 2293 = .ok (.aload_n 0, 1) := by decide +kernel
theorem dL_law_2294 : decode cL_law 2294 = .ok (.iload 4, 2) := by decide +kernel
theorem dL_law_2296 : decode cL_law 2296 = .ok (.iconst 2, 1) := by decide +kernel
theorem dL_law_2297 : decode cL_law 2297 = .ok (.iadd, 1) := by decide +kernel
theorem dL_law_2298 : decode cL_law 2298 = .ok (.iaload, 1) := by decide +kernel
theorem dL_law_2299 : decode cL_law 2299 = .ok (.invokevirtual 240, 3) := by decide +kernel
theorem dL_law_2302 : decode cL_law 2302 = .ok (.istore 6, 2) := by decide +kernel
theorem dL_law_2304 : decode cL_law 2304 = .ok (.aload_n 2, 1) := by decide +kernel
theorem dL_law_2305 : decode cL_law 2305 = .ok (.invokevirtual 142, 3) := by decide +kernel
theorem dL_law_2308 : decode cL_law 2308 = .ok (.iload 5, 2) := by decide +kernel
theorem dL_law_2310 : decode cL_law 2310 = .ok (.if_icmp .eq 5, 3) := by decide +kernel
theorem dL_law_2313 : decode cL_law 2313 = .ok (.iconst 0, 1) := by decide +kernel
theorem dL_law_2314 : decode cL_law 2314 = .ok (.ireturn, 1) := by decide +kernel
theorem dL_law_2315 : decode cL_law 2315 = .ok (.iload 5, 2) := by decide +kernel
theorem dL_law_2317 : decode cL_law 2317 = .ok (.ifCond .ne 15, 3) := by decide +kernel
theorem dL_law_2320 : decode cL_law 2320 = .ok (.aload_n 3, 1) := by decide +kernel
theorem dL_law_2321 : decode cL_law 2321 = .ok (.iconst 0, 1) := by decide +kernel
theorem dL_law_2322 : decode cL_law 2322 = .ok (.laload, 1) := by decide +kernel
theorem dL_law_2323 : decode cL_law 2323 = .ok (.iload 6, 2) := by decide +kernel
theorem dL_law_2325 : decode cL_law 2325 = .ok (.i2l, 1) := by decide +kernel
theorem dL_law_2326 : decode cL_law 2326 = .ok (.lcmp, 1) := by decide +kernel
theorem dL_law_2327 : decode cL_law 2327 = .ok (.ifCond .eq 5, 3) := by decide +kernel
theorem dL_law_2330 : decode cL_law 2330 = .ok (.iconst 0, 1) := by decide +kernel
theorem dL_law_2331 : decode cL_law 2331 = .ok (.ireturn, 1) := by decide +kernel
theorem dL_law_2332 : decode cL_law 2332 = .ok (.goto 441, 3) := by decide +kernel
theorem dL_law_2335 : decode cL_law 2335 = .ok (.aload_n 1, 1) := by decide +kernel
theorem dL_law_2336 : decode cL_law 2336 = .ok (.aload_n 0, 1) := by decide +kernel
theorem dL_law_2337 : decode cL_law 2337 = .ok (.iload 4, 2) := by decide +kernel
theorem dL_law_2339 : decode cL_law 2339 = .ok (.iconst 1, 1) := by decide +kernel
theorem dL_law_2340 : decode cL_law 2340 = .ok (.iadd, 1) := by decide +kernel
theorem dL_law_2341 : decode cL_law 2341 = .ok (.iaload, 1) := by decide +kernel
theorem dL_law_2342 : decode cL_law 2342 = .ok (.aload_n 0, 1) := by decide +kernel
theorem dL_law_2343 : decode cL_law 2343 = .ok (.iload 4, 2) := by decide +kernel
theorem dL_law_2345 : decode cL_law 2345 = .ok (.iconst 2, 1) := by decide +kernel
theorem dL_law_2346 : decode cL_law 2346 = .ok (.iadd, 1) := by decide +kernel
theorem dL_law_2347 : decode cL_law 2347 = .ok (.iaload, 1) := by decide +kernel
theorem dL_law_2348 : decode cL_law 2348 = .ok (.aload_n 0, 1) := by decide +kernel
theorem dL_law_2349 : decode cL_law 2349 = .ok (.iload 4, 2) := by decide +kernel
theorem dL_law_2351 : decode cL_law 2351 = .ok (.iconst 3, 1) := by decide +kernel
theorem dL_law_2352 : decode cL_law 2352 = .ok (.iadd, 1) := by decide +kernel
theorem dL_law_2353 : decode cL_law 2353 = .ok (.iaload, 1) := by decide +kernel
theorem dL_law_2354 : decode cL_law 2354 = .ok (.aload_n 3, 1) := by decide +kernel
theorem dL_law_2355 : decode cL_law 2355 = .ok (.invokestatic 241, 3) := by decide +kernel
theorem dL_law_2358 : decode cL_law 2358 = .ok (.istore 5, 2) := by decide +kernel
theorem dL_law_2360 : decode cL_law 2360 = .ok (.aload_n 2, 1) := by decide +kernel
theorem dL_law_2361 : decode cL_law 2361 = .ok (.aload_n 0, 1) := by decide +kernel
theorem dL_law_2362 : decode cL_law 2362 = .ok (.iload 4, 2) := by decide +kernel
theorem dL_law_2364 : decode cL_law 2364 = .ok (.iconst 1, 1) := by decide +kernel
theorem dL_law_2365 : decode cL_law 2365 = .ok (.iadd, 1) := by decide +kernel
theorem dL_law_2366 : decode cL_law 2366 = .ok (.iaload, 1) := by decide +kernel
theorem dL_law_2367 : decode cL_law 2367 = .ok (.aload_n 0, 1) := by decide +kernel
theorem dL_law_2368 : decode cL_law 2368 = .ok (.iload 4, 2) := by decide +kernel
theorem dL_law_2370 : decode cL_law 2370 = .ok (.iconst 2, 1) := by decide +kernel
theorem dL_law_2371 : decode cL_law 2371 = .ok (.iadd, 1) := by decide +kernel
theorem dL_law_2372 : decode cL_law 2372 = .ok (.iaload, 1) := by decide +kernel
theorem dL_law_2373 : decode cL_law 2373 = .ok (.aload_n 0, 1) := by decide +kernel
theorem dL_law_2374 : decode cL_law 2374 = .ok (.iload 4, 2) := by decide +kernel
theorem dL_law_2376 : decode cL_law 2376 = .ok (.iconst 3, 1) := by decide +kernel
theorem dL_law_2377 : decode cL_law 2377 = .ok (.iadd, 1) := by decide +kernel
theorem dL_law_2378 : decode cL_law 2378 = .ok (.iaload, 1) := by decide +kernel
theorem dL_law_2379 : decode cL_law 2379 = .ok (.invokevirtual 243, 3) := by decide +kernel
theorem dL_law_2382 : decode cL_law 2382 = .ok (.istore 6, 2) := by decide +kernel
theorem dL_law_2384 : decode cL_law 2384 = .ok (.aload_n 2, 1) := by decide +kernel
theorem dL_law_2385 : decode cL_law 2385 = .ok (.invokevirtual 142, 3) := by decide +kernel
theorem dL_law_2388 : decode cL_law 2388 = .ok (.iload 5, 2) := by decide +kernel
theorem dL_law_2390 : decode cL_law 2390 = .ok (.if_icmp .eq 5, 3) := by decide +kernel
theorem dL_law_2393 : decode cL_law 2393 = .ok (.iconst 0, 1) := by decide +kernel
theorem dL_law_2394 : decode cL_law 2394 = .ok (.ireturn, 1) := by decide +kernel
theorem dL_law_2395 : decode cL_law 2395 = .ok (.iload 5, 2) := by decide +kernel
theorem dL_law_2397 : decode cL_law 2397 = .ok (.ifCond .ne 15, 3) := by decide +kernel
theorem dL_law_2400 : decode cL_law 2400 = .ok (.aload_n 3, 1) := by decide +kernel
theorem dL_law_2401 : decode cL_law 2401 = .ok (.iconst 0, 1) := by decide +kernel
theorem dL_law_2402 : decode cL_law 2402 = .ok (.laload, 1) := by decide +kernel
theorem dL_law_2403 : decode cL_law 2403 = .ok (.iload 6, 2) := by decide +kernel
theorem dL_law_2405 : decode cL_law 2405 = .ok (.i2l, 1) := by decide +kernel
theorem dL_law_2406 : decode cL_law 2406 = .ok (.lcmp, 1) := by decide +kernel
theorem dL_law_2407 : decode cL_law 2407 = .ok (.ifCond .eq 5, 3) := by decide +kernel
theorem dL_law_2410 : decode cL_law 2410 = .ok (.iconst 0, 1) := by decide +kernel
theorem dL_law_2411 : decode cL_law 2411 = .ok (.ireturn, 1) := by decide +kernel
theorem dL_law_2412 : decode cL_law 2412 = .ok (.goto 361, 3) := by decide +kernel
theorem dL_law_2415 : decode cL_law 2415 = .ok (.aload_n 1, 1) := by decide +kernel
theorem dL_law_2416 : decode cL_law 2416 = .ok (.aload_n 0, 1) := by decide +kernel
theorem dL_law_2417 : decode cL_law 2417 = .ok (.iload 4, 2) := by decide +kernel
theorem dL_law_2419 : decode cL_law 2419 = .ok (.iconst 1, 1) := by decide +kernel
theorem dL_law_2420 : decode cL_law 2420 = .ok (.iadd, 1) := by decide +kernel
theorem dL_law_2421 : decode cL_law 2421 = .ok (.iaload, 1) := by decide +kernel
theorem dL_law_2422 : decode cL_law 2422 = .ok (.aload_n 0, 1) := by decide +kernel
theorem dL_law_2423 : decode cL_law 2423 = .ok (.iload 4, 2) := by decide +kernel
theorem dL_law_2425 : decode cL_law 2425 = .ok (.iconst 2, 1) := by decide +kernel
theorem dL_law_2426 : decode cL_law 2426 = .ok (.iadd, 1) := by decide +kernel
theorem dL_law_2427 : decode cL_law 2427 = .ok (.iaload, 1) := by decide +kernel
theorem dL_law_2428 : decode cL_law 2428 = .ok (.aload_n 3, 1) := by decide +kernel
theorem dL_law_2429 : decode cL_law 2429 = .ok (.invokestatic 244, 3) := by decide +kernel
theorem dL_law_2432 : decode cL_law 2432 = .ok (.istore 5, 2) := by decide +kernel
theorem dL_law_2434 : decode cL_law 2434 = .ok (.aload_n 2, 1) := by decide +kernel
theorem dL_law_2435 : decode cL_law 2435 = .ok (.aload_n 0, 1) := by decide +kernel
theorem dL_law_2436 : decode cL_law 2436 = .ok (.iload 4, 2) := by decide +kernel
theorem dL_law_2438 : decode cL_law 2438 = .ok (.iconst 1, 1) := by decide +kernel
theorem dL_law_2439 : decode cL_law 2439 = .ok (.iadd, 1) := by decide +kernel
theorem dL_law_2440 : decode cL_law 2440 = .ok (.iaload, 1) := by decide +kernel
theorem dL_law_2441 : decode cL_law 2441 = .ok (.aload_n 0, 1) := by decide +kernel
theorem dL_law_2442 : decode cL_law 2442 = .ok (.iload 4, 2) := by decide +kernel
theorem dL_law_2444 : decode cL_law 2444 = .ok (.iconst 2, 1) := by decide +kernel
theorem dL_law_2445 : decode cL_law 2445 = .ok (.iadd, 1) := by decide +kernel
theorem dL_law_2446 : decode cL_law 2446 = .ok (.iaload, 1) := by decide +kernel
theorem dL_law_2447 : decode cL_law 2447 = .ok (.invokevirtual 246, 3) := by decide +kernel
theorem dL_law_2450 : decode cL_law 2450 = .ok (.istore 6, 2) := by decide +kernel
theorem dL_law_2452 : decode cL_law 2452 = .ok (.aload_n 2, 1) := by decide +kernel
theorem dL_law_2453 : decode cL_law 2453 = .ok (.invokevirtual 142, 3) := by decide +kernel
theorem dL_law_2456 : decode cL_law 2456 = .ok (.iload 5, 2) := by decide +kernel
theorem dL_law_2458 : decode cL_law 2458 = .ok (.if_icmp .eq 5, 3) := by decide +kernel
theorem dL_law_2461 : decode cL_law 2461 = .ok (.iconst 0, 1) := by decide +kernel
theorem dL_law_2462 : decode cL_law 2462 = .ok (.ireturn, 1) := by decide +kernel
theorem dL_law_2463 : decode cL_law 2463 = .ok (.iload 5, 2) := by decide +kernel
theorem dL_law_2465 : decode cL_law 2465 = .ok (.ifCond .ne 15, 3) := by decide +kernel
theorem dL_law_2468 : decode cL_law 2468 = .ok (.aload_n 3, 1) := by decide +kernel
theorem dL_law_2469 : decode cL_law 2469 = .ok (.iconst 0, 1) := by decide +kernel
theorem dL_law_2470 : decode cL_law 2470 = .ok (.laload, 1) := by decide +kernel
theorem dL_law_2471 : decode cL_law 2471 = .ok (.iload 6, 2) := by decide +kernel
theorem dL_law_2473 : decode cL_law 2473 = .ok (.i2l, 1) := by decide +kernel
theorem dL_law_2474 : decode cL_law 2474 = .ok (.lcmp, 1) := by decide +kernel
theorem dL_law_2475 : decode cL_law 2475 = .ok (.ifCond .eq 5, 3) := by decide +kernel
theorem dL_law_2478 : decode cL_law 2478 = .ok (.iconst 0, 1) := by decide +kernel
theorem dL_law_2479 : decode cL_law 2479 = .ok (.ireturn, 1) := by decide +kernel
theorem dL_law_2480 : decode cL_law 2480 = .ok (.goto 293, 3) := by decide +kernel
theorem dL_law_2483 : decode cL_law 2483 = .ok (.aload_n 1, 1) := by decide +kernel
theorem dL_law_2484 : decode cL_law 2484 = .ok (.aload_n 0, 1) := by decide +kernel
theorem dL_law_2485 : decode cL_law 2485 = .ok (.iload 4, 2) := by decide +kernel
theorem dL_law_2487 : decode cL_law 2487 = .ok (.iconst 1, 1) := by decide +kernel
theorem dL_law_2488 : decode cL_law 2488 = .ok (.iadd, 1) := by decide +kernel
theorem dL_law_2489 : decode cL_law 2489 = .ok (.iaload, 1) := by decide +kernel
theorem dL_law_2490 : decode cL_law 2490 = .ok (.aload_n 0, 1) := by decide +kernel
theorem dL_law_2491 : decode cL_law 2491 = .ok (.iload 4, 2) := by decide +kernel
theorem dL_law_2493 : decode cL_law 2493 = .ok (.iconst 2, 1) := by decide +kernel
theorem dL_law_2494 : decode cL_law 2494 = .ok (.iadd, 1) := by decide +kernel
theorem dL_law_2495 : decode cL_law 2495 = .ok (.iaload, 1) := by decide +kernel
theorem dL_law_2496 : decode cL_law 2496 = .ok (.aload_n 0, 1) := by decide +kernel
theorem dL_law_2497 : decode cL_law 2497 = .ok (.iload 4, 2) := by decide +kernel
theorem dL_law_2499 : decode cL_law 2499 = .ok (.iconst 3, 1) := by decide +kernel
theorem dL_law_2500 : decode cL_law 2500 = .ok (.iadd, 1) := by decide +kernel
theorem dL_law_2501 : decode cL_law 2501 = .ok (.iaload, 1) := by decide +kernel
theorem dL_law_2502 : decode cL_law 2502 = .ok (.aload_n 3, 1) := by decide +kernel
theorem dL_law_2503 : decode cL_law 2503 = .ok (.invokestatic 247, 3) := by decide +kernel
theorem dL_law_2506 : decode cL_law 2506 = .ok (.istore 5, 2) := by decide +kernel
theorem dL_law_2508 : decode cL_law 2508 = .ok (.aload_n 2, 1) := by decide +kernel
theorem dL_law_2509 : decode cL_law 2509 = .ok (.aload_n 0, 1) := by decide +kernel
theorem dL_law_2510 : decode cL_law 2510 = .ok (.iload 4, 2) := by decide +kernel
theorem dL_law_2512 : decode cL_law 2512 = .ok (.iconst 1, 1) := by decide +kernel
theorem dL_law_2513 : decode cL_law 2513 = .ok (.iadd, 1) := by decide +kernel
theorem dL_law_2514 : decode cL_law 2514 = .ok (.iaload, 1) := by decide +kernel
theorem dL_law_2515 : decode cL_law 2515 = .ok (.aload_n 0, 1) := by decide +kernel
theorem dL_law_2516 : decode cL_law 2516 = .ok (.iload 4, 2) := by decide +kernel
theorem dL_law_2518 : decode cL_law 2518 = .ok (.iconst 2, 1) := by decide +kernel
theorem dL_law_2519 : decode cL_law 2519 = .ok (.iadd, 1) := by decide +kernel
theorem dL_law_2520 : decode cL_law 2520 = .ok (.iaload, 1) := by decide +kernel
theorem dL_law_2521 : decode cL_law 2521 = .ok (.aload_n 0, 1) := by decide +kernel
theorem dL_law_2522 : decode cL_law 2522 = .ok (.iload 4, 2) := by decide +kernel
theorem dL_law_2524 : decode cL_law 2524 = .ok (.iconst 3, 1) := by decide +kernel
theorem dL_law_2525 : decode cL_law 2525 = .ok (.iadd, 1) := by decide +kernel
theorem dL_law_2526 : decode cL_law 2526 = .ok (.iaload, 1) := by decide +kernel
theorem dL_law_2527 : decode cL_law 2527 = .ok (.invokevirtual 249, 3) := by decide +kernel
theorem dL_law_2530 : decode cL_law 2530 = .ok (.istore 6, 2) := by decide +kernel
theorem dL_law_2532 : decode cL_law 2532 = .ok (.aload_n 2, 1) := by decide +kernel
theorem dL_law_2533 : decode cL_law 2533 = .ok (.invokevirtual 142, 3) := by decide +kernel
theorem dL_law_2536 : decode cL_law 2536 = .ok (.iload 5, 2) := by decide +kernel
theorem dL_law_2538 : decode cL_law 2538 = .ok (.if_icmp .eq 5, 3) := by decide +kernel
theorem dL_law_2541 : decode cL_law 2541 = .ok (.iconst 0, 1) := by decide +kernel
theorem dL_law_2542 : decode cL_law 2542 = .ok (.ireturn, 1) := by decide +kernel
theorem dL_law_2543 : decode cL_law 2543 = .ok (.iload 5, 2) := by decide +kernel
theorem dL_law_2545 : decode cL_law 2545 = .ok (.ifCond .ne 15, 3) := by decide +kernel
theorem dL_law_2548 : decode cL_law 2548 = .ok (.aload_n 3, 1) := by decide +kernel
theorem dL_law_2549 : decode cL_law 2549 = .ok (.iconst 0, 1) := by decide +kernel
theorem dL_law_2550 : decode cL_law 2550 = .ok (.laload, 1) := by decide +kernel
theorem dL_law_2551 : decode cL_law 2551 = .ok (.iload 6, 2) := by decide +kernel
theorem dL_law_2553 : decode cL_law 2553 = .ok (.i2l, 1) := by decide +kernel
theorem dL_law_2554 : decode cL_law 2554 = .ok (.lcmp, 1) := by decide +kernel
theorem dL_law_2555 : decode cL_law 2555 = .ok (.ifCond .eq 5, 3) := by decide +kernel
theorem dL_law_2558 : decode cL_law 2558 = .ok (.iconst 0, 1) := by decide +kernel
theorem dL_law_2559 : decode cL_law 2559 = .ok (.ireturn, 1) := by decide +kernel
theorem dL_law_2560 : decode cL_law 2560 = .ok (.goto 213, 3) := by decide +kernel
theorem dL_law_2563 : decode cL_law 2563 = .ok (.aload_n 1, 1) := by decide +kernel
theorem dL_law_2564 : decode cL_law 2564 = .ok (.aload_n 0, 1) := by decide +kernel
theorem dL_law_2565 : decode cL_law 2565 = .ok (.iload 4, 2) := by decide +kernel
theorem dL_law_2567 : decode cL_law 2567 = .ok (.iconst 1, 1) := by decide +kernel
theorem dL_law_2568 : decode cL_law 2568 = .ok (.iadd, 1) := by decide +kernel
theorem dL_law_2569 : decode cL_law 2569 = .ok (.iaload, 1) := by decide +kernel
theorem dL_law_2570 : decode cL_law 2570 = .ok (.aload_n 0, 1) := by decide +kernel
theorem dL_law_2571 : decode cL_law 2571 = .ok (.iload 4, 2) := by decide +kernel
theorem dL_law_2573 : decode cL_law 2573 = .ok (.iconst 2, 1) := by decide +kernel
theorem dL_law_2574 : decode cL_law 2574 = .ok (.iadd, 1) := by decide +kernel
theorem dL_law_2575 : decode cL_law 2575 = .ok (.iaload, 1) := by decide +kernel
theorem dL_law_2576 : decode cL_law 2576 = .ok (.aload_n 3, 1) := by decide +kernel
theorem dL_law_2577 : decode cL_law 2577 = .ok (.invokestatic 250, 3) := by decide +kernel
theorem dL_law_2580 : decode cL_law 2580 = .ok (.istore 5, 2) := by decide +kernel
theorem dL_law_2582 : decode cL_law 2582 = .ok (.aload_n 2, 1) := by decide +kernel
theorem dL_law_2583 : decode cL_law 2583 = .ok (.aload_n 0, 1) := by decide +kernel
theorem dL_law_2584 : decode cL_law 2584 = .ok (.iload 4, 2) := by decide +kernel
theorem dL_law_2586 : decode cL_law 2586 = .ok (.iconst 1, 1) := by decide +kernel
theorem dL_law_2587 : decode cL_law 2587 = .ok (.iadd, 1) := by decide +kernel
theorem dL_law_2588 : decode cL_law 2588 = .ok (.iaload, 1) := by decide +kernel
theorem dL_law_2589 : decode cL_law 2589 = .ok (.aload_n 0, 1) := by decide +kernel
theorem dL_law_2590 : decode cL_law 2590 = .ok (.iload 4, 2) := by decide +kernel
theorem dL_law_2592 : decode cL_law 2592 = .ok (.iconst 2, 1) := by decide +kernel
theorem dL_law_2593 : decode cL_law 2593 = .ok (.iadd, 1) := by decide +kernel
theorem dL_law_2594 : decode cL_law 2594 = .ok (.iaload, 1) := by decide +kernel
theorem dL_law_2595 : decode cL_law 2595 = .ok (.invokevirtual 252, 3) := by decide +kernel
theorem dL_law_2598 : decode cL_law 2598 = .ok (.istore 6, 2) := by decide +kernel
theorem dL_law_2600 : decode cL_law 2600 = .ok (.aload_n 2, 1) := by decide +kernel
theorem dL_law_2601 : decode cL_law 2601 = .ok (.invokevirtual 142, 3) := by decide +kernel
theorem dL_law_2604 : decode cL_law 2604 = .ok (.iload 5, 2) := by decide +kernel
theorem dL_law_2606 : decode cL_law 2606 = .ok (.if_icmp .eq 5, 3) := by decide +kernel
theorem dL_law_2609 : decode cL_law 2609 = .ok (.iconst 0, 1) := by decide +kernel
theorem dL_law_2610 : decode cL_law 2610 = .ok (.ireturn, 1) := by decide +kernel
theorem dL_law_2611 : decode cL_law 2611 = .ok (.iload 5, 2) := by decide +kernel
theorem dL_law_2613 : decode cL_law 2613 = .ok (.ifCond .ne 15, 3) := by decide +kernel
theorem dL_law_2616 : decode cL_law 2616 = .ok (.aload_n 3, 1) := by decide +kernel
theorem dL_law_2617 : decode cL_law 2617 = .ok (.iconst 0, 1) := by decide +kernel
theorem dL_law_2618 : decode cL_law 2618 = .ok (.laload, 1) := by decide +kernel
theorem dL_law_2619 : decode cL_law 2619 = .ok (.iload 6, 2) := by decide +kernel
theorem dL_law_2621 : decode cL_law 2621 = .ok (.i2l, 1) := by decide +kernel
theorem dL_law_2622 : decode cL_law 2622 = .ok (.lcmp, 1) := by decide +kernel
theorem dL_law_2623 : decode cL_law 2623 = .ok (.ifCond .eq 5, 3) := by decide +kernel
theorem dL_law_2626 : decode cL_law 2626 = .ok (.iconst 0, 1) := by decide +kernel
theorem dL_law_2627 : decode cL_law 2627 = .ok (.ireturn, 1) := by decide +kernel
theorem dL_law_2628 : decode cL_law 2628 = .ok (.goto 145, 3) := by decide +kernel
theorem dL_law_2631 : decode cL_law 2631 = .ok (.aload_n 1, 1) := by decide +kernel
theorem dL_law_2632 : decode cL_law 2632 = .ok (.aload_n 0, 1) := by decide +kernel
theorem dL_law_2633 : decode cL_law 2633 = .ok (.iload 4, 2) := by decide +kernel
theorem dL_law_2635 : decode cL_law 2635 = .ok (.iconst 1, 1) := by decide +kernel
theorem dL_law_2636 : decode cL_law 2636 = .ok (.iadd, 1) := by decide +kernel
theorem dL_law_2637 : decode cL_law 2637 = .ok (.iaload, 1) := by decide +kernel
theorem dL_law_2638 : decode cL_law 2638 = .ok (.aload_n 0, 1) := by decide +kernel
theorem dL_law_2639 : decode cL_law 2639 = .ok (.iload 4, 2) := by decide +kernel
theorem dL_law_2641 : decode cL_law 2641 = .ok (.iconst 2, 1) := by decide +kernel
theorem dL_law_2642 : decode cL_law 2642 = .ok (.iadd, 1) := by decide +kernel
theorem dL_law_2643 : decode cL_law 2643 = .ok (.iaload, 1) := by decide +kernel
theorem dL_law_2644 : decode cL_law 2644 = .ok (.aload_n 0, 1) := by decide +kernel
theorem dL_law_2645 : decode cL_law 2645 = .ok (.iload 4, 2) := by decide +kernel
theorem dL_law_2647 : decode cL_law 2647 = .ok (.iconst 3, 1) := by decide +kernel
theorem dL_law_2648 : decode cL_law 2648 = .ok (.iadd, 1) := by decide +kernel
theorem dL_law_2649 : decode cL_law 2649 = .ok (.iaload, 1) := by decide +kernel
theorem dL_law_2650 : decode cL_law 2650 = .ok (.aload_n 3, 1) := by decide +kernel
theorem dL_law_2651 : decode cL_law 2651 = .ok (.invokestatic 253, 3) := by decide +kernel
theorem dL_law_2654 : decode cL_law 2654 = .ok (.istore 5, 2) := by decide +kernel
theorem dL_law_2656 : decode cL_law 2656 = .ok (.aload_n 2, 1) := by decide +kernel
theorem dL_law_2657 : decode cL_law 2657 = .ok (.aload_n 0, 1) := by decide +kernel
theorem dL_law_2658 : decode cL_law 2658 = .ok (.iload 4, 2) := by decide +kernel
theorem dL_law_2660 : decode cL_law 2660 = .ok (.iconst 1, 1) := by decide +kernel
theorem dL_law_2661 : decode cL_law 2661 = .ok (.iadd, 1) := by decide +kernel
theorem dL_law_2662 : decode cL_law 2662 = .ok (.iaload, 1) := by decide +kernel
theorem dL_law_2663 : decode cL_law 2663 = .ok (.aload_n 0, 1) := by decide +kernel
theorem dL_law_2664 : decode cL_law 2664 = .ok (.iload 4, 2) := by decide +kernel
theorem dL_law_2666 : decode cL_law 2666 = .ok (.iconst 2, 1) := by decide +kernel
theorem dL_law_2667 : decode cL_law 2667 = .ok (.iadd, 1) := by decide +kernel
theorem dL_law_2668 : decode cL_law 2668 = .ok (.iaload, 1) := by decide +kernel
theorem dL_law_2669 : decode cL_law 2669 = .ok (.aload_n 0, 1) := by decide +kernel
theorem dL_law_2670 : decode cL_law 2670 = .ok (.iload 4, 2) := by decide +kernel
theorem dL_law_2672 : decode cL_law 2672 = .ok (.iconst 3, 1) := by decide +kernel
theorem dL_law_2673 : decode cL_law 2673 = .ok (.iadd, 1) := by decide +kernel
theorem dL_law_2674 : decode cL_law 2674 = .ok (.iaload, 1) := by decide +kernel
theorem dL_law_2675 : decode cL_law 2675 = .ok (.invokevirtual 255, 3) := by decide +kernel
theorem dL_law_2678 : decode cL_law 2678 = .ok (.istore 6, 2) := by decide +kernel
theorem dL_law_2680 : decode cL_law 2680 = .ok (.aload_n 2, 1) := by decide +kernel
theorem dL_law_2681 : decode cL_law 2681 = .ok (.invokevirtual 142, 3) := by decide +kernel
theorem dL_law_2684 : decode cL_law 2684 = .ok (.iload 5, 2) := by decide +kernel
theorem dL_law_2686 : decode cL_law 2686 = .ok (.if_icmp .eq 5, 3) := by decide +kernel
theorem dL_law_2689 : decode cL_law 2689 = .ok (.iconst 0, 1) := by decide +kernel
theorem dL_law_2690 : decode cL_law 2690 = .ok (.ireturn, 1) := by decide +kernel
theorem dL_law_2691 : decode cL_law 2691 = .ok (.iload 5, 2) := by decide +kernel
theorem dL_law_2693 : decode cL_law 2693 = .ok (.ifCond .ne 15, 3) := by decide +kernel
theorem dL_law_2696 : decode cL_law 2696 = .ok (.aload_n 3, 1) := by decide +kernel
theorem dL_law_2697 : decode cL_law 2697 = .ok (.iconst 0, 1) := by decide +kernel
theorem dL_law_2698 : decode cL_law 2698 = .ok (.laload, 1) := by decide +kernel
theorem dL_law_2699 : decode cL_law 2699 = .ok (.iload 6, 2) := by decide +kernel
theorem dL_law_2701 : decode cL_law 2701 = .ok (.i2l, 1) := by decide +kernel
theorem dL_law_2702 : decode cL_law 2702 = .ok (.lcmp, 1) := by decide +kernel
theorem dL_law_2703 : decode cL_law 2703 = .ok (.ifCond .eq 5, 3) := by decide +kernel
theorem dL_law_2706 : decode cL_law 2706 = .ok (.iconst 0, 1) := by decide +kernel
theorem dL_law_2707 : decode cL_law 2707 = .ok (.ireturn, 1) := by decide +kernel
theorem dL_law_2708 : decode cL_law 2708 = .ok (.goto 65, 3) := by decide +kernel
theorem dL_law_2711 : decode cL_law 2711 = .ok (.aload_n 1, 1) := by decide +kernel
theorem dL_law_2712 : decode cL_law 2712 = .ok (.invokevirtual 256, 3) := by decide +kernel
theorem dL_law_2715 : decode cL_law 2715 = .ok (.aload_n 2, 1) := by decide +kernel
theorem dL_law_2716 : decode cL_law 2716 = .ok (.invokevirtual 259, 3) := by decide +kernel
theorem dL_law_2719 : decode cL_law 2719 = .ok (.if_icmp .eq 54, 3) := by decide +kernel
theorem dL_law_2722 : decode cL_law 2722 = .ok (.iconst 0, 1) := by decide +kernel
theorem dL_law_2723 : decode cL_law 2723 = .ok (.ireturn, 1) := by decide +kernel
theorem dL_law_2724 : decode cL_law 2724 = .ok (.aload_n 1, 1) := by decide +kernel
theorem dL_law_2725 : decode cL_law 2725 = .ok (.invokevirtual 260, 3) := by decide +kernel
theorem dL_law_2728 : decode cL_law 2728 = .ok (.aload_n 2, 1) := by decide +kernel
theorem dL_law_2729 : decode cL_law 2729 = .ok (.invokevirtual 263, 3) := by decide +kernel
theorem dL_law_2732 : decode cL_law 2732 = .ok (.goto 41, 3) := by decide +kernel
theorem dL_law_2735 : decode cL_law 2735 = .ok (.aload_n 1, 1) := by decide +kernel
theorem dL_law_2736 : decode cL_law 2736 = .ok (.invokevirtual 264, 3) := by decide +kernel
theorem dL_law_2739 : decode cL_law 2739 = .ok (.aload_n 2, 1) := by decide +kernel
theorem dL_law_2740 : decode cL_law 2740 = .ok (.invokevirtual 268, 3) := by decide +kernel
theorem dL_law_2743 : decode cL_law 2743 = .ok (.if_icmp .eq 30, 3) := by decide +kernel
theorem dL_law_2746 : decode cL_law 2746 = .ok (.iconst 0, 1) := by decide +kernel
theorem dL_law_2747 : decode cL_law 2747 = .ok (.ireturn, 1) := by decide +kernel
theorem dL_law_2748 : decode cL_law 2748 = .ok (.aload_n 1, 1) := by decide +kernel
theorem dL_law_2749 : decode cL_law 2749 = .ok (.aload_n 0, 1) := by decide +kernel
theorem dL_law_2750 : decode cL_law 2750 = .ok (.iload 4, 2) := by decide +kernel
theorem dL_law_2752 : decode cL_law 2752 = .ok (.iconst 1, 1) := by decide +kernel
theorem dL_law_2753 : decode cL_law 2753 = .ok (.iadd, 1) := by decide +kernel
theorem dL_law_2754 : decode cL_law 2754 = .ok (.iaload, 1) := by decide +kernel
theorem dL_law_2755 : decode cL_law 2755 = .ok (.invokevirtual 269, 3) := by decide +kernel
theorem dL_law_2758 : decode cL_law 2758 = .ok (.aload_n 2, 1) := by decide +kernel
theorem dL_law_2759 : decode cL_law 2759 = .ok (.aload_n 0, 1) := by decide +kernel
theorem dL_law_2760 : decode cL_law 2760 = .ok (.iload 4, 2) := by decide +kernel
theorem dL_law_2762 : decode cL_law 2762 = .ok (.iconst 1, 1) := by decide +kernel
theorem dL_law_2763 : decode cL_law 2763 = .ok (.iadd, 1) := by decide +kernel
theorem dL_law_2764 : decode cL_law 2764 = .ok (.iaload, 1) := by decide +kernel
theorem dL_law_2765 : decode cL_law 2765 = .ok (.invokevirtual 272, 3) := by decide +kernel
theorem dL_law_2768 : decode cL_law 2768 = .ok (.if_icmp .eq 5, 3) := by decide +kernel
theorem dL_law_2771 : decode cL_law 2771 = .ok (.iconst 0, 1) := by decide +kernel
theorem dL_law_2772 : decode cL_law 2772 = .ok (.ireturn, 1) := by decide +kernel
theorem dL_law_2773 : decode cL_law 2773 = .ok (.iinc 4 7, 3) := by decide +kernel
theorem dL_law_2776 : decode cL_law 2776 = .ok (.goto (-2753), 3) := by decide +kernel
theorem dL_law_2779 : decode cL_law 2779 = .ok (.iconst 1, 1) := by decide +kernel
theorem dL_law_2780 : decode cL_law 2780 = .ok (.ireturn, 1) := by decide +kernel
noncomputable def E_L_law : mE := (mLaw, [(39, [(0, (.new 8, 3, false, false, 14, 0, 0, 0, 0, 0, [])), (3, (.dup, 4, false, false, 0, 0, 0, 0, 0, 0, [])), (4, (.invokespecial 124, 7, false, false, 11, 0, 0, 0, 0, 0, [])), (7, (.astore_n 1, 8, false, false, 1, 0, 0, 0, 0, 0, [])), (8, (.new 125, 11, false, false, 15, 0, 0, 0, 0, 0, [])), (11, (.dup, 12, false, false, 0, 0, 0, 0, 0, 0, [])), (12, (.invokespecial 127, 15, false, false, 13, 0, 0, 0, 0, 0, [])), (15, (.astore_n 2, 16, false, false, 2, 0, 0, 0, 0, 0, [])), (16, (.iconst 1, 17, false, false, 0, 0, 0, 0, 1, 0, [])), (17, (.newarray .long, 19, false, false, 0, 0, 3, 0, 0, 0, [])), (19, (.astore_n 3, 20, false, false, 3, 0, 0, 0, 0, 0, [])), (20, (.iconst 0, 21, false, false, 0, 0, 0, 0, 0, 0, [])), (21, (.istore 4, 23, true, false, 4, 0, 0, 0, 0, 0, [])), (23, (.iload 4, 25, false, false, 4, 0, 0, 0, 0, 0, [])), (25, (.aload_n 0, 26, false, false, 0, 0, 0, 0, 0, 0, [])), (26, (.arraylength, 27, false, false, 0, 0, 2, 0, 0, 0, [])), (27, (.bipush 7, 29, false, false, 0, 0, 0, 0, 7, 0, [])), (29, (.isub, 30, false, false, 0, 0, 0, 0, 0, 0, [])), (30, (.if_icmp .gt 2749, 33, false, false, 2779, 0, 0, 0, 0, 0, [])), (33, (.aload_n 0, 34, false, false, 0, 0, 0, 0, 0, 0, [])), (34, (.iload 4, 36, false, false, 4, 0, 0, 0, 0, 0, [])), (36, (.iaload, 37, false, false, 0, 0, 2, 0, 0, 0, [])), (37, (.bipush 63, 39, false, false, 0, 0, 0, 0, 63, 0, [])), (39, (.iand, 40, false, false, 0, 0, 0, 0, 0, 0, []))]),
  (242, [(40, (.tableswitch 2733 0 39 #[176, 249, 274, 399, 475, 531, 611, 691, 811, 915, 990, 1053, 1109, 1165, 1233, 1301, 1357, 1413, 1438, 1494, 1507, 1575, 1643, 1727, 1835, 1891, 1982, 2066, 2079, 2147, 2227, 2295, 2375, 2443, 2523, 2591, 2671, 2684, 2695, 2708], 0, false, false, 2773, 0, 0, 0, 0, 0, [(0, 216), (1, 289), (2, 314), (3, 439), (4, 515), (5, 571), (6, 651), (7, 731), (8, 851), (9, 955), (10, 1030), (11, 1093), (12, 1149), (13, 1205), (14, 1273), (15, 1341), (16, 1397), (17, 1453), (18, 1478), (19, 1534), (20, 1547), (21, 1615), (22, 1683), (23, 1767), (24, 1875), (25, 1931), (26, 2022), (27, 2106), (28, 2119), (29, 2187), (30, 2267), (31, 2335), (32, 2415), (33, 2483), (34, 2563), (35, 2631), (36, 2711), (37, 2724), (38, 2735), (39, 2748)])), (216, (.aload_n 1, 217, false, false, 1, 0, 0, 0, 0, 0, [])), (217, (.aload_n 0, 218, false, false, 0, 0, 0, 0, 0, 0, [])), (218, (.iload 4, 220, false, false, 4, 0, 0, 0, 0, 0, [])), (220, (.iconst 1, 221, false, false, 0, 0, 0, 0, 1, 0, [])), (221, (.iadd, 222, false, false, 0, 0, 0, 0, 0, 0, [])), (222, (.iaload, 223, false, false, 0, 0, 2, 0, 0, 0, [])), (223, (.aload_n 0, 224, false, false, 0, 0, 0, 0, 0, 0, [])), (224, (.iload 4, 226, false, false, 4, 0, 0, 0, 0, 0, [])), (226, (.iconst 2, 227, false, false, 0, 0, 0, 0, 2, 0, [])), (227, (.iadd, 228, false, false, 0, 0, 0, 0, 0, 0, [])), (228, (.iaload, 229, false, false, 0, 0, 2, 0, 0, 0, [])), (229, (.aload_n 0, 230, false, false, 0, 0, 0, 0, 0, 0, [])), (230, (.iload 4, 232, false, false, 4, 0, 0, 0, 0, 0, [])), (232, (.iconst 3, 233, false, false, 0, 0, 0, 0, 3, 0, [])), (233, (.iadd, 234, false, false, 0, 0, 0, 0, 0, 0, [])), (234, (.iaload, 235, false, false, 0, 0, 2, 0, 0, 0, [])), (235, (.aload_n 0, 236, false, false, 0, 0, 0, 0, 0, 0, [])), (236, (.iload 4, 238, false, false, 4, 0, 0, 0, 0, 0, [])), (238, (.iconst 4, 239, false, false, 0, 0, 0, 0, 4, 0, [])), (239, (.iadd, 240, false, false, 0, 0, 0, 0, 0, 0, [])), (240, (.iaload, 241, false, false, 0, 0, 2, 0, 0, 0, [])), (241, (.aload_n 0, 242, false, false, 0, 0, 0, 0, 0, 0, [])), (242, (.iload 4, 244, false, false, 4, 0, 0, 0, 0, 0, []))]),
  (273, [(244, (.iconst 5, 245, false, false, 0, 0, 0, 0, 5, 0, [])), (245, (.iadd, 246, false, false, 0, 0, 0, 0, 0, 0, [])), (246, (.iaload, 247, false, false, 0, 0, 2, 0, 0, 0, [])), (247, (.invokevirtual 128, 250, true, false, 15, 5, 1, 14, 0, 0, [])), (250, (.aload_n 2, 251, false, false, 2, 0, 0, 0, 0, 0, [])), (251, (.aload_n 0, 252, false, false, 0, 0, 0, 0, 0, 0, [])), (252, (.iload 4, 254, false, false, 4, 0, 0, 0, 0, 0, [])), (254, (.iconst 1, 255, false, false, 0, 0, 0, 0, 1, 0, [])), (255, (.iadd, 256, false, false, 0, 0, 0, 0, 0, 0, [])), (256, (.iaload, 257, false, false, 0, 0, 2, 0, 0, 0, [])), (257, (.aload_n 0, 258, false, false, 0, 0, 0, 0, 0, 0, [])), (258, (.iload 4, 260, false, false, 4, 0, 0, 0, 0, 0, [])), (260, (.iconst 2, 261, false, false, 0, 0, 0, 0, 2, 0, [])), (261, (.iadd, 262, false, false, 0, 0, 0, 0, 0, 0, [])), (262, (.iaload, 263, false, false, 0, 0, 2, 0, 0, 0, [])), (263, (.aload_n 0, 264, false, false, 0, 0, 0, 0, 0, 0, [])), (264, (.iload 4, 266, false, false, 4, 0, 0, 0, 0, 0, [])), (266, (.iconst 3, 267, false, false, 0, 0, 0, 0, 3, 0, [])), (267, (.iadd, 268, false, false, 0, 0, 0, 0, 0, 0, [])), (268, (.iaload, 269, false, false, 0, 0, 2, 0, 0, 0, [])), (269, (.aload_n 0, 270, false, false, 0, 0, 0, 0, 0, 0, [])), (270, (.iload 4, 272, false, false, 4, 0, 0, 0, 0, 0, [])), (272, (.iconst 4, 273, false, false, 0, 0, 0, 0, 4, 0, [])), (273, (.iadd, 274, false, false, 0, 0, 0, 0, 0, 0, []))]),
  (306, [(274, (.iaload, 275, false, false, 0, 0, 2, 0, 0, 0, [])), (275, (.aload_n 0, 276, false, false, 0, 0, 0, 0, 0, 0, [])), (276, (.iload 4, 278, false, false, 4, 0, 0, 0, 0, 0, [])), (278, (.iconst 5, 279, false, false, 0, 0, 0, 0, 5, 0, [])), (279, (.iadd, 280, false, false, 0, 0, 0, 0, 0, 0, [])), (280, (.iaload, 281, false, false, 0, 0, 2, 0, 0, 0, [])), (281, (.invokevirtual 131, 284, false, false, 16, 5, 1, 15, 0, 0, [])), (284, (.if_icmp .eq 2489, 287, false, true, 2773, 0, 0, 0, 0, 0, [])), (287, (.iconst 0, 288, false, false, 0, 0, 0, 0, 0, 0, [])), (288, (.ireturn, 289, false, false, 0, 0, 1, 0, 0, 0, [])), (289, (.aload_n 1, 290, false, false, 1, 0, 0, 0, 0, 0, [])), (290, (.aload_n 0, 291, false, false, 0, 0, 0, 0, 0, 0, [])), (291, (.iload 4, 293, false, false, 4, 0, 0, 0, 0, 0, [])), (293, (.iconst 1, 294, false, false, 0, 0, 0, 0, 1, 0, [])), (294, (.iadd, 295, false, false, 0, 0, 0, 0, 0, 0, [])), (295, (.iaload, 296, false, false, 0, 0, 2, 0, 0, 0, [])), (296, (.invokevirtual 132, 299, false, false, 17, 1, 1, 14, 0, 0, [])), (299, (.aload_n 2, 300, false, false, 2, 0, 0, 0, 0, 0, [])), (300, (.aload_n 0, 301, false, false, 0, 0, 0, 0, 0, 0, [])), (301, (.iload 4, 303, false, false, 4, 0, 0, 0, 0, 0, [])), (303, (.iconst 1, 304, false, false, 0, 0, 0, 0, 1, 0, [])), (304, (.iadd, 305, false, false, 0, 0, 0, 0, 0, 0, [])), (305, (.iaload, 306, false, false, 0, 0, 2, 0, 0, 0, [])), (306, (.invokevirtual 135, 309, false, false, 18, 1, 1, 15, 0, 0, []))]),
  (338, [(309, (.if_icmp .eq 2464, 312, false, true, 2773, 0, 0, 0, 0, 0, [])), (312, (.iconst 0, 313, false, false, 0, 0, 0, 0, 0, 0, [])), (313, (.ireturn, 314, false, false, 0, 0, 1, 0, 0, 0, [])), (314, (.aload_n 1, 315, false, false, 1, 0, 0, 0, 0, 0, [])), (315, (.aload_n 0, 316, false, false, 0, 0, 0, 0, 0, 0, [])), (316, (.iload 4, 318, false, false, 4, 0, 0, 0, 0, 0, [])), (318, (.iconst 1, 319, false, false, 0, 0, 0, 0, 1, 0, [])), (319, (.iadd, 320, false, false, 0, 0, 0, 0, 0, 0, [])), (320, (.iaload, 321, false, false, 0, 0, 2, 0, 0, 0, [])), (321, (.aload_n 0, 322, false, false, 0, 0, 0, 0, 0, 0, [])), (322, (.iload 4, 324, false, false, 4, 0, 0, 0, 0, 0, [])), (324, (.iconst 2, 325, false, false, 0, 0, 0, 0, 2, 0, [])), (325, (.iadd, 326, false, false, 0, 0, 0, 0, 0, 0, [])), (326, (.iaload, 327, false, false, 0, 0, 2, 0, 0, 0, [])), (327, (.aload_n 0, 328, false, false, 0, 0, 0, 0, 0, 0, [])), (328, (.iload 4, 330, false, false, 4, 0, 0, 0, 0, 0, [])), (330, (.iconst 3, 331, false, false, 0, 0, 0, 0, 3, 0, [])), (331, (.iadd, 332, false, false, 0, 0, 0, 0, 0, 0, [])), (332, (.iaload, 333, false, false, 0, 0, 2, 0, 0, 0, [])), (333, (.aload_n 0, 334, false, false, 0, 0, 0, 0, 0, 0, [])), (334, (.iload 4, 336, false, false, 4, 0, 0, 0, 0, 0, [])), (336, (.iconst 4, 337, false, false, 0, 0, 0, 0, 4, 0, [])), (337, (.iadd, 338, false, false, 0, 0, 0, 0, 0, 0, [])), (338, (.iaload, 339, false, false, 0, 0, 2, 0, 0, 0, []))]),
  (370, [(339, (.aload_n 0, 340, false, false, 0, 0, 0, 0, 0, 0, [])), (340, (.iload 4, 342, false, false, 4, 0, 0, 0, 0, 0, [])), (342, (.iconst 5, 343, false, false, 0, 0, 0, 0, 5, 0, [])), (343, (.iadd, 344, false, false, 0, 0, 0, 0, 0, 0, [])), (344, (.iaload, 345, false, false, 0, 0, 2, 0, 0, 0, [])), (345, (.aload_n 0, 346, false, false, 0, 0, 0, 0, 0, 0, [])), (346, (.iload 4, 348, false, false, 4, 0, 0, 0, 0, 0, [])), (348, (.bipush 6, 350, false, false, 0, 0, 0, 0, 6, 0, [])), (350, (.iadd, 351, false, false, 0, 0, 0, 0, 0, 0, [])), (351, (.iaload, 352, false, false, 0, 0, 2, 0, 0, 0, [])), (352, (.aload_n 3, 353, false, false, 3, 0, 0, 0, 0, 0, [])), (353, (.invokestatic 136, 356, true, false, 27, 8, 1, 3, 0, 0, [])), (356, (.istore 5, 358, false, false, 5, 0, 0, 0, 0, 0, [])), (358, (.aload_n 2, 359, false, false, 2, 0, 0, 0, 0, 0, [])), (359, (.aload_n 0, 360, false, false, 0, 0, 0, 0, 0, 0, [])), (360, (.iload 4, 362, false, false, 4, 0, 0, 0, 0, 0, [])), (362, (.iconst 1, 363, false, false, 0, 0, 0, 0, 1, 0, [])), (363, (.iadd, 364, false, false, 0, 0, 0, 0, 0, 0, [])), (364, (.iaload, 365, false, false, 0, 0, 2, 0, 0, 0, [])), (365, (.aload_n 0, 366, false, false, 0, 0, 0, 0, 0, 0, [])), (366, (.iload 4, 368, false, false, 4, 0, 0, 0, 0, 0, [])), (368, (.iconst 2, 369, false, false, 0, 0, 0, 0, 2, 0, [])), (369, (.iadd, 370, false, false, 0, 0, 0, 0, 0, 0, [])), (370, (.iaload, 371, false, false, 0, 0, 2, 0, 0, 0, []))]),
  (402, [(371, (.aload_n 0, 372, false, false, 0, 0, 0, 0, 0, 0, [])), (372, (.iload 4, 374, false, false, 4, 0, 0, 0, 0, 0, [])), (374, (.iconst 3, 375, false, false, 0, 0, 0, 0, 3, 0, [])), (375, (.iadd, 376, false, false, 0, 0, 0, 0, 0, 0, [])), (376, (.iaload, 377, false, false, 0, 0, 2, 0, 0, 0, [])), (377, (.aload_n 0, 378, false, false, 0, 0, 0, 0, 0, 0, [])), (378, (.iload 4, 380, false, false, 4, 0, 0, 0, 0, 0, [])), (380, (.iconst 4, 381, false, false, 0, 0, 0, 0, 4, 0, [])), (381, (.iadd, 382, false, false, 0, 0, 0, 0, 0, 0, [])), (382, (.iaload, 383, false, false, 0, 0, 2, 0, 0, 0, [])), (383, (.aload_n 0, 384, false, false, 0, 0, 0, 0, 0, 0, [])), (384, (.iload 4, 386, false, false, 4, 0, 0, 0, 0, 0, [])), (386, (.iconst 5, 387, false, false, 0, 0, 0, 0, 5, 0, [])), (387, (.iadd, 388, false, false, 0, 0, 0, 0, 0, 0, [])), (388, (.iaload, 389, false, false, 0, 0, 2, 0, 0, 0, [])), (389, (.aload_n 0, 390, false, false, 0, 0, 0, 0, 0, 0, [])), (390, (.iload 4, 392, false, false, 4, 0, 0, 0, 0, 0, [])), (392, (.bipush 6, 394, false, false, 0, 0, 0, 0, 6, 0, [])), (394, (.iadd, 395, false, false, 0, 0, 0, 0, 0, 0, [])), (395, (.iaload, 396, false, false, 0, 0, 2, 0, 0, 0, [])), (396, (.invokevirtual 141, 399, false, false, 32, 6, 1, 15, 0, 0, [])), (399, (.istore 6, 401, true, false, 6, 0, 0, 0, 0, 0, [])), (401, (.aload_n 2, 402, false, false, 2, 0, 0, 0, 0, 0, [])), (402, (.invokevirtual 142, 405, false, false, 33, 0, 1, 15, 0, 0, []))]),
  (444, [(405, (.iload 5, 407, false, false, 5, 0, 0, 0, 0, 0, [])), (407, (.if_icmp .eq 5, 410, false, false, 412, 0, 0, 0, 0, 0, [])), (410, (.iconst 0, 411, false, false, 0, 0, 0, 0, 0, 0, [])), (411, (.ireturn, 412, false, false, 0, 0, 1, 0, 0, 0, [])), (412, (.iload 5, 414, false, false, 5, 0, 0, 0, 0, 0, [])), (414, (.ifCond .ne 22, 417, false, false, 436, 0, 0, 0, 0, 0, [])), (417, (.aload_n 3, 418, false, false, 3, 0, 0, 0, 0, 0, [])), (418, (.iconst 0, 419, false, false, 0, 0, 0, 0, 0, 0, [])), (419, (.laload, 420, false, false, 0, 0, 0, 0, 0, 0, [])), (420, (.iload 6, 422, false, false, 6, 0, 0, 0, 0, 0, [])), (422, (.ifCond .eq 7, 425, false, false, 429, 0, 0, 0, 0, 0, [])), (425, (.lconst 1, 426, false, false, 0, 0, 0, 0, 0, 1, [])), (426, (.goto 4, 429, false, false, 430, 0, 0, 0, 0, 0, [])), (429, (.lconst 0, 430, false, false, 0, 0, 0, 0, 0, 0, [])), (430, (.lcmp, 431, false, false, 0, 0, 0, 0, 0, 0, [])), (431, (.ifCond .eq 5, 434, false, false, 436, 0, 0, 0, 0, 0, [])), (434, (.iconst 0, 435, false, false, 0, 0, 0, 0, 0, 0, [])), (435, (.ireturn, 436, false, false, 0, 0, 1, 0, 0, 0, [])), (436, (.goto 2337, 439, false, true, 2773, 0, 0, 0, 0, 0, [])), (439, (.aload_n 1, 440, false, false, 1, 0, 0, 0, 0, 0, [])), (440, (.aload_n 0, 441, false, false, 0, 0, 0, 0, 0, 0, [])), (441, (.iload 4, 443, false, false, 4, 0, 0, 0, 0, 0, [])), (443, (.iconst 1, 444, false, false, 0, 0, 0, 0, 1, 0, [])), (444, (.iadd, 445, false, false, 0, 0, 0, 0, 0, 0, []))]),
  (478, [(445, (.iaload, 446, false, false, 0, 0, 2, 0, 0, 0, [])), (446, (.aload_n 0, 447, false, false, 0, 0, 0, 0, 0, 0, [])), (447, (.iload 4, 449, false, false, 4, 0, 0, 0, 0, 0, [])), (449, (.iconst 2, 450, false, false, 0, 0, 0, 0, 2, 0, [])), (450, (.iadd, 451, false, false, 0, 0, 0, 0, 0, 0, [])), (451, (.iaload, 452, false, false, 0, 0, 2, 0, 0, 0, [])), (452, (.aload_n 0, 453, false, false, 0, 0, 0, 0, 0, 0, [])), (453, (.iload 4, 455, false, false, 4, 0, 0, 0, 0, 0, [])), (455, (.iconst 3, 456, false, false, 0, 0, 0, 0, 3, 0, [])), (456, (.iadd, 457, false, false, 0, 0, 0, 0, 0, 0, [])), (457, (.iaload, 458, false, false, 0, 0, 2, 0, 0, 0, [])), (458, (.ifCond .eq 7, 461, false, false, 465, 0, 0, 0, 0, 0, [])), (461, (.iconst 1, 462, false, false, 0, 0, 0, 0, 1, 0, [])), (462, (.goto 4, 465, false, false, 466, 0, 0, 0, 0, 0, [])), (465, (.iconst 0, 466, false, false, 0, 0, 0, 0, 0, 0, [])), (466, (.invokestatic 146, 469, true, false, 36, 4, 1, 3, 0, 0, [])), (469, (.istore 5, 471, false, false, 5, 0, 0, 0, 0, 0, [])), (471, (.aload_n 2, 472, false, false, 2, 0, 0, 0, 0, 0, [])), (472, (.aload_n 0, 473, false, false, 0, 0, 0, 0, 0, 0, [])), (473, (.iload 4, 475, false, false, 4, 0, 0, 0, 0, 0, [])), (475, (.iconst 1, 476, false, false, 0, 0, 0, 0, 1, 0, [])), (476, (.iadd, 477, false, false, 0, 0, 0, 0, 0, 0, [])), (477, (.iaload, 478, false, false, 0, 0, 2, 0, 0, 0, [])), (478, (.aload_n 0, 479, false, false, 0, 0, 0, 0, 0, 0, []))]),
  (517, [(479, (.iload 4, 481, false, false, 4, 0, 0, 0, 0, 0, [])), (481, (.iconst 2, 482, false, false, 0, 0, 0, 0, 2, 0, [])), (482, (.iadd, 483, false, false, 0, 0, 0, 0, 0, 0, [])), (483, (.iaload, 484, false, false, 0, 0, 2, 0, 0, 0, [])), (484, (.aload_n 0, 485, false, false, 0, 0, 0, 0, 0, 0, [])), (485, (.iload 4, 487, false, false, 4, 0, 0, 0, 0, 0, [])), (487, (.iconst 3, 488, false, false, 0, 0, 0, 0, 3, 0, [])), (488, (.iadd, 489, false, false, 0, 0, 0, 0, 0, 0, [])), (489, (.iaload, 490, false, false, 0, 0, 2, 0, 0, 0, [])), (490, (.ifCond .eq 7, 493, false, false, 497, 0, 0, 0, 0, 0, [])), (493, (.iconst 1, 494, false, false, 0, 0, 0, 0, 1, 0, [])), (494, (.goto 4, 497, false, false, 498, 0, 0, 0, 0, 0, [])), (497, (.iconst 0, 498, false, false, 0, 0, 0, 0, 0, 0, [])), (498, (.invokevirtual 149, 501, false, false, 37, 3, 0, 15, 0, 0, [])), (501, (.aload_n 2, 502, false, false, 2, 0, 0, 0, 0, 0, [])), (502, (.invokevirtual 142, 505, false, false, 33, 0, 1, 15, 0, 0, [])), (505, (.iload 5, 507, false, false, 5, 0, 0, 0, 0, 0, [])), (507, (.if_icmp .eq 5, 510, false, false, 512, 0, 0, 0, 0, 0, [])), (510, (.iconst 0, 511, false, false, 0, 0, 0, 0, 0, 0, [])), (511, (.ireturn, 512, false, false, 0, 0, 1, 0, 0, 0, [])), (512, (.goto 2261, 515, false, true, 2773, 0, 0, 0, 0, 0, [])), (515, (.aload_n 1, 516, false, false, 1, 0, 0, 0, 0, 0, [])), (516, (.aload_n 0, 517, false, false, 0, 0, 0, 0, 0, 0, [])), (517, (.iload 4, 519, false, false, 4, 0, 0, 0, 0, 0, []))]),
  (557, [(519, (.iconst 1, 520, false, false, 0, 0, 0, 0, 1, 0, [])), (520, (.iadd, 521, false, false, 0, 0, 0, 0, 0, 0, [])), (521, (.iaload, 522, false, false, 0, 0, 2, 0, 0, 0, [])), (522, (.aload_n 3, 523, false, false, 3, 0, 0, 0, 0, 0, [])), (523, (.invokestatic 150, 526, true, false, 41, 3, 1, 3, 0, 0, [])), (526, (.istore 5, 528, false, false, 5, 0, 0, 0, 0, 0, [])), (528, (.aload_n 2, 529, false, false, 2, 0, 0, 0, 0, 0, [])), (529, (.aload_n 0, 530, false, false, 0, 0, 0, 0, 0, 0, [])), (530, (.iload 4, 532, false, false, 4, 0, 0, 0, 0, 0, [])), (532, (.iconst 1, 533, false, false, 0, 0, 0, 0, 1, 0, [])), (533, (.iadd, 534, false, false, 0, 0, 0, 0, 0, 0, [])), (534, (.iaload, 535, false, false, 0, 0, 2, 0, 0, 0, [])), (535, (.invokevirtual 153, 538, false, false, 44, 1, 1, 15, 0, 0, [])), (538, (.istore 6, 540, false, false, 6, 0, 0, 0, 0, 0, [])), (540, (.aload_n 2, 541, false, false, 2, 0, 0, 0, 0, 0, [])), (541, (.invokevirtual 142, 544, false, false, 33, 0, 1, 15, 0, 0, [])), (544, (.iload 5, 546, false, false, 5, 0, 0, 0, 0, 0, [])), (546, (.if_icmp .eq 5, 549, false, false, 551, 0, 0, 0, 0, 0, [])), (549, (.iconst 0, 550, false, false, 0, 0, 0, 0, 0, 0, [])), (550, (.ireturn, 551, false, false, 0, 0, 1, 0, 0, 0, [])), (551, (.iload 5, 553, false, false, 5, 0, 0, 0, 0, 0, [])), (553, (.ifCond .ne 15, 556, false, false, 568, 0, 0, 0, 0, 0, [])), (556, (.aload_n 3, 557, false, false, 3, 0, 0, 0, 0, 0, [])), (557, (.iconst 0, 558, false, false, 0, 0, 0, 0, 0, 0, []))]),
  (589, [(558, (.laload, 559, false, false, 0, 0, 0, 0, 0, 0, [])), (559, (.iload 6, 561, false, false, 6, 0, 0, 0, 0, 0, [])), (561, (.i2l, 562, false, false, 0, 0, 0, 0, 0, 0, [])), (562, (.lcmp, 563, false, false, 0, 0, 0, 0, 0, 0, [])), (563, (.ifCond .eq 5, 566, false, false, 568, 0, 0, 0, 0, 0, [])), (566, (.iconst 0, 567, false, false, 0, 0, 0, 0, 0, 0, [])), (567, (.ireturn, 568, false, false, 0, 0, 1, 0, 0, 0, [])), (568, (.goto 2205, 571, false, true, 2773, 0, 0, 0, 0, 0, [])), (571, (.aload_n 1, 572, false, false, 1, 0, 0, 0, 0, 0, [])), (572, (.aload_n 0, 573, false, false, 0, 0, 0, 0, 0, 0, [])), (573, (.iload 4, 575, false, false, 4, 0, 0, 0, 0, 0, [])), (575, (.iconst 1, 576, false, false, 0, 0, 0, 0, 1, 0, [])), (576, (.iadd, 577, false, false, 0, 0, 0, 0, 0, 0, [])), (577, (.iaload, 578, false, false, 0, 0, 2, 0, 0, 0, [])), (578, (.aload_n 0, 579, false, false, 0, 0, 0, 0, 0, 0, [])), (579, (.iload 4, 581, false, false, 4, 0, 0, 0, 0, 0, [])), (581, (.iconst 2, 582, false, false, 0, 0, 0, 0, 2, 0, [])), (582, (.iadd, 583, false, false, 0, 0, 0, 0, 0, 0, [])), (583, (.iaload, 584, false, false, 0, 0, 2, 0, 0, 0, [])), (584, (.aload_n 0, 585, false, false, 0, 0, 0, 0, 0, 0, [])), (585, (.iload 4, 587, false, false, 4, 0, 0, 0, 0, 0, [])), (587, (.iconst 3, 588, false, false, 0, 0, 0, 0, 3, 0, [])), (588, (.iadd, 589, false, false, 0, 0, 0, 0, 0, 0, [])), (589, (.iaload, 590, false, false, 0, 0, 2, 0, 0, 0, []))]),
  (624, [(590, (.aload_n 3, 591, false, false, 3, 0, 0, 0, 0, 0, [])), (591, (.invokestatic 154, 594, true, false, 47, 5, 1, 3, 0, 0, [])), (594, (.istore 5, 596, false, false, 5, 0, 0, 0, 0, 0, [])), (596, (.aload_n 2, 597, false, false, 2, 0, 0, 0, 0, 0, [])), (597, (.aload_n 0, 598, false, false, 0, 0, 0, 0, 0, 0, [])), (598, (.iload 4, 600, false, false, 4, 0, 0, 0, 0, 0, [])), (600, (.iconst 1, 601, false, false, 0, 0, 0, 0, 1, 0, [])), (601, (.iadd, 602, false, false, 0, 0, 0, 0, 0, 0, [])), (602, (.iaload, 603, false, false, 0, 0, 2, 0, 0, 0, [])), (603, (.aload_n 0, 604, false, false, 0, 0, 0, 0, 0, 0, [])), (604, (.iload 4, 606, false, false, 4, 0, 0, 0, 0, 0, [])), (606, (.iconst 2, 607, false, false, 0, 0, 0, 0, 2, 0, [])), (607, (.iadd, 608, false, false, 0, 0, 0, 0, 0, 0, [])), (608, (.iaload, 609, false, false, 0, 0, 2, 0, 0, 0, [])), (609, (.aload_n 0, 610, false, false, 0, 0, 0, 0, 0, 0, [])), (610, (.iload 4, 612, false, false, 4, 0, 0, 0, 0, 0, [])), (612, (.iconst 3, 613, false, false, 0, 0, 0, 0, 3, 0, [])), (613, (.iadd, 614, false, false, 0, 0, 0, 0, 0, 0, [])), (614, (.iaload, 615, false, false, 0, 0, 2, 0, 0, 0, [])), (615, (.invokevirtual 157, 618, false, false, 49, 3, 1, 15, 0, 0, [])), (618, (.istore 6, 620, false, false, 6, 0, 0, 0, 0, 0, [])), (620, (.aload_n 2, 621, false, false, 2, 0, 0, 0, 0, 0, [])), (621, (.invokevirtual 142, 624, false, false, 33, 0, 1, 15, 0, 0, [])), (624, (.iload 5, 626, false, false, 5, 0, 0, 0, 0, 0, []))]),
  (661, [(626, (.if_icmp .eq 5, 629, false, false, 631, 0, 0, 0, 0, 0, [])), (629, (.iconst 0, 630, false, false, 0, 0, 0, 0, 0, 0, [])), (630, (.ireturn, 631, false, false, 0, 0, 1, 0, 0, 0, [])), (631, (.iload 5, 633, false, false, 5, 0, 0, 0, 0, 0, [])), (633, (.ifCond .ne 15, 636, false, false, 648, 0, 0, 0, 0, 0, [])), (636, (.aload_n 3, 637, false, false, 3, 0, 0, 0, 0, 0, [])), (637, (.iconst 0, 638, false, false, 0, 0, 0, 0, 0, 0, [])), (638, (.laload, 639, false, false, 0, 0, 0, 0, 0, 0, [])), (639, (.iload 6, 641, false, false, 6, 0, 0, 0, 0, 0, [])), (641, (.i2l, 642, false, false, 0, 0, 0, 0, 0, 0, [])), (642, (.lcmp, 643, false, false, 0, 0, 0, 0, 0, 0, [])), (643, (.ifCond .eq 5, 646, false, false, 648, 0, 0, 0, 0, 0, [])), (646, (.iconst 0, 647, false, false, 0, 0, 0, 0, 0, 0, [])), (647, (.ireturn, 648, false, false, 0, 0, 1, 0, 0, 0, [])), (648, (.goto 2125, 651, false, true, 2773, 0, 0, 0, 0, 0, [])), (651, (.aload_n 1, 652, false, false, 1, 0, 0, 0, 0, 0, [])), (652, (.aload_n 0, 653, false, false, 0, 0, 0, 0, 0, 0, [])), (653, (.iload 4, 655, false, false, 4, 0, 0, 0, 0, 0, [])), (655, (.iconst 1, 656, false, false, 0, 0, 0, 0, 1, 0, [])), (656, (.iadd, 657, false, false, 0, 0, 0, 0, 0, 0, [])), (657, (.iaload, 658, false, false, 0, 0, 2, 0, 0, 0, [])), (658, (.aload_n 0, 659, false, false, 0, 0, 0, 0, 0, 0, [])), (659, (.iload 4, 661, false, false, 4, 0, 0, 0, 0, 0, [])), (661, (.iconst 2, 662, false, false, 0, 0, 0, 0, 2, 0, []))]),
  (692, [(662, (.iadd, 663, false, false, 0, 0, 0, 0, 0, 0, [])), (663, (.iaload, 664, false, false, 0, 0, 2, 0, 0, 0, [])), (664, (.aload_n 0, 665, false, false, 0, 0, 0, 0, 0, 0, [])), (665, (.iload 4, 667, false, false, 4, 0, 0, 0, 0, 0, [])), (667, (.iconst 3, 668, false, false, 0, 0, 0, 0, 3, 0, [])), (668, (.iadd, 669, false, false, 0, 0, 0, 0, 0, 0, [])), (669, (.iaload, 670, false, false, 0, 0, 2, 0, 0, 0, [])), (670, (.aload_n 3, 671, false, false, 3, 0, 0, 0, 0, 0, [])), (671, (.invokestatic 158, 674, true, false, 52, 5, 1, 3, 0, 0, [])), (674, (.istore 5, 676, false, false, 5, 0, 0, 0, 0, 0, [])), (676, (.aload_n 2, 677, false, false, 2, 0, 0, 0, 0, 0, [])), (677, (.aload_n 0, 678, false, false, 0, 0, 0, 0, 0, 0, [])), (678, (.iload 4, 680, false, false, 4, 0, 0, 0, 0, 0, [])), (680, (.iconst 1, 681, false, false, 0, 0, 0, 0, 1, 0, [])), (681, (.iadd, 682, false, false, 0, 0, 0, 0, 0, 0, [])), (682, (.iaload, 683, false, false, 0, 0, 2, 0, 0, 0, [])), (683, (.aload_n 0, 684, false, false, 0, 0, 0, 0, 0, 0, [])), (684, (.iload 4, 686, false, false, 4, 0, 0, 0, 0, 0, [])), (686, (.iconst 2, 687, false, false, 0, 0, 0, 0, 2, 0, [])), (687, (.iadd, 688, false, false, 0, 0, 0, 0, 0, 0, [])), (688, (.iaload, 689, false, false, 0, 0, 2, 0, 0, 0, [])), (689, (.aload_n 0, 690, false, false, 0, 0, 0, 0, 0, 0, [])), (690, (.iload 4, 692, false, false, 4, 0, 0, 0, 0, 0, [])), (692, (.iconst 3, 693, false, false, 0, 0, 0, 0, 3, 0, []))]),
  (732, [(693, (.iadd, 694, false, false, 0, 0, 0, 0, 0, 0, [])), (694, (.iaload, 695, false, false, 0, 0, 2, 0, 0, 0, [])), (695, (.invokevirtual 160, 698, false, false, 54, 3, 1, 15, 0, 0, [])), (698, (.istore 6, 700, false, false, 6, 0, 0, 0, 0, 0, [])), (700, (.aload_n 2, 701, false, false, 2, 0, 0, 0, 0, 0, [])), (701, (.invokevirtual 142, 704, false, false, 33, 0, 1, 15, 0, 0, [])), (704, (.iload 5, 706, false, false, 5, 0, 0, 0, 0, 0, [])), (706, (.if_icmp .eq 5, 709, false, false, 711, 0, 0, 0, 0, 0, [])), (709, (.iconst 0, 710, false, false, 0, 0, 0, 0, 0, 0, [])), (710, (.ireturn, 711, false, false, 0, 0, 1, 0, 0, 0, [])), (711, (.iload 5, 713, false, false, 5, 0, 0, 0, 0, 0, [])), (713, (.ifCond .ne 15, 716, false, false, 728, 0, 0, 0, 0, 0, [])), (716, (.aload_n 3, 717, false, false, 3, 0, 0, 0, 0, 0, [])), (717, (.iconst 0, 718, false, false, 0, 0, 0, 0, 0, 0, [])), (718, (.laload, 719, false, false, 0, 0, 0, 0, 0, 0, [])), (719, (.iload 6, 721, false, false, 6, 0, 0, 0, 0, 0, [])), (721, (.i2l, 722, false, false, 0, 0, 0, 0, 0, 0, [])), (722, (.lcmp, 723, false, false, 0, 0, 0, 0, 0, 0, [])), (723, (.ifCond .eq 5, 726, false, false, 728, 0, 0, 0, 0, 0, [])), (726, (.iconst 0, 727, false, false, 0, 0, 0, 0, 0, 0, [])), (727, (.ireturn, 728, false, false, 0, 0, 1, 0, 0, 0, [])), (728, (.goto 2045, 731, false, true, 2773, 0, 0, 0, 0, 0, [])), (731, (.aload_n 1, 732, false, false, 1, 0, 0, 0, 0, 0, [])), (732, (.aload_n 0, 733, false, false, 0, 0, 0, 0, 0, 0, []))]),
  (761, [(733, (.iload 4, 735, false, false, 4, 0, 0, 0, 0, 0, [])), (735, (.iconst 1, 736, false, false, 0, 0, 0, 0, 1, 0, [])), (736, (.iadd, 737, false, false, 0, 0, 0, 0, 0, 0, [])), (737, (.iaload, 738, false, false, 0, 0, 2, 0, 0, 0, [])), (738, (.aload_n 0, 739, false, false, 0, 0, 0, 0, 0, 0, [])), (739, (.iload 4, 741, false, false, 4, 0, 0, 0, 0, 0, [])), (741, (.iconst 2, 742, false, false, 0, 0, 0, 0, 2, 0, [])), (742, (.iadd, 743, false, false, 0, 0, 0, 0, 0, 0, [])), (743, (.iaload, 744, false, false, 0, 0, 2, 0, 0, 0, [])), (744, (.aload_n 0, 745, false, false, 0, 0, 0, 0, 0, 0, [])), (745, (.iload 4, 747, false, false, 4, 0, 0, 0, 0, 0, [])), (747, (.iconst 3, 748, false, false, 0, 0, 0, 0, 3, 0, [])), (748, (.iadd, 749, false, false, 0, 0, 0, 0, 0, 0, [])), (749, (.iaload, 750, false, false, 0, 0, 2, 0, 0, 0, [])), (750, (.aload_n 0, 751, false, false, 0, 0, 0, 0, 0, 0, [])), (751, (.iload 4, 753, false, false, 4, 0, 0, 0, 0, 0, [])), (753, (.iconst 4, 754, false, false, 0, 0, 0, 0, 4, 0, [])), (754, (.iadd, 755, false, false, 0, 0, 0, 0, 0, 0, [])), (755, (.iaload, 756, false, false, 0, 0, 2, 0, 0, 0, [])), (756, (.aload_n 0, 757, false, false, 0, 0, 0, 0, 0, 0, [])), (757, (.iload 4, 759, false, false, 4, 0, 0, 0, 0, 0, [])), (759, (.iconst 5, 760, false, false, 0, 0, 0, 0, 5, 0, [])), (760, (.iadd, 761, false, false, 0, 0, 0, 0, 0, 0, [])), (761, (.iaload, 762, false, false, 0, 0, 2, 0, 0, 0, []))]),
  (795, [(762, (.ifCond .eq 7, 765, false, false, 769, 0, 0, 0, 0, 0, [])), (765, (.iconst 1, 766, false, false, 0, 0, 0, 0, 1, 0, [])), (766, (.goto 4, 769, false, false, 770, 0, 0, 0, 0, 0, [])), (769, (.iconst 0, 770, false, false, 0, 0, 0, 0, 0, 0, [])), (770, (.aload_n 3, 771, false, false, 3, 0, 0, 0, 0, 0, [])), (771, (.invokestatic 161, 774, true, false, 111, 7, 1, 3, 0, 0, [])), (774, (.istore 5, 776, false, false, 5, 0, 0, 0, 0, 0, [])), (776, (.aload_n 2, 777, false, false, 2, 0, 0, 0, 0, 0, [])), (777, (.aload_n 0, 778, false, false, 0, 0, 0, 0, 0, 0, [])), (778, (.iload 4, 780, false, false, 4, 0, 0, 0, 0, 0, [])), (780, (.iconst 1, 781, false, false, 0, 0, 0, 0, 1, 0, [])), (781, (.iadd, 782, false, false, 0, 0, 0, 0, 0, 0, [])), (782, (.iaload, 783, false, false, 0, 0, 2, 0, 0, 0, [])), (783, (.aload_n 0, 784, false, false, 0, 0, 0, 0, 0, 0, [])), (784, (.iload 4, 786, false, false, 4, 0, 0, 0, 0, 0, [])), (786, (.iconst 2, 787, false, false, 0, 0, 0, 0, 2, 0, [])), (787, (.iadd, 788, false, false, 0, 0, 0, 0, 0, 0, [])), (788, (.iaload, 789, false, false, 0, 0, 2, 0, 0, 0, [])), (789, (.aload_n 0, 790, false, false, 0, 0, 0, 0, 0, 0, [])), (790, (.iload 4, 792, false, false, 4, 0, 0, 0, 0, 0, [])), (792, (.iconst 3, 793, false, false, 0, 0, 0, 0, 3, 0, [])), (793, (.iadd, 794, false, false, 0, 0, 0, 0, 0, 0, [])), (794, (.iaload, 795, false, false, 0, 0, 2, 0, 0, 0, [])), (795, (.aload_n 0, 796, false, false, 0, 0, 0, 0, 0, 0, []))]),
  (836, [(796, (.iload 4, 798, false, false, 4, 0, 0, 0, 0, 0, [])), (798, (.iconst 4, 799, false, false, 0, 0, 0, 0, 4, 0, [])), (799, (.iadd, 800, false, false, 0, 0, 0, 0, 0, 0, [])), (800, (.iaload, 801, false, false, 0, 0, 2, 0, 0, 0, [])), (801, (.aload_n 0, 802, false, false, 0, 0, 0, 0, 0, 0, [])), (802, (.iload 4, 804, false, false, 4, 0, 0, 0, 0, 0, [])), (804, (.iconst 5, 805, false, false, 0, 0, 0, 0, 5, 0, [])), (805, (.iadd, 806, false, false, 0, 0, 0, 0, 0, 0, [])), (806, (.iaload, 807, false, false, 0, 0, 2, 0, 0, 0, [])), (807, (.ifCond .eq 7, 810, false, false, 814, 0, 0, 0, 0, 0, [])), (810, (.iconst 1, 811, false, false, 0, 0, 0, 0, 1, 0, [])), (811, (.goto 4, 814, false, true, 815, 0, 0, 0, 0, 0, [])), (814, (.iconst 0, 815, true, false, 0, 0, 0, 0, 0, 0, [])), (815, (.invokevirtual 164, 818, false, false, 155, 5, 1, 15, 0, 0, [])), (818, (.istore 6, 820, false, false, 6, 0, 0, 0, 0, 0, [])), (820, (.aload_n 2, 821, false, false, 2, 0, 0, 0, 0, 0, [])), (821, (.invokevirtual 142, 824, false, false, 33, 0, 1, 15, 0, 0, [])), (824, (.iload 5, 826, false, false, 5, 0, 0, 0, 0, 0, [])), (826, (.if_icmp .eq 5, 829, false, false, 831, 0, 0, 0, 0, 0, [])), (829, (.iconst 0, 830, false, false, 0, 0, 0, 0, 0, 0, [])), (830, (.ireturn, 831, false, false, 0, 0, 1, 0, 0, 0, [])), (831, (.iload 5, 833, false, false, 5, 0, 0, 0, 0, 0, [])), (833, (.ifCond .ne 15, 836, false, false, 848, 0, 0, 0, 0, 0, [])), (836, (.aload_n 3, 837, false, false, 3, 0, 0, 0, 0, 0, []))]),
  (868, [(837, (.iconst 0, 838, false, false, 0, 0, 0, 0, 0, 0, [])), (838, (.laload, 839, false, false, 0, 0, 0, 0, 0, 0, [])), (839, (.iload 6, 841, false, false, 6, 0, 0, 0, 0, 0, [])), (841, (.i2l, 842, false, false, 0, 0, 0, 0, 0, 0, [])), (842, (.lcmp, 843, false, false, 0, 0, 0, 0, 0, 0, [])), (843, (.ifCond .eq 5, 846, false, false, 848, 0, 0, 0, 0, 0, [])), (846, (.iconst 0, 847, false, false, 0, 0, 0, 0, 0, 0, [])), (847, (.ireturn, 848, false, false, 0, 0, 1, 0, 0, 0, [])), (848, (.goto 1925, 851, false, true, 2773, 0, 0, 0, 0, 0, [])), (851, (.aload_n 1, 852, false, false, 1, 0, 0, 0, 0, 0, [])), (852, (.aload_n 0, 853, false, false, 0, 0, 0, 0, 0, 0, [])), (853, (.iload 4, 855, false, false, 4, 0, 0, 0, 0, 0, [])), (855, (.iconst 1, 856, false, false, 0, 0, 0, 0, 1, 0, [])), (856, (.iadd, 857, false, false, 0, 0, 0, 0, 0, 0, [])), (857, (.iaload, 858, false, false, 0, 0, 2, 0, 0, 0, [])), (858, (.aload_n 0, 859, false, false, 0, 0, 0, 0, 0, 0, [])), (859, (.iload 4, 861, false, false, 4, 0, 0, 0, 0, 0, [])), (861, (.iconst 2, 862, false, false, 0, 0, 0, 0, 2, 0, [])), (862, (.iadd, 863, false, false, 0, 0, 0, 0, 0, 0, [])), (863, (.iaload, 864, false, false, 0, 0, 2, 0, 0, 0, [])), (864, (.aload_n 0, 865, false, false, 0, 0, 0, 0, 0, 0, [])), (865, (.iload 4, 867, false, false, 4, 0, 0, 0, 0, 0, [])), (867, (.iconst 3, 868, false, false, 0, 0, 0, 0, 3, 0, [])), (868, (.iadd, 869, false, false, 0, 0, 0, 0, 0, 0, []))]),
  (899, [(869, (.iaload, 870, false, false, 0, 0, 2, 0, 0, 0, [])), (870, (.aload_n 0, 871, false, false, 0, 0, 0, 0, 0, 0, [])), (871, (.iload 4, 873, false, false, 4, 0, 0, 0, 0, 0, [])), (873, (.iconst 4, 874, false, false, 0, 0, 0, 0, 4, 0, [])), (874, (.iadd, 875, false, false, 0, 0, 0, 0, 0, 0, [])), (875, (.iaload, 876, false, false, 0, 0, 2, 0, 0, 0, [])), (876, (.aload_n 0, 877, false, false, 0, 0, 0, 0, 0, 0, [])), (877, (.iload 4, 879, false, false, 4, 0, 0, 0, 0, 0, [])), (879, (.iconst 5, 880, false, false, 0, 0, 0, 0, 5, 0, [])), (880, (.iadd, 881, false, false, 0, 0, 0, 0, 0, 0, [])), (881, (.iaload, 882, false, false, 0, 0, 2, 0, 0, 0, [])), (882, (.aload_n 3, 883, false, false, 3, 0, 0, 0, 0, 0, [])), (883, (.invokestatic 165, 886, true, false, 158, 7, 1, 3, 0, 0, [])), (886, (.istore 5, 888, false, false, 5, 0, 0, 0, 0, 0, [])), (888, (.aload_n 2, 889, false, false, 2, 0, 0, 0, 0, 0, [])), (889, (.aload_n 0, 890, false, false, 0, 0, 0, 0, 0, 0, [])), (890, (.iload 4, 892, false, false, 4, 0, 0, 0, 0, 0, [])), (892, (.iconst 1, 893, false, false, 0, 0, 0, 0, 1, 0, [])), (893, (.iadd, 894, false, false, 0, 0, 0, 0, 0, 0, [])), (894, (.iaload, 895, false, false, 0, 0, 2, 0, 0, 0, [])), (895, (.aload_n 0, 896, false, false, 0, 0, 0, 0, 0, 0, [])), (896, (.iload 4, 898, false, false, 4, 0, 0, 0, 0, 0, [])), (898, (.iconst 2, 899, false, false, 0, 0, 0, 0, 2, 0, [])), (899, (.iadd, 900, false, false, 0, 0, 0, 0, 0, 0, []))]),
  (934, [(900, (.iaload, 901, false, false, 0, 0, 2, 0, 0, 0, [])), (901, (.aload_n 0, 902, false, false, 0, 0, 0, 0, 0, 0, [])), (902, (.iload 4, 904, false, false, 4, 0, 0, 0, 0, 0, [])), (904, (.iconst 3, 905, false, false, 0, 0, 0, 0, 3, 0, [])), (905, (.iadd, 906, false, false, 0, 0, 0, 0, 0, 0, [])), (906, (.iaload, 907, false, false, 0, 0, 2, 0, 0, 0, [])), (907, (.aload_n 0, 908, false, false, 0, 0, 0, 0, 0, 0, [])), (908, (.iload 4, 910, false, false, 4, 0, 0, 0, 0, 0, [])), (910, (.iconst 4, 911, false, false, 0, 0, 0, 0, 4, 0, [])), (911, (.iadd, 912, false, false, 0, 0, 0, 0, 0, 0, [])), (912, (.iaload, 913, false, false, 0, 0, 2, 0, 0, 0, [])), (913, (.aload_n 0, 914, false, false, 0, 0, 0, 0, 0, 0, [])), (914, (.iload 4, 916, false, false, 4, 0, 0, 0, 0, 0, [])), (916, (.iconst 5, 917, false, false, 0, 0, 0, 0, 5, 0, [])), (917, (.iadd, 918, false, false, 0, 0, 0, 0, 0, 0, [])), (918, (.iaload, 919, false, false, 0, 0, 2, 0, 0, 0, [])), (919, (.invokevirtual 168, 922, false, false, 159, 5, 1, 15, 0, 0, [])), (922, (.istore 6, 924, true, false, 6, 0, 0, 0, 0, 0, [])), (924, (.aload_n 2, 925, false, false, 2, 0, 0, 0, 0, 0, [])), (925, (.invokevirtual 142, 928, false, false, 33, 0, 1, 15, 0, 0, [])), (928, (.iload 5, 930, false, false, 5, 0, 0, 0, 0, 0, [])), (930, (.if_icmp .eq 5, 933, false, false, 935, 0, 0, 0, 0, 0, [])), (933, (.iconst 0, 934, false, false, 0, 0, 0, 0, 0, 0, [])), (934, (.ireturn, 935, false, false, 0, 0, 1, 0, 0, 0, []))]),
  (968, [(935, (.iload 5, 937, false, false, 5, 0, 0, 0, 0, 0, [])), (937, (.ifCond .ne 15, 940, false, false, 952, 0, 0, 0, 0, 0, [])), (940, (.aload_n 3, 941, false, false, 3, 0, 0, 0, 0, 0, [])), (941, (.iconst 0, 942, false, false, 0, 0, 0, 0, 0, 0, [])), (942, (.laload, 943, false, false, 0, 0, 0, 0, 0, 0, [])), (943, (.iload 6, 945, false, false, 6, 0, 0, 0, 0, 0, [])), (945, (.i2l, 946, false, false, 0, 0, 0, 0, 0, 0, [])), (946, (.lcmp, 947, false, false, 0, 0, 0, 0, 0, 0, [])), (947, (.ifCond .eq 5, 950, false, false, 952, 0, 0, 0, 0, 0, [])), (950, (.iconst 0, 951, false, false, 0, 0, 0, 0, 0, 0, [])), (951, (.ireturn, 952, false, false, 0, 0, 1, 0, 0, 0, [])), (952, (.goto 1821, 955, false, true, 2773, 0, 0, 0, 0, 0, [])), (955, (.aload_n 1, 956, false, false, 1, 0, 0, 0, 0, 0, [])), (956, (.aload_n 0, 957, false, false, 0, 0, 0, 0, 0, 0, [])), (957, (.iload 4, 959, false, false, 4, 0, 0, 0, 0, 0, [])), (959, (.iconst 1, 960, false, false, 0, 0, 0, 0, 1, 0, [])), (960, (.iadd, 961, false, false, 0, 0, 0, 0, 0, 0, [])), (961, (.iaload, 962, false, false, 0, 0, 2, 0, 0, 0, [])), (962, (.aload_n 0, 963, false, false, 0, 0, 0, 0, 0, 0, [])), (963, (.iload 4, 965, false, false, 4, 0, 0, 0, 0, 0, [])), (965, (.iconst 2, 966, false, false, 0, 0, 0, 0, 2, 0, [])), (966, (.iadd, 967, false, false, 0, 0, 0, 0, 0, 0, [])), (967, (.iaload, 968, false, false, 0, 0, 2, 0, 0, 0, [])), (968, (.aload_n 3, 969, false, false, 3, 0, 0, 0, 0, 0, []))]),
  (1008, [(969, (.invokestatic 169, 972, true, false, 164, 4, 1, 3, 0, 0, [])), (972, (.istore 5, 974, false, false, 5, 0, 0, 0, 0, 0, [])), (974, (.aload_n 2, 975, false, false, 2, 0, 0, 0, 0, 0, [])), (975, (.aload_n 0, 976, false, false, 0, 0, 0, 0, 0, 0, [])), (976, (.iload 4, 978, false, false, 4, 0, 0, 0, 0, 0, [])), (978, (.iconst 1, 979, false, false, 0, 0, 0, 0, 1, 0, [])), (979, (.iadd, 980, false, false, 0, 0, 0, 0, 0, 0, [])), (980, (.iaload, 981, false, false, 0, 0, 2, 0, 0, 0, [])), (981, (.aload_n 0, 982, false, false, 0, 0, 0, 0, 0, 0, [])), (982, (.iload 4, 984, false, false, 4, 0, 0, 0, 0, 0, [])), (984, (.iconst 2, 985, false, false, 0, 0, 0, 0, 2, 0, [])), (985, (.iadd, 986, false, false, 0, 0, 0, 0, 0, 0, [])), (986, (.iaload, 987, false, false, 0, 0, 2, 0, 0, 0, [])), (987, (.invokevirtual 172, 990, false, false, 167, 2, 1, 15, 0, 0, [])), (990, (.istore 6, 992, false, false, 6, 0, 0, 0, 0, 0, [])), (992, (.aload_n 2, 993, false, false, 2, 0, 0, 0, 0, 0, [])), (993, (.invokevirtual 142, 996, false, false, 33, 0, 1, 15, 0, 0, [])), (996, (.iload 5, 998, false, false, 5, 0, 0, 0, 0, 0, [])), (998, (.if_icmp .eq 5, 1001, false, false, 1003, 0, 0, 0, 0, 0, [])), (1001, (.iconst 0, 1002, false, false, 0, 0, 0, 0, 0, 0, [])), (1002, (.ireturn, 1003, false, false, 0, 0, 1, 0, 0, 0, [])), (1003, (.iload 5, 1005, false, false, 5, 0, 0, 0, 0, 0, [])), (1005, (.ifCond .ne 22, 1008, false, false, 1027, 0, 0, 0, 0, 0, [])), (1008, (.aload_n 3, 1009, false, false, 3, 0, 0, 0, 0, 0, []))]),
  (1045, [(1009, (.iconst 0, 1010, false, false, 0, 0, 0, 0, 0, 0, [])), (1010, (.laload, 1011, false, false, 0, 0, 0, 0, 0, 0, [])), (1011, (.iload 6, 1013, false, false, 6, 0, 0, 0, 0, 0, [])), (1013, (.ifCond .eq 7, 1016, false, false, 1020, 0, 0, 0, 0, 0, [])), (1016, (.lconst 1, 1017, false, false, 0, 0, 0, 0, 0, 1, [])), (1017, (.goto 4, 1020, false, false, 1021, 0, 0, 0, 0, 0, [])), (1020, (.lconst 0, 1021, false, false, 0, 0, 0, 0, 0, 0, [])), (1021, (.lcmp, 1022, false, false, 0, 0, 0, 0, 0, 0, [])), (1022, (.ifCond .eq 5, 1025, false, false, 1027, 0, 0, 0, 0, 0, [])), (1025, (.iconst 0, 1026, false, false, 0, 0, 0, 0, 0, 0, [])), (1026, (.ireturn, 1027, false, false, 0, 0, 1, 0, 0, 0, [])), (1027, (.goto 1746, 1030, false, true, 2773, 0, 0, 0, 0, 0, [])), (1030, (.aload_n 1, 1031, false, false, 1, 0, 0, 0, 0, 0, [])), (1031, (.aload_n 0, 1032, false, false, 0, 0, 0, 0, 0, 0, [])), (1032, (.iload 4, 1034, false, false, 4, 0, 0, 0, 0, 0, [])), (1034, (.iconst 1, 1035, false, false, 0, 0, 0, 0, 1, 0, [])), (1035, (.iadd, 1036, false, false, 0, 0, 0, 0, 0, 0, [])), (1036, (.iaload, 1037, false, false, 0, 0, 2, 0, 0, 0, [])), (1037, (.aload_n 3, 1038, false, false, 3, 0, 0, 0, 0, 0, [])), (1038, (.invokestatic 173, 1041, true, false, 170, 3, 1, 3, 0, 0, [])), (1041, (.istore 5, 1043, false, false, 5, 0, 0, 0, 0, 0, [])), (1043, (.aload_n 2, 1044, false, false, 2, 0, 0, 0, 0, 0, [])), (1044, (.aload_n 0, 1045, false, false, 0, 0, 0, 0, 0, 0, [])), (1045, (.iload 4, 1047, false, false, 4, 0, 0, 0, 0, 0, []))]),
  (1088, [(1047, (.iconst 1, 1048, false, false, 0, 0, 0, 0, 1, 0, [])), (1048, (.iadd, 1049, false, false, 0, 0, 0, 0, 0, 0, [])), (1049, (.iaload, 1050, false, false, 0, 0, 2, 0, 0, 0, [])), (1050, (.invokevirtual 175, 1053, false, false, 173, 1, 1, 15, 0, 0, [])), (1053, (.istore 6, 1055, false, false, 6, 0, 0, 0, 0, 0, [])), (1055, (.aload_n 2, 1056, false, false, 2, 0, 0, 0, 0, 0, [])), (1056, (.invokevirtual 142, 1059, false, false, 33, 0, 1, 15, 0, 0, [])), (1059, (.iload 5, 1061, false, false, 5, 0, 0, 0, 0, 0, [])), (1061, (.if_icmp .eq 5, 1064, false, false, 1066, 0, 0, 0, 0, 0, [])), (1064, (.iconst 0, 1065, false, false, 0, 0, 0, 0, 0, 0, [])), (1065, (.ireturn, 1066, false, false, 0, 0, 1, 0, 0, 0, [])), (1066, (.iload 5, 1068, false, false, 5, 0, 0, 0, 0, 0, [])), (1068, (.ifCond .ne 22, 1071, false, false, 1090, 0, 0, 0, 0, 0, [])), (1071, (.aload_n 3, 1072, false, false, 3, 0, 0, 0, 0, 0, [])), (1072, (.iconst 0, 1073, false, false, 0, 0, 0, 0, 0, 0, [])), (1073, (.laload, 1074, false, false, 0, 0, 0, 0, 0, 0, [])), (1074, (.iload 6, 1076, false, false, 6, 0, 0, 0, 0, 0, [])), (1076, (.ifCond .eq 7, 1079, false, false, 1083, 0, 0, 0, 0, 0, [])), (1079, (.lconst 1, 1080, false, false, 0, 0, 0, 0, 0, 1, [])), (1080, (.goto 4, 1083, false, false, 1084, 0, 0, 0, 0, 0, [])), (1083, (.lconst 0, 1084, false, false, 0, 0, 0, 0, 0, 0, [])), (1084, (.lcmp, 1085, false, false, 0, 0, 0, 0, 0, 0, [])), (1085, (.ifCond .eq 5, 1088, false, false, 1090, 0, 0, 0, 0, 0, [])), (1088, (.iconst 0, 1089, false, false, 0, 0, 0, 0, 0, 0, []))]),
  (1127, [(1089, (.ireturn, 1090, false, false, 0, 0, 1, 0, 0, 0, [])), (1090, (.goto 1683, 1093, false, true, 2773, 0, 0, 0, 0, 0, [])), (1093, (.aload_n 1, 1094, false, false, 1, 0, 0, 0, 0, 0, [])), (1094, (.aload_n 0, 1095, false, false, 0, 0, 0, 0, 0, 0, [])), (1095, (.iload 4, 1097, false, false, 4, 0, 0, 0, 0, 0, [])), (1097, (.iconst 1, 1098, false, false, 0, 0, 0, 0, 1, 0, [])), (1098, (.iadd, 1099, false, false, 0, 0, 0, 0, 0, 0, [])), (1099, (.iaload, 1100, false, false, 0, 0, 2, 0, 0, 0, [])), (1100, (.aload_n 3, 1101, false, false, 3, 0, 0, 0, 0, 0, [])), (1101, (.invokestatic 176, 1104, true, false, 177, 3, 1, 3, 0, 0, [])), (1104, (.istore 5, 1106, false, false, 5, 0, 0, 0, 0, 0, [])), (1106, (.aload_n 2, 1107, false, false, 2, 0, 0, 0, 0, 0, [])), (1107, (.aload_n 0, 1108, false, false, 0, 0, 0, 0, 0, 0, [])), (1108, (.iload 4, 1110, false, false, 4, 0, 0, 0, 0, 0, [])), (1110, (.iconst 1, 1111, false, false, 0, 0, 0, 0, 1, 0, [])), (1111, (.iadd, 1112, false, false, 0, 0, 0, 0, 0, 0, [])), (1112, (.iaload, 1113, false, false, 0, 0, 2, 0, 0, 0, [])), (1113, (.invokevirtual 178, 1116, false, false, 180, 1, 1, 15, 0, 0, [])), (1116, (.istore 6, 1118, false, false, 6, 0, 0, 0, 0, 0, [])), (1118, (.aload_n 2, 1119, false, false, 2, 0, 0, 0, 0, 0, [])), (1119, (.invokevirtual 142, 1122, false, false, 33, 0, 1, 15, 0, 0, [])), (1122, (.iload 5, 1124, false, false, 5, 0, 0, 0, 0, 0, [])), (1124, (.if_icmp .eq 5, 1127, false, false, 1129, 0, 0, 0, 0, 0, [])), (1127, (.iconst 0, 1128, false, false, 0, 0, 0, 0, 0, 0, []))]),
  (1163, [(1128, (.ireturn, 1129, false, false, 0, 0, 1, 0, 0, 0, [])), (1129, (.iload 5, 1131, false, false, 5, 0, 0, 0, 0, 0, [])), (1131, (.ifCond .ne 15, 1134, false, false, 1146, 0, 0, 0, 0, 0, [])), (1134, (.aload_n 3, 1135, false, false, 3, 0, 0, 0, 0, 0, [])), (1135, (.iconst 0, 1136, false, false, 0, 0, 0, 0, 0, 0, [])), (1136, (.laload, 1137, false, false, 0, 0, 0, 0, 0, 0, [])), (1137, (.iload 6, 1139, false, false, 6, 0, 0, 0, 0, 0, [])), (1139, (.i2l, 1140, false, false, 0, 0, 0, 0, 0, 0, [])), (1140, (.lcmp, 1141, false, false, 0, 0, 0, 0, 0, 0, [])), (1141, (.ifCond .eq 5, 1144, false, false, 1146, 0, 0, 0, 0, 0, [])), (1144, (.iconst 0, 1145, false, false, 0, 0, 0, 0, 0, 0, [])), (1145, (.ireturn, 1146, false, false, 0, 0, 1, 0, 0, 0, [])), (1146, (.goto 1627, 1149, false, true, 2773, 0, 0, 0, 0, 0, [])), (1149, (.aload_n 1, 1150, false, false, 1, 0, 0, 0, 0, 0, [])), (1150, (.aload_n 0, 1151, false, false, 0, 0, 0, 0, 0, 0, [])), (1151, (.iload 4, 1153, false, false, 4, 0, 0, 0, 0, 0, [])), (1153, (.iconst 1, 1154, false, false, 0, 0, 0, 0, 1, 0, [])), (1154, (.iadd, 1155, false, false, 0, 0, 0, 0, 0, 0, [])), (1155, (.iaload, 1156, false, false, 0, 0, 2, 0, 0, 0, [])), (1156, (.aload_n 3, 1157, false, false, 3, 0, 0, 0, 0, 0, [])), (1157, (.invokestatic 179, 1160, true, false, 230, 3, 1, 3, 0, 0, [])), (1160, (.istore 5, 1162, false, false, 5, 0, 0, 0, 0, 0, [])), (1162, (.aload_n 2, 1163, false, false, 2, 0, 0, 0, 0, 0, [])), (1163, (.aload_n 0, 1164, false, false, 0, 0, 0, 0, 0, 0, []))]),
  (1202, [(1164, (.iload 4, 1166, false, false, 4, 0, 0, 0, 0, 0, [])), (1166, (.iconst 1, 1167, false, false, 0, 0, 0, 0, 1, 0, [])), (1167, (.iadd, 1168, false, false, 0, 0, 0, 0, 0, 0, [])), (1168, (.iaload, 1169, false, false, 0, 0, 2, 0, 0, 0, [])), (1169, (.invokevirtual 181, 1172, false, false, 256, 1, 1, 15, 0, 0, [])), (1172, (.istore 6, 1174, false, false, 6, 0, 0, 0, 0, 0, [])), (1174, (.aload_n 2, 1175, false, false, 2, 0, 0, 0, 0, 0, [])), (1175, (.invokevirtual 142, 1178, false, false, 33, 0, 1, 15, 0, 0, [])), (1178, (.iload 5, 1180, false, false, 5, 0, 0, 0, 0, 0, [])), (1180, (.if_icmp .eq 5, 1183, false, false, 1185, 0, 0, 0, 0, 0, [])), (1183, (.iconst 0, 1184, false, false, 0, 0, 0, 0, 0, 0, [])), (1184, (.ireturn, 1185, false, false, 0, 0, 1, 0, 0, 0, [])), (1185, (.iload 5, 1187, false, false, 5, 0, 0, 0, 0, 0, [])), (1187, (.ifCond .ne 15, 1190, false, false, 1202, 0, 0, 0, 0, 0, [])), (1190, (.aload_n 3, 1191, false, false, 3, 0, 0, 0, 0, 0, [])), (1191, (.iconst 0, 1192, false, false, 0, 0, 0, 0, 0, 0, [])), (1192, (.laload, 1193, false, false, 0, 0, 0, 0, 0, 0, [])), (1193, (.iload 6, 1195, false, false, 6, 0, 0, 0, 0, 0, [])), (1195, (.i2l, 1196, false, false, 0, 0, 0, 0, 0, 0, [])), (1196, (.lcmp, 1197, false, false, 0, 0, 0, 0, 0, 0, [])), (1197, (.ifCond .eq 5, 1200, false, false, 1202, 0, 0, 0, 0, 0, [])), (1200, (.iconst 0, 1201, false, false, 0, 0, 0, 0, 0, 0, [])), (1201, (.ireturn, 1202, false, false, 0, 0, 1, 0, 0, 0, [])), (1202, (.goto 1571, 1205, false, true, 2773, 0, 0, 0, 0, 0, []))]),
  (1235, [(1205, (.aload_n 1, 1206, false, false, 1, 0, 0, 0, 0, 0, [])), (1206, (.aload_n 0, 1207, false, false, 0, 0, 0, 0, 0, 0, [])), (1207, (.iload 4, 1209, false, false, 4, 0, 0, 0, 0, 0, [])), (1209, (.iconst 1, 1210, false, false, 0, 0, 0, 0, 1, 0, [])), (1210, (.iadd, 1211, false, false, 0, 0, 0, 0, 0, 0, [])), (1211, (.iaload, 1212, false, false, 0, 0, 2, 0, 0, 0, [])), (1212, (.aload_n 0, 1213, false, false, 0, 0, 0, 0, 0, 0, [])), (1213, (.iload 4, 1215, false, false, 4, 0, 0, 0, 0, 0, [])), (1215, (.iconst 2, 1216, false, false, 0, 0, 0, 0, 2, 0, [])), (1216, (.iadd, 1217, false, false, 0, 0, 0, 0, 0, 0, [])), (1217, (.iaload, 1218, false, false, 0, 0, 2, 0, 0, 0, [])), (1218, (.aload_n 3, 1219, false, false, 3, 0, 0, 0, 0, 0, [])), (1219, (.invokestatic 182, 1222, true, false, 261, 4, 1, 3, 0, 0, [])), (1222, (.istore 5, 1224, false, false, 5, 0, 0, 0, 0, 0, [])), (1224, (.aload_n 2, 1225, false, false, 2, 0, 0, 0, 0, 0, [])), (1225, (.aload_n 0, 1226, false, false, 0, 0, 0, 0, 0, 0, [])), (1226, (.iload 4, 1228, false, false, 4, 0, 0, 0, 0, 0, [])), (1228, (.iconst 1, 1229, false, false, 0, 0, 0, 0, 1, 0, [])), (1229, (.iadd, 1230, false, false, 0, 0, 0, 0, 0, 0, [])), (1230, (.iaload, 1231, false, false, 0, 0, 2, 0, 0, 0, [])), (1231, (.aload_n 0, 1232, false, false, 0, 0, 0, 0, 0, 0, [])), (1232, (.iload 4, 1234, false, false, 4, 0, 0, 0, 0, 0, [])), (1234, (.iconst 2, 1235, false, false, 0, 0, 0, 0, 2, 0, [])), (1235, (.iadd, 1236, false, false, 0, 0, 0, 0, 0, 0, []))]),
  (1275, [(1236, (.iaload, 1237, false, false, 0, 0, 2, 0, 0, 0, [])), (1237, (.invokevirtual 184, 1240, false, false, 263, 2, 1, 15, 0, 0, [])), (1240, (.istore 6, 1242, false, false, 6, 0, 0, 0, 0, 0, [])), (1242, (.aload_n 2, 1243, false, false, 2, 0, 0, 0, 0, 0, [])), (1243, (.invokevirtual 142, 1246, false, false, 33, 0, 1, 15, 0, 0, [])), (1246, (.iload 5, 1248, false, false, 5, 0, 0, 0, 0, 0, [])), (1248, (.if_icmp .eq 5, 1251, false, false, 1253, 0, 0, 0, 0, 0, [])), (1251, (.iconst 0, 1252, false, false, 0, 0, 0, 0, 0, 0, [])), (1252, (.ireturn, 1253, false, false, 0, 0, 1, 0, 0, 0, [])), (1253, (.iload 5, 1255, false, false, 5, 0, 0, 0, 0, 0, [])), (1255, (.ifCond .ne 15, 1258, false, false, 1270, 0, 0, 0, 0, 0, [])), (1258, (.aload_n 3, 1259, false, false, 3, 0, 0, 0, 0, 0, [])), (1259, (.iconst 0, 1260, false, false, 0, 0, 0, 0, 0, 0, [])), (1260, (.laload, 1261, false, false, 0, 0, 0, 0, 0, 0, [])), (1261, (.iload 6, 1263, false, false, 6, 0, 0, 0, 0, 0, [])), (1263, (.i2l, 1264, false, false, 0, 0, 0, 0, 0, 0, [])), (1264, (.lcmp, 1265, false, false, 0, 0, 0, 0, 0, 0, [])), (1265, (.ifCond .eq 5, 1268, false, false, 1270, 0, 0, 0, 0, 0, [])), (1268, (.iconst 0, 1269, false, false, 0, 0, 0, 0, 0, 0, [])), (1269, (.ireturn, 1270, false, false, 0, 0, 1, 0, 0, 0, [])), (1270, (.goto 1503, 1273, false, true, 2773, 0, 0, 0, 0, 0, [])), (1273, (.aload_n 1, 1274, false, false, 1, 0, 0, 0, 0, 0, [])), (1274, (.aload_n 0, 1275, false, false, 0, 0, 0, 0, 0, 0, [])), (1275, (.iload 4, 1277, false, false, 4, 0, 0, 0, 0, 0, []))]),
  (1308, [(1277, (.iconst 1, 1278, false, false, 0, 0, 0, 0, 1, 0, [])), (1278, (.iadd, 1279, false, false, 0, 0, 0, 0, 0, 0, [])), (1279, (.iaload, 1280, false, false, 0, 0, 2, 0, 0, 0, [])), (1280, (.aload_n 0, 1281, false, false, 0, 0, 0, 0, 0, 0, [])), (1281, (.iload 4, 1283, false, false, 4, 0, 0, 0, 0, 0, [])), (1283, (.iconst 2, 1284, false, false, 0, 0, 0, 0, 2, 0, [])), (1284, (.iadd, 1285, false, false, 0, 0, 0, 0, 0, 0, [])), (1285, (.iaload, 1286, false, false, 0, 0, 2, 0, 0, 0, [])), (1286, (.aload_n 3, 1287, false, false, 3, 0, 0, 0, 0, 0, [])), (1287, (.invokestatic 185, 1290, true, false, 265, 4, 1, 3, 0, 0, [])), (1290, (.istore 5, 1292, false, false, 5, 0, 0, 0, 0, 0, [])), (1292, (.aload_n 2, 1293, false, false, 2, 0, 0, 0, 0, 0, [])), (1293, (.aload_n 0, 1294, false, false, 0, 0, 0, 0, 0, 0, [])), (1294, (.iload 4, 1296, false, false, 4, 0, 0, 0, 0, 0, [])), (1296, (.iconst 1, 1297, false, false, 0, 0, 0, 0, 1, 0, [])), (1297, (.iadd, 1298, false, false, 0, 0, 0, 0, 0, 0, [])), (1298, (.iaload, 1299, false, false, 0, 0, 2, 0, 0, 0, [])), (1299, (.aload_n 0, 1300, false, false, 0, 0, 0, 0, 0, 0, [])), (1300, (.iload 4, 1302, false, false, 4, 0, 0, 0, 0, 0, [])), (1302, (.iconst 2, 1303, false, false, 0, 0, 0, 0, 2, 0, [])), (1303, (.iadd, 1304, false, false, 0, 0, 0, 0, 0, 0, [])), (1304, (.iaload, 1305, false, false, 0, 0, 2, 0, 0, 0, [])), (1305, (.invokevirtual 187, 1308, false, false, 266, 2, 1, 15, 0, 0, [])), (1308, (.istore 6, 1310, false, false, 6, 0, 0, 0, 0, 0, []))]),
  (1347, [(1310, (.aload_n 2, 1311, false, false, 2, 0, 0, 0, 0, 0, [])), (1311, (.invokevirtual 142, 1314, false, false, 33, 0, 1, 15, 0, 0, [])), (1314, (.iload 5, 1316, false, false, 5, 0, 0, 0, 0, 0, [])), (1316, (.if_icmp .eq 5, 1319, false, false, 1321, 0, 0, 0, 0, 0, [])), (1319, (.iconst 0, 1320, false, false, 0, 0, 0, 0, 0, 0, [])), (1320, (.ireturn, 1321, false, false, 0, 0, 1, 0, 0, 0, [])), (1321, (.iload 5, 1323, false, false, 5, 0, 0, 0, 0, 0, [])), (1323, (.ifCond .ne 15, 1326, false, false, 1338, 0, 0, 0, 0, 0, [])), (1326, (.aload_n 3, 1327, false, false, 3, 0, 0, 0, 0, 0, [])), (1327, (.iconst 0, 1328, false, false, 0, 0, 0, 0, 0, 0, [])), (1328, (.laload, 1329, false, false, 0, 0, 0, 0, 0, 0, [])), (1329, (.iload 6, 1331, false, false, 6, 0, 0, 0, 0, 0, [])), (1331, (.i2l, 1332, false, false, 0, 0, 0, 0, 0, 0, [])), (1332, (.lcmp, 1333, false, false, 0, 0, 0, 0, 0, 0, [])), (1333, (.ifCond .eq 5, 1336, false, false, 1338, 0, 0, 0, 0, 0, [])), (1336, (.iconst 0, 1337, false, false, 0, 0, 0, 0, 0, 0, [])), (1337, (.ireturn, 1338, false, false, 0, 0, 1, 0, 0, 0, [])), (1338, (.goto 1435, 1341, false, true, 2773, 0, 0, 0, 0, 0, [])), (1341, (.aload_n 1, 1342, false, false, 1, 0, 0, 0, 0, 0, [])), (1342, (.aload_n 0, 1343, false, false, 0, 0, 0, 0, 0, 0, [])), (1343, (.iload 4, 1345, false, false, 4, 0, 0, 0, 0, 0, [])), (1345, (.iconst 1, 1346, false, false, 0, 0, 0, 0, 1, 0, [])), (1346, (.iadd, 1347, false, false, 0, 0, 0, 0, 0, 0, [])), (1347, (.iaload, 1348, false, false, 0, 0, 2, 0, 0, 0, []))]),
  (1387, [(1348, (.aload_n 3, 1349, false, false, 3, 0, 0, 0, 0, 0, [])), (1349, (.invokestatic 188, 1352, true, false, 268, 3, 1, 3, 0, 0, [])), (1352, (.istore 5, 1354, false, false, 5, 0, 0, 0, 0, 0, [])), (1354, (.aload_n 2, 1355, false, false, 2, 0, 0, 0, 0, 0, [])), (1355, (.aload_n 0, 1356, false, false, 0, 0, 0, 0, 0, 0, [])), (1356, (.iload 4, 1358, false, false, 4, 0, 0, 0, 0, 0, [])), (1358, (.iconst 1, 1359, false, false, 0, 0, 0, 0, 1, 0, [])), (1359, (.iadd, 1360, false, false, 0, 0, 0, 0, 0, 0, [])), (1360, (.iaload, 1361, false, false, 0, 0, 2, 0, 0, 0, [])), (1361, (.invokevirtual 190, 1364, false, false, 269, 1, 1, 15, 0, 0, [])), (1364, (.istore 6, 1366, false, false, 6, 0, 0, 0, 0, 0, [])), (1366, (.aload_n 2, 1367, false, false, 2, 0, 0, 0, 0, 0, [])), (1367, (.invokevirtual 142, 1370, false, false, 33, 0, 1, 15, 0, 0, [])), (1370, (.iload 5, 1372, false, false, 5, 0, 0, 0, 0, 0, [])), (1372, (.if_icmp .eq 5, 1375, false, false, 1377, 0, 0, 0, 0, 0, [])), (1375, (.iconst 0, 1376, false, false, 0, 0, 0, 0, 0, 0, [])), (1376, (.ireturn, 1377, false, false, 0, 0, 1, 0, 0, 0, [])), (1377, (.iload 5, 1379, false, false, 5, 0, 0, 0, 0, 0, [])), (1379, (.ifCond .ne 15, 1382, false, false, 1394, 0, 0, 0, 0, 0, [])), (1382, (.aload_n 3, 1383, false, false, 3, 0, 0, 0, 0, 0, [])), (1383, (.iconst 0, 1384, false, false, 0, 0, 0, 0, 0, 0, [])), (1384, (.laload, 1385, false, false, 0, 0, 0, 0, 0, 0, [])), (1385, (.iload 6, 1387, false, false, 6, 0, 0, 0, 0, 0, [])), (1387, (.i2l, 1388, false, false, 0, 0, 0, 0, 0, 0, []))]),
  (1423, [(1388, (.lcmp, 1389, false, false, 0, 0, 0, 0, 0, 0, [])), (1389, (.ifCond .eq 5, 1392, false, false, 1394, 0, 0, 0, 0, 0, [])), (1392, (.iconst 0, 1393, false, false, 0, 0, 0, 0, 0, 0, [])), (1393, (.ireturn, 1394, false, false, 0, 0, 1, 0, 0, 0, [])), (1394, (.goto 1379, 1397, false, true, 2773, 0, 0, 0, 0, 0, [])), (1397, (.aload_n 1, 1398, false, false, 1, 0, 0, 0, 0, 0, [])), (1398, (.aload_n 0, 1399, false, false, 0, 0, 0, 0, 0, 0, [])), (1399, (.iload 4, 1401, false, false, 4, 0, 0, 0, 0, 0, [])), (1401, (.iconst 1, 1402, false, false, 0, 0, 0, 0, 1, 0, [])), (1402, (.iadd, 1403, false, false, 0, 0, 0, 0, 0, 0, [])), (1403, (.iaload, 1404, false, false, 0, 0, 2, 0, 0, 0, [])), (1404, (.aload_n 3, 1405, false, false, 3, 0, 0, 0, 0, 0, [])), (1405, (.invokestatic 191, 1408, true, false, 271, 3, 1, 3, 0, 0, [])), (1408, (.istore 5, 1410, false, false, 5, 0, 0, 0, 0, 0, [])), (1410, (.aload_n 2, 1411, false, false, 2, 0, 0, 0, 0, 0, [])), (1411, (.aload_n 0, 1412, false, false, 0, 0, 0, 0, 0, 0, [])), (1412, (.iload 4, 1414, false, false, 4, 0, 0, 0, 0, 0, [])), (1414, (.iconst 1, 1415, false, false, 0, 0, 0, 0, 1, 0, [])), (1415, (.iadd, 1416, false, false, 0, 0, 0, 0, 0, 0, [])), (1416, (.iaload, 1417, false, false, 0, 0, 2, 0, 0, 0, [])), (1417, (.invokevirtual 193, 1420, false, false, 272, 1, 1, 15, 0, 0, [])), (1420, (.istore 6, 1422, false, false, 6, 0, 0, 0, 0, 0, [])), (1422, (.aload_n 2, 1423, false, false, 2, 0, 0, 0, 0, 0, [])), (1423, (.invokevirtual 142, 1426, false, false, 33, 0, 1, 15, 0, 0, []))]),
  (1463, [(1426, (.iload 5, 1428, false, false, 5, 0, 0, 0, 0, 0, [])), (1428, (.if_icmp .eq 5, 1431, false, false, 1433, 0, 0, 0, 0, 0, [])), (1431, (.iconst 0, 1432, false, false, 0, 0, 0, 0, 0, 0, [])), (1432, (.ireturn, 1433, false, false, 0, 0, 1, 0, 0, 0, [])), (1433, (.iload 5, 1435, false, false, 5, 0, 0, 0, 0, 0, [])), (1435, (.ifCond .ne 15, 1438, false, false, 1450, 0, 0, 0, 0, 0, [])), (1438, (.aload_n 3, 1439, false, false, 3, 0, 0, 0, 0, 0, [])), (1439, (.iconst 0, 1440, false, false, 0, 0, 0, 0, 0, 0, [])), (1440, (.laload, 1441, false, false, 0, 0, 0, 0, 0, 0, [])), (1441, (.iload 6, 1443, false, false, 6, 0, 0, 0, 0, 0, [])), (1443, (.i2l, 1444, false, false, 0, 0, 0, 0, 0, 0, [])), (1444, (.lcmp, 1445, false, false, 0, 0, 0, 0, 0, 0, [])), (1445, (.ifCond .eq 5, 1448, false, false, 1450, 0, 0, 0, 0, 0, [])), (1448, (.iconst 0, 1449, false, false, 0, 0, 0, 0, 0, 0, [])), (1449, (.ireturn, 1450, false, false, 0, 0, 1, 0, 0, 0, [])), (1450, (.goto 1323, 1453, false, true, 2773, 0, 0, 0, 0, 0, [])), (1453, (.aload_n 1, 1454, false, false, 1, 0, 0, 0, 0, 0, [])), (1454, (.aload_n 0, 1455, false, false, 0, 0, 0, 0, 0, 0, [])), (1455, (.iload 4, 1457, false, false, 4, 0, 0, 0, 0, 0, [])), (1457, (.iconst 1, 1458, false, false, 0, 0, 0, 0, 1, 0, [])), (1458, (.iadd, 1459, false, false, 0, 0, 0, 0, 0, 0, [])), (1459, (.iaload, 1460, false, false, 0, 0, 2, 0, 0, 0, [])), (1460, (.invokevirtual 194, 1463, false, false, 275, 1, 1, 14, 0, 0, [])), (1463, (.aload_n 2, 1464, false, false, 2, 0, 0, 0, 0, 0, []))]),
  (1497, [(1464, (.aload_n 0, 1465, false, false, 0, 0, 0, 0, 0, 0, [])), (1465, (.iload 4, 1467, false, false, 4, 0, 0, 0, 0, 0, [])), (1467, (.iconst 1, 1468, false, false, 0, 0, 0, 0, 1, 0, [])), (1468, (.iadd, 1469, false, false, 0, 0, 0, 0, 0, 0, [])), (1469, (.iaload, 1470, false, false, 0, 0, 2, 0, 0, 0, [])), (1470, (.invokevirtual 197, 1473, false, false, 276, 1, 1, 15, 0, 0, [])), (1473, (.if_icmp .eq 1300, 1476, false, true, 2773, 0, 0, 0, 0, 0, [])), (1476, (.iconst 0, 1477, false, false, 0, 0, 0, 0, 0, 0, [])), (1477, (.ireturn, 1478, false, false, 0, 0, 1, 0, 0, 0, [])), (1478, (.aload_n 1, 1479, false, false, 1, 0, 0, 0, 0, 0, [])), (1479, (.aload_n 0, 1480, false, false, 0, 0, 0, 0, 0, 0, [])), (1480, (.iload 4, 1482, false, false, 4, 0, 0, 0, 0, 0, [])), (1482, (.iconst 1, 1483, false, false, 0, 0, 0, 0, 1, 0, [])), (1483, (.iadd, 1484, false, false, 0, 0, 0, 0, 0, 0, [])), (1484, (.iaload, 1485, false, false, 0, 0, 2, 0, 0, 0, [])), (1485, (.aload_n 3, 1486, false, false, 3, 0, 0, 0, 0, 0, [])), (1486, (.invokestatic 198, 1489, true, false, 280, 3, 1, 3, 0, 0, [])), (1489, (.istore 5, 1491, false, false, 5, 0, 0, 0, 0, 0, [])), (1491, (.aload_n 2, 1492, false, false, 2, 0, 0, 0, 0, 0, [])), (1492, (.aload_n 0, 1493, false, false, 0, 0, 0, 0, 0, 0, [])), (1493, (.iload 4, 1495, false, false, 4, 0, 0, 0, 0, 0, [])), (1495, (.iconst 1, 1496, false, false, 0, 0, 0, 0, 1, 0, [])), (1496, (.iadd, 1497, false, false, 0, 0, 0, 0, 0, 0, [])), (1497, (.iaload, 1498, false, false, 0, 0, 2, 0, 0, 0, []))]),
  (1539, [(1498, (.invokevirtual 200, 1501, false, false, 281, 1, 1, 15, 0, 0, [])), (1501, (.istore 6, 1503, false, false, 6, 0, 0, 0, 0, 0, [])), (1503, (.aload_n 2, 1504, false, false, 2, 0, 0, 0, 0, 0, [])), (1504, (.invokevirtual 142, 1507, false, false, 33, 0, 1, 15, 0, 0, [])), (1507, (.iload 5, 1509, false, false, 5, 0, 0, 0, 0, 0, [])), (1509, (.if_icmp .eq 5, 1512, false, false, 1514, 0, 0, 0, 0, 0, [])), (1512, (.iconst 0, 1513, false, false, 0, 0, 0, 0, 0, 0, [])), (1513, (.ireturn, 1514, false, false, 0, 0, 1, 0, 0, 0, [])), (1514, (.iload 5, 1516, false, false, 5, 0, 0, 0, 0, 0, [])), (1516, (.ifCond .ne 15, 1519, false, false, 1531, 0, 0, 0, 0, 0, [])), (1519, (.aload_n 3, 1520, false, false, 3, 0, 0, 0, 0, 0, [])), (1520, (.iconst 0, 1521, false, false, 0, 0, 0, 0, 0, 0, [])), (1521, (.laload, 1522, false, false, 0, 0, 0, 0, 0, 0, [])), (1522, (.iload 6, 1524, false, false, 6, 0, 0, 0, 0, 0, [])), (1524, (.i2l, 1525, false, false, 0, 0, 0, 0, 0, 0, [])), (1525, (.lcmp, 1526, false, false, 0, 0, 0, 0, 0, 0, [])), (1526, (.ifCond .eq 5, 1529, false, false, 1531, 0, 0, 0, 0, 0, [])), (1529, (.iconst 0, 1530, false, false, 0, 0, 0, 0, 0, 0, [])), (1530, (.ireturn, 1531, false, false, 0, 0, 1, 0, 0, 0, [])), (1531, (.goto 1242, 1534, false, true, 2773, 0, 0, 0, 0, 0, [])), (1534, (.aload_n 1, 1535, false, false, 1, 0, 0, 0, 0, 0, [])), (1535, (.invokevirtual 201, 1538, false, false, 282, 0, 1, 14, 0, 0, [])), (1538, (.aload_n 2, 1539, false, false, 2, 0, 0, 0, 0, 0, [])), (1539, (.invokevirtual 204, 1542, false, false, 283, 0, 1, 15, 0, 0, []))]),
  (1573, [(1542, (.if_icmp .eq 1231, 1545, false, true, 2773, 0, 0, 0, 0, 0, [])), (1545, (.iconst 0, 1546, false, false, 0, 0, 0, 0, 0, 0, [])), (1546, (.ireturn, 1547, false, false, 0, 0, 1, 0, 0, 0, [])), (1547, (.aload_n 1, 1548, false, false, 1, 0, 0, 0, 0, 0, [])), (1548, (.aload_n 0, 1549, false, false, 0, 0, 0, 0, 0, 0, [])), (1549, (.iload 4, 1551, false, false, 4, 0, 0, 0, 0, 0, [])), (1551, (.iconst 1, 1552, false, false, 0, 0, 0, 0, 1, 0, [])), (1552, (.iadd, 1553, false, false, 0, 0, 0, 0, 0, 0, [])), (1553, (.iaload, 1554, false, false, 0, 0, 2, 0, 0, 0, [])), (1554, (.aload_n 0, 1555, false, false, 0, 0, 0, 0, 0, 0, [])), (1555, (.iload 4, 1557, false, false, 4, 0, 0, 0, 0, 0, [])), (1557, (.iconst 2, 1558, false, false, 0, 0, 0, 0, 2, 0, [])), (1558, (.iadd, 1559, false, false, 0, 0, 0, 0, 0, 0, [])), (1559, (.iaload, 1560, false, false, 0, 0, 2, 0, 0, 0, [])), (1560, (.aload_n 3, 1561, false, false, 3, 0, 0, 0, 0, 0, [])), (1561, (.invokestatic 205, 1564, true, false, 290, 4, 1, 3, 0, 0, [])), (1564, (.istore 5, 1566, false, false, 5, 0, 0, 0, 0, 0, [])), (1566, (.aload_n 2, 1567, false, false, 2, 0, 0, 0, 0, 0, [])), (1567, (.aload_n 0, 1568, false, false, 0, 0, 0, 0, 0, 0, [])), (1568, (.iload 4, 1570, false, false, 4, 0, 0, 0, 0, 0, [])), (1570, (.iconst 1, 1571, false, false, 0, 0, 0, 0, 1, 0, [])), (1571, (.iadd, 1572, false, false, 0, 0, 0, 0, 0, 0, [])), (1572, (.iaload, 1573, false, false, 0, 0, 2, 0, 0, 0, [])), (1573, (.aload_n 0, 1574, false, false, 0, 0, 0, 0, 0, 0, []))]),
  (1612, [(1574, (.iload 4, 1576, false, false, 4, 0, 0, 0, 0, 0, [])), (1576, (.iconst 2, 1577, false, false, 0, 0, 0, 0, 2, 0, [])), (1577, (.iadd, 1578, false, false, 0, 0, 0, 0, 0, 0, [])), (1578, (.iaload, 1579, false, false, 0, 0, 2, 0, 0, 0, [])), (1579, (.invokevirtual 207, 1582, false, false, 293, 2, 1, 15, 0, 0, [])), (1582, (.istore 6, 1584, false, false, 6, 0, 0, 0, 0, 0, [])), (1584, (.aload_n 2, 1585, false, false, 2, 0, 0, 0, 0, 0, [])), (1585, (.invokevirtual 142, 1588, false, false, 33, 0, 1, 15, 0, 0, [])), (1588, (.iload 5, 1590, false, false, 5, 0, 0, 0, 0, 0, [])), (1590, (.if_icmp .eq 5, 1593, false, false, 1595, 0, 0, 0, 0, 0, [])), (1593, (.iconst 0, 1594, false, false, 0, 0, 0, 0, 0, 0, [])), (1594, (.ireturn, 1595, false, false, 0, 0, 1, 0, 0, 0, [])), (1595, (.iload 5, 1597, false, false, 5, 0, 0, 0, 0, 0, [])), (1597, (.ifCond .ne 15, 1600, false, false, 1612, 0, 0, 0, 0, 0, [])), (1600, (.aload_n 3, 1601, false, false, 3, 0, 0, 0, 0, 0, [])), (1601, (.iconst 0, 1602, false, false, 0, 0, 0, 0, 0, 0, [])), (1602, (.laload, 1603, false, false, 0, 0, 0, 0, 0, 0, [])), (1603, (.iload 6, 1605, false, false, 6, 0, 0, 0, 0, 0, [])), (1605, (.i2l, 1606, false, false, 0, 0, 0, 0, 0, 0, [])), (1606, (.lcmp, 1607, false, false, 0, 0, 0, 0, 0, 0, [])), (1607, (.ifCond .eq 5, 1610, false, false, 1612, 0, 0, 0, 0, 0, [])), (1610, (.iconst 0, 1611, false, false, 0, 0, 0, 0, 0, 0, [])), (1611, (.ireturn, 1612, false, false, 0, 0, 1, 0, 0, 0, [])), (1612, (.goto 1161, 1615, false, true, 2773, 0, 0, 0, 0, 0, []))]),
  (1645, [(1615, (.aload_n 1, 1616, false, false, 1, 0, 0, 0, 0, 0, [])), (1616, (.aload_n 0, 1617, false, false, 0, 0, 0, 0, 0, 0, [])), (1617, (.iload 4, 1619, false, false, 4, 0, 0, 0, 0, 0, [])), (1619, (.iconst 1, 1620, false, false, 0, 0, 0, 0, 1, 0, [])), (1620, (.iadd, 1621, false, false, 0, 0, 0, 0, 0, 0, [])), (1621, (.iaload, 1622, false, false, 0, 0, 2, 0, 0, 0, [])), (1622, (.aload_n 0, 1623, false, false, 0, 0, 0, 0, 0, 0, [])), (1623, (.iload 4, 1625, false, false, 4, 0, 0, 0, 0, 0, [])), (1625, (.iconst 2, 1626, false, false, 0, 0, 0, 0, 2, 0, [])), (1626, (.iadd, 1627, false, false, 0, 0, 0, 0, 0, 0, [])), (1627, (.iaload, 1628, false, false, 0, 0, 2, 0, 0, 0, [])), (1628, (.aload_n 3, 1629, false, false, 3, 0, 0, 0, 0, 0, [])), (1629, (.invokestatic 208, 1632, true, false, 296, 4, 1, 3, 0, 0, [])), (1632, (.istore 5, 1634, false, false, 5, 0, 0, 0, 0, 0, [])), (1634, (.aload_n 2, 1635, false, false, 2, 0, 0, 0, 0, 0, [])), (1635, (.aload_n 0, 1636, false, false, 0, 0, 0, 0, 0, 0, [])), (1636, (.iload 4, 1638, false, false, 4, 0, 0, 0, 0, 0, [])), (1638, (.iconst 1, 1639, false, false, 0, 0, 0, 0, 1, 0, [])), (1639, (.iadd, 1640, false, false, 0, 0, 0, 0, 0, 0, [])), (1640, (.iaload, 1641, false, false, 0, 0, 2, 0, 0, 0, [])), (1641, (.aload_n 0, 1642, false, false, 0, 0, 0, 0, 0, 0, [])), (1642, (.iload 4, 1644, false, false, 4, 0, 0, 0, 0, 0, [])), (1644, (.iconst 2, 1645, false, false, 0, 0, 0, 0, 2, 0, [])), (1645, (.iadd, 1646, false, false, 0, 0, 0, 0, 0, 0, []))]),
  (1685, [(1646, (.iaload, 1647, false, false, 0, 0, 2, 0, 0, 0, [])), (1647, (.invokevirtual 210, 1650, false, false, 297, 2, 1, 15, 0, 0, [])), (1650, (.istore 6, 1652, false, false, 6, 0, 0, 0, 0, 0, [])), (1652, (.aload_n 2, 1653, false, false, 2, 0, 0, 0, 0, 0, [])), (1653, (.invokevirtual 142, 1656, false, false, 33, 0, 1, 15, 0, 0, [])), (1656, (.iload 5, 1658, false, false, 5, 0, 0, 0, 0, 0, [])), (1658, (.if_icmp .eq 5, 1661, false, false, 1663, 0, 0, 0, 0, 0, [])), (1661, (.iconst 0, 1662, false, false, 0, 0, 0, 0, 0, 0, [])), (1662, (.ireturn, 1663, false, false, 0, 0, 1, 0, 0, 0, [])), (1663, (.iload 5, 1665, false, false, 5, 0, 0, 0, 0, 0, [])), (1665, (.ifCond .ne 15, 1668, false, false, 1680, 0, 0, 0, 0, 0, [])), (1668, (.aload_n 3, 1669, false, false, 3, 0, 0, 0, 0, 0, [])), (1669, (.iconst 0, 1670, false, false, 0, 0, 0, 0, 0, 0, [])), (1670, (.laload, 1671, false, false, 0, 0, 0, 0, 0, 0, [])), (1671, (.iload 6, 1673, false, false, 6, 0, 0, 0, 0, 0, [])), (1673, (.i2l, 1674, false, false, 0, 0, 0, 0, 0, 0, [])), (1674, (.lcmp, 1675, false, false, 0, 0, 0, 0, 0, 0, [])), (1675, (.ifCond .eq 5, 1678, false, false, 1680, 0, 0, 0, 0, 0, [])), (1678, (.iconst 0, 1679, false, false, 0, 0, 0, 0, 0, 0, [])), (1679, (.ireturn, 1680, false, false, 0, 0, 1, 0, 0, 0, [])), (1680, (.goto 1093, 1683, false, true, 2773, 0, 0, 0, 0, 0, [])), (1683, (.aload_n 1, 1684, false, false, 1, 0, 0, 0, 0, 0, [])), (1684, (.aload_n 0, 1685, false, false, 0, 0, 0, 0, 0, 0, [])), (1685, (.iload 4, 1687, false, false, 4, 0, 0, 0, 0, 0, []))]),
  (1720, [(1687, (.iconst 1, 1688, false, false, 0, 0, 0, 0, 1, 0, [])), (1688, (.iadd, 1689, false, false, 0, 0, 0, 0, 0, 0, [])), (1689, (.iaload, 1690, false, false, 0, 0, 2, 0, 0, 0, [])), (1690, (.aload_n 0, 1691, false, false, 0, 0, 0, 0, 0, 0, [])), (1691, (.iload 4, 1693, false, false, 4, 0, 0, 0, 0, 0, [])), (1693, (.iconst 2, 1694, false, false, 0, 0, 0, 0, 2, 0, [])), (1694, (.iadd, 1695, false, false, 0, 0, 0, 0, 0, 0, [])), (1695, (.iaload, 1696, false, false, 0, 0, 2, 0, 0, 0, [])), (1696, (.ifCond .eq 7, 1699, false, false, 1703, 0, 0, 0, 0, 0, [])), (1699, (.iconst 1, 1700, false, false, 0, 0, 0, 0, 1, 0, [])), (1700, (.goto 4, 1703, false, false, 1704, 0, 0, 0, 0, 0, [])), (1703, (.iconst 0, 1704, false, false, 0, 0, 0, 0, 0, 0, [])), (1704, (.aload_n 3, 1705, false, false, 3, 0, 0, 0, 0, 0, [])), (1705, (.invokestatic 211, 1708, true, false, 299, 4, 1, 3, 0, 0, [])), (1708, (.istore 5, 1710, false, false, 5, 0, 0, 0, 0, 0, [])), (1710, (.aload_n 2, 1711, false, false, 2, 0, 0, 0, 0, 0, [])), (1711, (.aload_n 0, 1712, false, false, 0, 0, 0, 0, 0, 0, [])), (1712, (.iload 4, 1714, false, false, 4, 0, 0, 0, 0, 0, [])), (1714, (.iconst 1, 1715, false, false, 0, 0, 0, 0, 1, 0, [])), (1715, (.iadd, 1716, false, false, 0, 0, 0, 0, 0, 0, [])), (1716, (.iaload, 1717, false, false, 0, 0, 2, 0, 0, 0, [])), (1717, (.aload_n 0, 1718, false, false, 0, 0, 0, 0, 0, 0, [])), (1718, (.iload 4, 1720, false, false, 4, 0, 0, 0, 0, 0, [])), (1720, (.iconst 2, 1721, false, false, 0, 0, 0, 0, 2, 0, []))]),
  (1762, [(1721, (.iadd, 1722, false, false, 0, 0, 0, 0, 0, 0, [])), (1722, (.iaload, 1723, false, false, 0, 0, 2, 0, 0, 0, [])), (1723, (.ifCond .eq 7, 1726, false, false, 1730, 0, 0, 0, 0, 0, [])), (1726, (.iconst 1, 1727, false, false, 0, 0, 0, 0, 1, 0, [])), (1727, (.goto 4, 1730, false, true, 1731, 0, 0, 0, 0, 0, [])), (1730, (.iconst 0, 1731, true, false, 0, 0, 0, 0, 0, 0, [])), (1731, (.invokevirtual 214, 1734, false, false, 300, 2, 1, 15, 0, 0, [])), (1734, (.istore 6, 1736, false, false, 6, 0, 0, 0, 0, 0, [])), (1736, (.aload_n 2, 1737, false, false, 2, 0, 0, 0, 0, 0, [])), (1737, (.invokevirtual 142, 1740, false, false, 33, 0, 1, 15, 0, 0, [])), (1740, (.iload 5, 1742, false, false, 5, 0, 0, 0, 0, 0, [])), (1742, (.if_icmp .eq 5, 1745, false, false, 1747, 0, 0, 0, 0, 0, [])), (1745, (.iconst 0, 1746, false, false, 0, 0, 0, 0, 0, 0, [])), (1746, (.ireturn, 1747, false, false, 0, 0, 1, 0, 0, 0, [])), (1747, (.iload 5, 1749, false, false, 5, 0, 0, 0, 0, 0, [])), (1749, (.ifCond .ne 15, 1752, false, false, 1764, 0, 0, 0, 0, 0, [])), (1752, (.aload_n 3, 1753, false, false, 3, 0, 0, 0, 0, 0, [])), (1753, (.iconst 0, 1754, false, false, 0, 0, 0, 0, 0, 0, [])), (1754, (.laload, 1755, false, false, 0, 0, 0, 0, 0, 0, [])), (1755, (.iload 6, 1757, false, false, 6, 0, 0, 0, 0, 0, [])), (1757, (.i2l, 1758, false, false, 0, 0, 0, 0, 0, 0, [])), (1758, (.lcmp, 1759, false, false, 0, 0, 0, 0, 0, 0, [])), (1759, (.ifCond .eq 5, 1762, false, false, 1764, 0, 0, 0, 0, 0, [])), (1762, (.iconst 0, 1763, false, false, 0, 0, 0, 0, 0, 0, []))]),
  (1792, [(1763, (.ireturn, 1764, false, false, 0, 0, 1, 0, 0, 0, [])), (1764, (.goto 1009, 1767, false, true, 2773, 0, 0, 0, 0, 0, [])), (1767, (.aload_n 1, 1768, false, false, 1, 0, 0, 0, 0, 0, [])), (1768, (.aload_n 0, 1769, false, false, 0, 0, 0, 0, 0, 0, [])), (1769, (.iload 4, 1771, false, false, 4, 0, 0, 0, 0, 0, [])), (1771, (.iconst 1, 1772, false, false, 0, 0, 0, 0, 1, 0, [])), (1772, (.iadd, 1773, false, false, 0, 0, 0, 0, 0, 0, [])), (1773, (.iaload, 1774, false, false, 0, 0, 2, 0, 0, 0, [])), (1774, (.aload_n 0, 1775, false, false, 0, 0, 0, 0, 0, 0, [])), (1775, (.iload 4, 1777, false, false, 4, 0, 0, 0, 0, 0, [])), (1777, (.iconst 2, 1778, false, false, 0, 0, 0, 0, 2, 0, [])), (1778, (.iadd, 1779, false, false, 0, 0, 0, 0, 0, 0, [])), (1779, (.iaload, 1780, false, false, 0, 0, 2, 0, 0, 0, [])), (1780, (.aload_n 0, 1781, false, false, 0, 0, 0, 0, 0, 0, [])), (1781, (.iload 4, 1783, false, false, 4, 0, 0, 0, 0, 0, [])), (1783, (.iconst 3, 1784, false, false, 0, 0, 0, 0, 3, 0, [])), (1784, (.iadd, 1785, false, false, 0, 0, 0, 0, 0, 0, [])), (1785, (.iaload, 1786, false, false, 0, 0, 2, 0, 0, 0, [])), (1786, (.aload_n 0, 1787, false, false, 0, 0, 0, 0, 0, 0, [])), (1787, (.iload 4, 1789, false, false, 4, 0, 0, 0, 0, 0, [])), (1789, (.iconst 4, 1790, false, false, 0, 0, 0, 0, 4, 0, [])), (1790, (.iadd, 1791, false, false, 0, 0, 0, 0, 0, 0, [])), (1791, (.iaload, 1792, false, false, 0, 0, 2, 0, 0, 0, [])), (1792, (.ifCond .eq 7, 1795, false, false, 1799, 0, 0, 0, 0, 0, []))]),
  (1826, [(1795, (.iconst 1, 1796, false, false, 0, 0, 0, 0, 1, 0, [])), (1796, (.goto 4, 1799, false, false, 1800, 0, 0, 0, 0, 0, [])), (1799, (.iconst 0, 1800, false, false, 0, 0, 0, 0, 0, 0, [])), (1800, (.aload_n 3, 1801, false, false, 3, 0, 0, 0, 0, 0, [])), (1801, (.invokestatic 215, 1804, true, false, 304, 6, 1, 3, 0, 0, [])), (1804, (.istore 5, 1806, false, false, 5, 0, 0, 0, 0, 0, [])), (1806, (.aload_n 2, 1807, false, false, 2, 0, 0, 0, 0, 0, [])), (1807, (.aload_n 0, 1808, false, false, 0, 0, 0, 0, 0, 0, [])), (1808, (.iload 4, 1810, false, false, 4, 0, 0, 0, 0, 0, [])), (1810, (.iconst 1, 1811, false, false, 0, 0, 0, 0, 1, 0, [])), (1811, (.iadd, 1812, false, false, 0, 0, 0, 0, 0, 0, [])), (1812, (.iaload, 1813, false, false, 0, 0, 2, 0, 0, 0, [])), (1813, (.aload_n 0, 1814, false, false, 0, 0, 0, 0, 0, 0, [])), (1814, (.iload 4, 1816, false, false, 4, 0, 0, 0, 0, 0, [])), (1816, (.iconst 2, 1817, false, false, 0, 0, 0, 0, 2, 0, [])), (1817, (.iadd, 1818, false, false, 0, 0, 0, 0, 0, 0, [])), (1818, (.iaload, 1819, false, false, 0, 0, 2, 0, 0, 0, [])), (1819, (.aload_n 0, 1820, false, false, 0, 0, 0, 0, 0, 0, [])), (1820, (.iload 4, 1822, false, false, 4, 0, 0, 0, 0, 0, [])), (1822, (.iconst 3, 1823, false, false, 0, 0, 0, 0, 3, 0, [])), (1823, (.iadd, 1824, false, false, 0, 0, 0, 0, 0, 0, [])), (1824, (.iaload, 1825, false, false, 0, 0, 2, 0, 0, 0, [])), (1825, (.aload_n 0, 1826, false, false, 0, 0, 0, 0, 0, 0, [])), (1826, (.iload 4, 1828, false, false, 4, 0, 0, 0, 0, 0, []))]),
  (1867, [(1828, (.iconst 4, 1829, false, false, 0, 0, 0, 0, 4, 0, [])), (1829, (.iadd, 1830, false, false, 0, 0, 0, 0, 0, 0, [])), (1830, (.iaload, 1831, false, false, 0, 0, 2, 0, 0, 0, [])), (1831, (.ifCond .eq 7, 1834, false, false, 1838, 0, 0, 0, 0, 0, [])), (1834, (.iconst 1, 1835, false, false, 0, 0, 0, 0, 1, 0, [])), (1835, (.goto 4, 1838, false, true, 1839, 0, 0, 0, 0, 0, [])), (1838, (.iconst 0, 1839, true, false, 0, 0, 0, 0, 0, 0, [])), (1839, (.invokevirtual 218, 1842, false, false, 306, 4, 1, 15, 0, 0, [])), (1842, (.istore 6, 1844, false, false, 6, 0, 0, 0, 0, 0, [])), (1844, (.aload_n 2, 1845, false, false, 2, 0, 0, 0, 0, 0, [])), (1845, (.invokevirtual 142, 1848, false, false, 33, 0, 1, 15, 0, 0, [])), (1848, (.iload 5, 1850, false, false, 5, 0, 0, 0, 0, 0, [])), (1850, (.if_icmp .eq 5, 1853, false, false, 1855, 0, 0, 0, 0, 0, [])), (1853, (.iconst 0, 1854, false, false, 0, 0, 0, 0, 0, 0, [])), (1854, (.ireturn, 1855, false, false, 0, 0, 1, 0, 0, 0, [])), (1855, (.iload 5, 1857, false, false, 5, 0, 0, 0, 0, 0, [])), (1857, (.ifCond .ne 15, 1860, false, false, 1872, 0, 0, 0, 0, 0, [])), (1860, (.aload_n 3, 1861, false, false, 3, 0, 0, 0, 0, 0, [])), (1861, (.iconst 0, 1862, false, false, 0, 0, 0, 0, 0, 0, [])), (1862, (.laload, 1863, false, false, 0, 0, 0, 0, 0, 0, [])), (1863, (.iload 6, 1865, false, false, 6, 0, 0, 0, 0, 0, [])), (1865, (.i2l, 1866, false, false, 0, 0, 0, 0, 0, 0, [])), (1866, (.lcmp, 1867, false, false, 0, 0, 0, 0, 0, 0, [])), (1867, (.ifCond .eq 5, 1870, false, false, 1872, 0, 0, 0, 0, 0, []))]),
  (1906, [(1870, (.iconst 0, 1871, false, false, 0, 0, 0, 0, 0, 0, [])), (1871, (.ireturn, 1872, false, false, 0, 0, 1, 0, 0, 0, [])), (1872, (.goto 901, 1875, false, true, 2773, 0, 0, 0, 0, 0, [])), (1875, (.aload_n 1, 1876, false, false, 1, 0, 0, 0, 0, 0, [])), (1876, (.aload_n 0, 1877, false, false, 0, 0, 0, 0, 0, 0, [])), (1877, (.iload 4, 1879, false, false, 4, 0, 0, 0, 0, 0, [])), (1879, (.iconst 1, 1880, false, false, 0, 0, 0, 0, 1, 0, [])), (1880, (.iadd, 1881, false, false, 0, 0, 0, 0, 0, 0, [])), (1881, (.iaload, 1882, false, false, 0, 0, 2, 0, 0, 0, [])), (1882, (.aload_n 3, 1883, false, false, 3, 0, 0, 0, 0, 0, [])), (1883, (.invokestatic 219, 1886, true, false, 308, 3, 1, 3, 0, 0, [])), (1886, (.istore 5, 1888, false, false, 5, 0, 0, 0, 0, 0, [])), (1888, (.aload_n 2, 1889, false, false, 2, 0, 0, 0, 0, 0, [])), (1889, (.aload_n 0, 1890, false, false, 0, 0, 0, 0, 0, 0, [])), (1890, (.iload 4, 1892, false, false, 4, 0, 0, 0, 0, 0, [])), (1892, (.iconst 1, 1893, false, false, 0, 0, 0, 0, 1, 0, [])), (1893, (.iadd, 1894, false, false, 0, 0, 0, 0, 0, 0, [])), (1894, (.iaload, 1895, false, false, 0, 0, 2, 0, 0, 0, [])), (1895, (.invokevirtual 221, 1898, false, false, 309, 1, 1, 15, 0, 0, [])), (1898, (.istore 6, 1900, false, false, 6, 0, 0, 0, 0, 0, [])), (1900, (.aload_n 2, 1901, false, false, 2, 0, 0, 0, 0, 0, [])), (1901, (.invokevirtual 142, 1904, false, false, 33, 0, 1, 15, 0, 0, [])), (1904, (.iload 5, 1906, false, false, 5, 0, 0, 0, 0, 0, [])), (1906, (.if_icmp .eq 5, 1909, false, false, 1911, 0, 0, 0, 0, 0, []))]),
  (1942, [(1909, (.iconst 0, 1910, false, false, 0, 0, 0, 0, 0, 0, [])), (1910, (.ireturn, 1911, false, false, 0, 0, 1, 0, 0, 0, [])), (1911, (.iload 5, 1913, false, false, 5, 0, 0, 0, 0, 0, [])), (1913, (.ifCond .ne 15, 1916, false, false, 1928, 0, 0, 0, 0, 0, [])), (1916, (.aload_n 3, 1917, false, false, 3, 0, 0, 0, 0, 0, [])), (1917, (.iconst 0, 1918, false, false, 0, 0, 0, 0, 0, 0, [])), (1918, (.laload, 1919, false, false, 0, 0, 0, 0, 0, 0, [])), (1919, (.iload 6, 1921, false, false, 6, 0, 0, 0, 0, 0, [])), (1921, (.i2l, 1922, false, false, 0, 0, 0, 0, 0, 0, [])), (1922, (.lcmp, 1923, false, false, 0, 0, 0, 0, 0, 0, [])), (1923, (.ifCond .eq 5, 1926, false, false, 1928, 0, 0, 0, 0, 0, [])), (1926, (.iconst 0, 1927, false, false, 0, 0, 0, 0, 0, 0, [])), (1927, (.ireturn, 1928, false, false, 0, 0, 1, 0, 0, 0, [])), (1928, (.goto 845, 1931, false, true, 2773, 0, 0, 0, 0, 0, [])), (1931, (.aload_n 1, 1932, false, false, 1, 0, 0, 0, 0, 0, [])), (1932, (.aload_n 0, 1933, false, false, 0, 0, 0, 0, 0, 0, [])), (1933, (.iload 4, 1935, false, false, 4, 0, 0, 0, 0, 0, [])), (1935, (.iconst 1, 1936, false, false, 0, 0, 0, 0, 1, 0, [])), (1936, (.iadd, 1937, false, false, 0, 0, 0, 0, 0, 0, [])), (1937, (.iaload, 1938, false, false, 0, 0, 2, 0, 0, 0, [])), (1938, (.aload_n 0, 1939, false, false, 0, 0, 0, 0, 0, 0, [])), (1939, (.iload 4, 1941, false, false, 4, 0, 0, 0, 0, 0, [])), (1941, (.iconst 2, 1942, false, false, 0, 0, 0, 0, 2, 0, [])), (1942, (.iadd, 1943, false, false, 0, 0, 0, 0, 0, 0, []))]),
  (1979, [(1943, (.iaload, 1944, false, false, 0, 0, 2, 0, 0, 0, [])), (1944, (.ifCond .eq 7, 1947, false, false, 1951, 0, 0, 0, 0, 0, [])), (1947, (.iconst 1, 1948, false, false, 0, 0, 0, 0, 1, 0, [])), (1948, (.goto 4, 1951, false, false, 1952, 0, 0, 0, 0, 0, [])), (1951, (.iconst 0, 1952, false, false, 0, 0, 0, 0, 0, 0, [])), (1952, (.aload_n 3, 1953, false, false, 3, 0, 0, 0, 0, 0, [])), (1953, (.invokestatic 222, 1956, true, false, 312, 4, 1, 3, 0, 0, [])), (1956, (.istore 5, 1958, false, false, 5, 0, 0, 0, 0, 0, [])), (1958, (.aload_n 2, 1959, false, false, 2, 0, 0, 0, 0, 0, [])), (1959, (.aload_n 0, 1960, false, false, 0, 0, 0, 0, 0, 0, [])), (1960, (.iload 4, 1962, false, false, 4, 0, 0, 0, 0, 0, [])), (1962, (.iconst 1, 1963, false, false, 0, 0, 0, 0, 1, 0, [])), (1963, (.iadd, 1964, false, false, 0, 0, 0, 0, 0, 0, [])), (1964, (.iaload, 1965, false, false, 0, 0, 2, 0, 0, 0, [])), (1965, (.aload_n 0, 1966, false, false, 0, 0, 0, 0, 0, 0, [])), (1966, (.iload 4, 1968, false, false, 4, 0, 0, 0, 0, 0, [])), (1968, (.iconst 2, 1969, false, false, 0, 0, 0, 0, 2, 0, [])), (1969, (.iadd, 1970, false, false, 0, 0, 0, 0, 0, 0, [])), (1970, (.iaload, 1971, false, false, 0, 0, 2, 0, 0, 0, [])), (1971, (.ifCond .eq 7, 1974, false, false, 1978, 0, 0, 0, 0, 0, [])), (1974, (.iconst 1, 1975, false, false, 0, 0, 0, 0, 1, 0, [])), (1975, (.goto 4, 1978, false, true, 1979, 0, 0, 0, 0, 0, [])), (1978, (.iconst 0, 1979, true, false, 0, 0, 0, 0, 0, 0, [])), (1979, (.invokevirtual 224, 1982, false, false, 313, 2, 1, 15, 0, 0, []))]),
  (2023, [(1982, (.istore 6, 1984, false, false, 6, 0, 0, 0, 0, 0, [])), (1984, (.aload_n 2, 1985, false, false, 2, 0, 0, 0, 0, 0, [])), (1985, (.invokevirtual 142, 1988, false, false, 33, 0, 1, 15, 0, 0, [])), (1988, (.iload 5, 1990, false, false, 5, 0, 0, 0, 0, 0, [])), (1990, (.if_icmp .eq 5, 1993, false, false, 1995, 0, 0, 0, 0, 0, [])), (1993, (.iconst 0, 1994, false, false, 0, 0, 0, 0, 0, 0, [])), (1994, (.ireturn, 1995, false, false, 0, 0, 1, 0, 0, 0, [])), (1995, (.iload 5, 1997, false, false, 5, 0, 0, 0, 0, 0, [])), (1997, (.ifCond .ne 22, 2000, false, false, 2019, 0, 0, 0, 0, 0, [])), (2000, (.aload_n 3, 2001, false, false, 3, 0, 0, 0, 0, 0, [])), (2001, (.iconst 0, 2002, false, false, 0, 0, 0, 0, 0, 0, [])), (2002, (.laload, 2003, false, false, 0, 0, 0, 0, 0, 0, [])), (2003, (.iload 6, 2005, false, false, 6, 0, 0, 0, 0, 0, [])), (2005, (.ifCond .eq 7, 2008, false, false, 2012, 0, 0, 0, 0, 0, [])), (2008, (.lconst 1, 2009, false, false, 0, 0, 0, 0, 0, 1, [])), (2009, (.goto 4, 2012, false, false, 2013, 0, 0, 0, 0, 0, [])), (2012, (.lconst 0, 2013, false, false, 0, 0, 0, 0, 0, 0, [])), (2013, (.lcmp, 2014, false, false, 0, 0, 0, 0, 0, 0, [])), (2014, (.ifCond .eq 5, 2017, false, false, 2019, 0, 0, 0, 0, 0, [])), (2017, (.iconst 0, 2018, false, false, 0, 0, 0, 0, 0, 0, [])), (2018, (.ireturn, 2019, false, false, 0, 0, 1, 0, 0, 0, [])), (2019, (.goto 754, 2022, false, true, 2773, 0, 0, 0, 0, 0, [])), (2022, (.aload_n 1, 2023, false, false, 1, 0, 0, 0, 0, 0, [])), (2023, (.aload_n 0, 2024, false, false, 0, 0, 0, 0, 0, 0, []))]),
  (2057, [(2024, (.iload 4, 2026, false, false, 4, 0, 0, 0, 0, 0, [])), (2026, (.iconst 1, 2027, false, false, 0, 0, 0, 0, 1, 0, [])), (2027, (.iadd, 2028, false, false, 0, 0, 0, 0, 0, 0, [])), (2028, (.iaload, 2029, false, false, 0, 0, 2, 0, 0, 0, [])), (2029, (.aload_n 0, 2030, false, false, 0, 0, 0, 0, 0, 0, [])), (2030, (.iload 4, 2032, false, false, 4, 0, 0, 0, 0, 0, [])), (2032, (.iconst 2, 2033, false, false, 0, 0, 0, 0, 2, 0, [])), (2033, (.iadd, 2034, false, false, 0, 0, 0, 0, 0, 0, [])), (2034, (.iaload, 2035, false, false, 0, 0, 2, 0, 0, 0, [])), (2035, (.ifCond .eq 7, 2038, false, false, 2042, 0, 0, 0, 0, 0, [])), (2038, (.iconst 1, 2039, false, false, 0, 0, 0, 0, 1, 0, [])), (2039, (.goto 4, 2042, false, false, 2043, 0, 0, 0, 0, 0, [])), (2042, (.iconst 0, 2043, false, false, 0, 0, 0, 0, 0, 0, [])), (2043, (.aload_n 3, 2044, false, false, 3, 0, 0, 0, 0, 0, [])), (2044, (.invokestatic 225, 2047, true, false, 315, 4, 1, 3, 0, 0, [])), (2047, (.istore 5, 2049, false, false, 5, 0, 0, 0, 0, 0, [])), (2049, (.aload_n 2, 2050, false, false, 2, 0, 0, 0, 0, 0, [])), (2050, (.aload_n 0, 2051, false, false, 0, 0, 0, 0, 0, 0, [])), (2051, (.iload 4, 2053, false, false, 4, 0, 0, 0, 0, 0, [])), (2053, (.iconst 1, 2054, false, false, 0, 0, 0, 0, 1, 0, [])), (2054, (.iadd, 2055, false, false, 0, 0, 0, 0, 0, 0, [])), (2055, (.iaload, 2056, false, false, 0, 0, 2, 0, 0, 0, [])), (2056, (.aload_n 0, 2057, false, false, 0, 0, 0, 0, 0, 0, [])), (2057, (.iload 4, 2059, false, false, 4, 0, 0, 0, 0, 0, []))]),
  (2098, [(2059, (.iconst 2, 2060, false, false, 0, 0, 0, 0, 2, 0, [])), (2060, (.iadd, 2061, false, false, 0, 0, 0, 0, 0, 0, [])), (2061, (.iaload, 2062, false, false, 0, 0, 2, 0, 0, 0, [])), (2062, (.ifCond .eq 7, 2065, false, false, 2069, 0, 0, 0, 0, 0, [])), (2065, (.iconst 1, 2066, false, false, 0, 0, 0, 0, 1, 0, [])), (2066, (.goto 4, 2069, false, true, 2070, 0, 0, 0, 0, 0, [])), (2069, (.iconst 0, 2070, true, false, 0, 0, 0, 0, 0, 0, [])), (2070, (.invokevirtual 227, 2073, false, false, 316, 2, 1, 15, 0, 0, [])), (2073, (.istore 6, 2075, false, false, 6, 0, 0, 0, 0, 0, [])), (2075, (.aload_n 2, 2076, false, false, 2, 0, 0, 0, 0, 0, [])), (2076, (.invokevirtual 142, 2079, false, false, 33, 0, 1, 15, 0, 0, [])), (2079, (.iload 5, 2081, false, false, 5, 0, 0, 0, 0, 0, [])), (2081, (.if_icmp .eq 5, 2084, false, false, 2086, 0, 0, 0, 0, 0, [])), (2084, (.iconst 0, 2085, false, false, 0, 0, 0, 0, 0, 0, [])), (2085, (.ireturn, 2086, false, false, 0, 0, 1, 0, 0, 0, [])), (2086, (.iload 5, 2088, false, false, 5, 0, 0, 0, 0, 0, [])), (2088, (.ifCond .ne 15, 2091, false, false, 2103, 0, 0, 0, 0, 0, [])), (2091, (.aload_n 3, 2092, false, false, 3, 0, 0, 0, 0, 0, [])), (2092, (.iconst 0, 2093, false, false, 0, 0, 0, 0, 0, 0, [])), (2093, (.laload, 2094, false, false, 0, 0, 0, 0, 0, 0, [])), (2094, (.iload 6, 2096, false, false, 6, 0, 0, 0, 0, 0, [])), (2096, (.i2l, 2097, false, false, 0, 0, 0, 0, 0, 0, [])), (2097, (.lcmp, 2098, false, false, 0, 0, 0, 0, 0, 0, [])), (2098, (.ifCond .eq 5, 2101, false, false, 2103, 0, 0, 0, 0, 0, []))]),
  (2136, [(2101, (.iconst 0, 2102, false, false, 0, 0, 0, 0, 0, 0, [])), (2102, (.ireturn, 2103, false, false, 0, 0, 1, 0, 0, 0, [])), (2103, (.goto 670, 2106, false, true, 2773, 0, 0, 0, 0, 0, [])), (2106, (.aload_n 1, 2107, false, false, 1, 0, 0, 0, 0, 0, [])), (2107, (.invokevirtual 228, 2110, false, false, 318, 0, 1, 14, 0, 0, [])), (2110, (.aload_n 2, 2111, false, false, 2, 0, 0, 0, 0, 0, [])), (2111, (.invokevirtual 231, 2114, false, false, 319, 0, 1, 15, 0, 0, [])), (2114, (.if_icmp .eq 659, 2117, false, true, 2773, 0, 0, 0, 0, 0, [])), (2117, (.iconst 0, 2118, false, false, 0, 0, 0, 0, 0, 0, [])), (2118, (.ireturn, 2119, false, false, 0, 0, 1, 0, 0, 0, [])), (2119, (.aload_n 1, 2120, false, false, 1, 0, 0, 0, 0, 0, [])), (2120, (.aload_n 0, 2121, false, false, 0, 0, 0, 0, 0, 0, [])), (2121, (.iload 4, 2123, false, false, 4, 0, 0, 0, 0, 0, [])), (2123, (.iconst 1, 2124, false, false, 0, 0, 0, 0, 1, 0, [])), (2124, (.iadd, 2125, false, false, 0, 0, 0, 0, 0, 0, [])), (2125, (.iaload, 2126, false, false, 0, 0, 2, 0, 0, 0, [])), (2126, (.aload_n 0, 2127, false, false, 0, 0, 0, 0, 0, 0, [])), (2127, (.iload 4, 2129, false, false, 4, 0, 0, 0, 0, 0, [])), (2129, (.iconst 2, 2130, false, false, 0, 0, 0, 0, 2, 0, [])), (2130, (.iadd, 2131, false, false, 0, 0, 0, 0, 0, 0, [])), (2131, (.iaload, 2132, false, false, 0, 0, 2, 0, 0, 0, [])), (2132, (.aload_n 3, 2133, false, false, 3, 0, 0, 0, 0, 0, [])), (2133, (.invokestatic 232, 2136, true, false, 322, 4, 1, 3, 0, 0, [])), (2136, (.istore 5, 2138, false, false, 5, 0, 0, 0, 0, 0, []))]),
  (2174, [(2138, (.aload_n 2, 2139, false, false, 2, 0, 0, 0, 0, 0, [])), (2139, (.aload_n 0, 2140, false, false, 0, 0, 0, 0, 0, 0, [])), (2140, (.iload 4, 2142, false, false, 4, 0, 0, 0, 0, 0, [])), (2142, (.iconst 1, 2143, false, false, 0, 0, 0, 0, 1, 0, [])), (2143, (.iadd, 2144, false, false, 0, 0, 0, 0, 0, 0, [])), (2144, (.iaload, 2145, false, false, 0, 0, 2, 0, 0, 0, [])), (2145, (.aload_n 0, 2146, false, false, 0, 0, 0, 0, 0, 0, [])), (2146, (.iload 4, 2148, false, false, 4, 0, 0, 0, 0, 0, [])), (2148, (.iconst 2, 2149, false, false, 0, 0, 0, 0, 2, 0, [])), (2149, (.iadd, 2150, false, false, 0, 0, 0, 0, 0, 0, [])), (2150, (.iaload, 2151, false, false, 0, 0, 2, 0, 0, 0, [])), (2151, (.invokevirtual 234, 2154, false, false, 323, 2, 1, 15, 0, 0, [])), (2154, (.istore 6, 2156, false, false, 6, 0, 0, 0, 0, 0, [])), (2156, (.aload_n 2, 2157, false, false, 2, 0, 0, 0, 0, 0, [])), (2157, (.invokevirtual 142, 2160, false, false, 33, 0, 1, 15, 0, 0, [])), (2160, (.iload 5, 2162, false, false, 5, 0, 0, 0, 0, 0, [])), (2162, (.if_icmp .eq 5, 2165, false, false, 2167, 0, 0, 0, 0, 0, [])), (2165, (.iconst 0, 2166, false, false, 0, 0, 0, 0, 0, 0, [])), (2166, (.ireturn, 2167, false, false, 0, 0, 1, 0, 0, 0, [])), (2167, (.iload 5, 2169, false, false, 5, 0, 0, 0, 0, 0, [])), (2169, (.ifCond .ne 15, 2172, false, false, 2184, 0, 0, 0, 0, 0, [])), (2172, (.aload_n 3, 2173, false, false, 3, 0, 0, 0, 0, 0, [])), (2173, (.iconst 0, 2174, false, false, 0, 0, 0, 0, 0, 0, [])), (2174, (.laload, 2175, false, false, 0, 0, 0, 0, 0, 0, []))]),
  (2206, [(2175, (.iload 6, 2177, false, false, 6, 0, 0, 0, 0, 0, [])), (2177, (.i2l, 2178, false, false, 0, 0, 0, 0, 0, 0, [])), (2178, (.lcmp, 2179, false, false, 0, 0, 0, 0, 0, 0, [])), (2179, (.ifCond .eq 5, 2182, false, false, 2184, 0, 0, 0, 0, 0, [])), (2182, (.iconst 0, 2183, false, false, 0, 0, 0, 0, 0, 0, [])), (2183, (.ireturn, 2184, false, false, 0, 0, 1, 0, 0, 0, [])), (2184, (.goto 589, 2187, false, true, 2773, 0, 0, 0, 0, 0, [])), (2187, (.aload_n 1, 2188, false, false, 1, 0, 0, 0, 0, 0, [])), (2188, (.aload_n 0, 2189, false, false, 0, 0, 0, 0, 0, 0, [])), (2189, (.iload 4, 2191, false, false, 4, 0, 0, 0, 0, 0, [])), (2191, (.iconst 1, 2192, false, false, 0, 0, 0, 0, 1, 0, [])), (2192, (.iadd, 2193, false, false, 0, 0, 0, 0, 0, 0, [])), (2193, (.iaload, 2194, false, false, 0, 0, 2, 0, 0, 0, [])), (2194, (.aload_n 0, 2195, false, false, 0, 0, 0, 0, 0, 0, [])), (2195, (.iload 4, 2197, false, false, 4, 0, 0, 0, 0, 0, [])), (2197, (.iconst 2, 2198, false, false, 0, 0, 0, 0, 2, 0, [])), (2198, (.iadd, 2199, false, false, 0, 0, 0, 0, 0, 0, [])), (2199, (.iaload, 2200, false, false, 0, 0, 2, 0, 0, 0, [])), (2200, (.aload_n 0, 2201, false, false, 0, 0, 0, 0, 0, 0, [])), (2201, (.iload 4, 2203, false, false, 4, 0, 0, 0, 0, 0, [])), (2203, (.iconst 3, 2204, false, false, 0, 0, 0, 0, 3, 0, [])), (2204, (.iadd, 2205, false, false, 0, 0, 0, 0, 0, 0, [])), (2205, (.iaload, 2206, false, false, 0, 0, 2, 0, 0, 0, [])), (2206, (.aload_n 3, 2207, false, false, 3, 0, 0, 0, 0, 0, []))]),
  (2242, [(2207, (.invokestatic 235, 2210, true, false, 326, 5, 1, 3, 0, 0, [])), (2210, (.istore 5, 2212, false, false, 5, 0, 0, 0, 0, 0, [])), (2212, (.aload_n 2, 2213, false, false, 2, 0, 0, 0, 0, 0, [])), (2213, (.aload_n 0, 2214, false, false, 0, 0, 0, 0, 0, 0, [])), (2214, (.iload 4, 2216, false, false, 4, 0, 0, 0, 0, 0, [])), (2216, (.iconst 1, 2217, false, false, 0, 0, 0, 0, 1, 0, [])), (2217, (.iadd, 2218, false, false, 0, 0, 0, 0, 0, 0, [])), (2218, (.iaload, 2219, false, false, 0, 0, 2, 0, 0, 0, [])), (2219, (.aload_n 0, 2220, false, false, 0, 0, 0, 0, 0, 0, [])), (2220, (.iload 4, 2222, false, false, 4, 0, 0, 0, 0, 0, [])), (2222, (.iconst 2, 2223, false, false, 0, 0, 0, 0, 2, 0, [])), (2223, (.iadd, 2224, false, false, 0, 0, 0, 0, 0, 0, [])), (2224, (.iaload, 2225, false, false, 0, 0, 2, 0, 0, 0, [])), (2225, (.aload_n 0, 2226, false, false, 0, 0, 0, 0, 0, 0, [])), (2226, (.iload 4, 2228, false, false, 4, 0, 0, 0, 0, 0, [])), (2228, (.iconst 3, 2229, false, false, 0, 0, 0, 0, 3, 0, [])), (2229, (.iadd, 2230, false, false, 0, 0, 0, 0, 0, 0, [])), (2230, (.iaload, 2231, false, false, 0, 0, 2, 0, 0, 0, [])), (2231, (.invokevirtual 237, 2234, false, false, 327, 3, 1, 15, 0, 0, [])), (2234, (.istore 6, 2236, false, false, 6, 0, 0, 0, 0, 0, [])), (2236, (.aload_n 2, 2237, false, false, 2, 0, 0, 0, 0, 0, [])), (2237, (.invokevirtual 142, 2240, false, false, 33, 0, 1, 15, 0, 0, [])), (2240, (.iload 5, 2242, false, false, 5, 0, 0, 0, 0, 0, [])), (2242, (.if_icmp .eq 5, 2245, false, false, 2247, 0, 0, 0, 0, 0, []))]),
  (2278, [(2245, (.iconst 0, 2246, false, false, 0, 0, 0, 0, 0, 0, [])), (2246, (.ireturn, 2247, false, false, 0, 0, 1, 0, 0, 0, [])), (2247, (.iload 5, 2249, false, false, 5, 0, 0, 0, 0, 0, [])), (2249, (.ifCond .ne 15, 2252, false, false, 2264, 0, 0, 0, 0, 0, [])), (2252, (.aload_n 3, 2253, false, false, 3, 0, 0, 0, 0, 0, [])), (2253, (.iconst 0, 2254, false, false, 0, 0, 0, 0, 0, 0, [])), (2254, (.laload, 2255, false, false, 0, 0, 0, 0, 0, 0, [])), (2255, (.iload 6, 2257, false, false, 6, 0, 0, 0, 0, 0, [])), (2257, (.i2l, 2258, false, false, 0, 0, 0, 0, 0, 0, [])), (2258, (.lcmp, 2259, false, false, 0, 0, 0, 0, 0, 0, [])), (2259, (.ifCond .eq 5, 2262, false, false, 2264, 0, 0, 0, 0, 0, [])), (2262, (.iconst 0, 2263, false, false, 0, 0, 0, 0, 0, 0, [])), (2263, (.ireturn, 2264, false, false, 0, 0, 1, 0, 0, 0, [])), (2264, (.goto 509, 2267, false, true, 2773, 0, 0, 0, 0, 0, [])), (2267, (.aload_n 1, 2268, false, false, 1, 0, 0, 0, 0, 0, [])), (2268, (.aload_n 0, 2269, false, false, 0, 0, 0, 0, 0, 0, [])), (2269, (.iload 4, 2271, false, false, 4, 0, 0, 0, 0, 0, [])), (2271, (.iconst 1, 2272, false, false, 0, 0, 0, 0, 1, 0, [])), (2272, (.iadd, 2273, false, false, 0, 0, 0, 0, 0, 0, [])), (2273, (.iaload, 2274, false, false, 0, 0, 2, 0, 0, 0, [])), (2274, (.aload_n 0, 2275, false, false, 0, 0, 0, 0, 0, 0, [])), (2275, (.iload 4, 2277, false, false, 4, 0, 0, 0, 0, 0, [])), (2277, (.iconst 2, 2278, false, false, 0, 0, 0, 0, 2, 0, [])), (2278, (.iadd, 2279, false, false, 0, 0, 0, 0, 0, 0, []))]),
  (2315, [(2279, (.iaload, 2280, false, false, 0, 0, 2, 0, 0, 0, [])), (2280, (.aload_n 3, 2281, false, false, 3, 0, 0, 0, 0, 0, [])), (2281, (.invokestatic 238, 2284, true, false, 330, 4, 1, 3, 0, 0, [])), (2284, (.istore 5, 2286, false, false, 5, 0, 0, 0, 0, 0, [])), (2286, (.aload_n 2, 2287, false, false, 2, 0, 0, 0, 0, 0, [])), (2287, (.aload_n 0, 2288, false, false, 0, 0, 0, 0, 0, 0, [])), (2288, (.iload 4, 2290, false, false, 4, 0, 0, 0, 0, 0, [])), (2290, (.iconst 1, 2291, false, false, 0, 0, 0, 0, 1, 0, [])), (2291, (.iadd, 2292, false, false, 0, 0, 0, 0, 0, 0, [])), (2292, (.iaload, 2293, false, false, 0, 0, 2, 0, 0, 0, [])), (2293, (.aload_n 0, 2294, false, false, 0, 0, 0, 0, 0, 0, [])), (2294, (.iload 4, 2296, false, false, 4, 0, 0, 0, 0, 0, [])), (2296, (.iconst 2, 2297, false, false, 0, 0, 0, 0, 2, 0, [])), (2297, (.iadd, 2298, false, false, 0, 0, 0, 0, 0, 0, [])), (2298, (.iaload, 2299, false, false, 0, 0, 2, 0, 0, 0, [])), (2299, (.invokevirtual 240, 2302, false, false, 331, 2, 1, 15, 0, 0, [])), (2302, (.istore 6, 2304, false, false, 6, 0, 0, 0, 0, 0, [])), (2304, (.aload_n 2, 2305, false, false, 2, 0, 0, 0, 0, 0, [])), (2305, (.invokevirtual 142, 2308, false, false, 33, 0, 1, 15, 0, 0, [])), (2308, (.iload 5, 2310, false, false, 5, 0, 0, 0, 0, 0, [])), (2310, (.if_icmp .eq 5, 2313, false, false, 2315, 0, 0, 0, 0, 0, [])), (2313, (.iconst 0, 2314, false, false, 0, 0, 0, 0, 0, 0, [])), (2314, (.ireturn, 2315, false, false, 0, 0, 1, 0, 0, 0, [])), (2315, (.iload 5, 2317, false, false, 5, 0, 0, 0, 0, 0, []))]),
  (2349, [(2317, (.ifCond .ne 15, 2320, false, false, 2332, 0, 0, 0, 0, 0, [])), (2320, (.aload_n 3, 2321, false, false, 3, 0, 0, 0, 0, 0, [])), (2321, (.iconst 0, 2322, false, false, 0, 0, 0, 0, 0, 0, [])), (2322, (.laload, 2323, false, false, 0, 0, 0, 0, 0, 0, [])), (2323, (.iload 6, 2325, false, false, 6, 0, 0, 0, 0, 0, [])), (2325, (.i2l, 2326, false, false, 0, 0, 0, 0, 0, 0, [])), (2326, (.lcmp, 2327, false, false, 0, 0, 0, 0, 0, 0, [])), (2327, (.ifCond .eq 5, 2330, false, false, 2332, 0, 0, 0, 0, 0, [])), (2330, (.iconst 0, 2331, false, false, 0, 0, 0, 0, 0, 0, [])), (2331, (.ireturn, 2332, false, false, 0, 0, 1, 0, 0, 0, [])), (2332, (.goto 441, 2335, false, true, 2773, 0, 0, 0, 0, 0, [])), (2335, (.aload_n 1, 2336, false, false, 1, 0, 0, 0, 0, 0, [])), (2336, (.aload_n 0, 2337, false, false, 0, 0, 0, 0, 0, 0, [])), (2337, (.iload 4, 2339, false, false, 4, 0, 0, 0, 0, 0, [])), (2339, (.iconst 1, 2340, false, false, 0, 0, 0, 0, 1, 0, [])), (2340, (.iadd, 2341, false, false, 0, 0, 0, 0, 0, 0, [])), (2341, (.iaload, 2342, false, false, 0, 0, 2, 0, 0, 0, [])), (2342, (.aload_n 0, 2343, false, false, 0, 0, 0, 0, 0, 0, [])), (2343, (.iload 4, 2345, false, false, 4, 0, 0, 0, 0, 0, [])), (2345, (.iconst 2, 2346, false, false, 0, 0, 0, 0, 2, 0, [])), (2346, (.iadd, 2347, false, false, 0, 0, 0, 0, 0, 0, [])), (2347, (.iaload, 2348, false, false, 0, 0, 2, 0, 0, 0, [])), (2348, (.aload_n 0, 2349, false, false, 0, 0, 0, 0, 0, 0, [])), (2349, (.iload 4, 2351, false, false, 4, 0, 0, 0, 0, 0, []))]),
  (2382, [(2351, (.iconst 3, 2352, false, false, 0, 0, 0, 0, 3, 0, [])), (2352, (.iadd, 2353, false, false, 0, 0, 0, 0, 0, 0, [])), (2353, (.iaload, 2354, false, false, 0, 0, 2, 0, 0, 0, [])), (2354, (.aload_n 3, 2355, false, false, 3, 0, 0, 0, 0, 0, [])), (2355, (.invokestatic 241, 2358, true, false, 336, 5, 1, 3, 0, 0, [])), (2358, (.istore 5, 2360, false, false, 5, 0, 0, 0, 0, 0, [])), (2360, (.aload_n 2, 2361, false, false, 2, 0, 0, 0, 0, 0, [])), (2361, (.aload_n 0, 2362, false, false, 0, 0, 0, 0, 0, 0, [])), (2362, (.iload 4, 2364, false, false, 4, 0, 0, 0, 0, 0, [])), (2364, (.iconst 1, 2365, false, false, 0, 0, 0, 0, 1, 0, [])), (2365, (.iadd, 2366, false, false, 0, 0, 0, 0, 0, 0, [])), (2366, (.iaload, 2367, false, false, 0, 0, 2, 0, 0, 0, [])), (2367, (.aload_n 0, 2368, false, false, 0, 0, 0, 0, 0, 0, [])), (2368, (.iload 4, 2370, false, false, 4, 0, 0, 0, 0, 0, [])), (2370, (.iconst 2, 2371, false, false, 0, 0, 0, 0, 2, 0, [])), (2371, (.iadd, 2372, false, false, 0, 0, 0, 0, 0, 0, [])), (2372, (.iaload, 2373, false, false, 0, 0, 2, 0, 0, 0, [])), (2373, (.aload_n 0, 2374, false, false, 0, 0, 0, 0, 0, 0, [])), (2374, (.iload 4, 2376, false, false, 4, 0, 0, 0, 0, 0, [])), (2376, (.iconst 3, 2377, false, false, 0, 0, 0, 0, 3, 0, [])), (2377, (.iadd, 2378, false, false, 0, 0, 0, 0, 0, 0, [])), (2378, (.iaload, 2379, false, false, 0, 0, 2, 0, 0, 0, [])), (2379, (.invokevirtual 243, 2382, false, false, 340, 3, 1, 15, 0, 0, [])), (2382, (.istore 6, 2384, true, false, 6, 0, 0, 0, 0, 0, []))]),
  (2421, [(2384, (.aload_n 2, 2385, false, false, 2, 0, 0, 0, 0, 0, [])), (2385, (.invokevirtual 142, 2388, false, false, 33, 0, 1, 15, 0, 0, [])), (2388, (.iload 5, 2390, false, false, 5, 0, 0, 0, 0, 0, [])), (2390, (.if_icmp .eq 5, 2393, false, false, 2395, 0, 0, 0, 0, 0, [])), (2393, (.iconst 0, 2394, false, false, 0, 0, 0, 0, 0, 0, [])), (2394, (.ireturn, 2395, false, false, 0, 0, 1, 0, 0, 0, [])), (2395, (.iload 5, 2397, false, false, 5, 0, 0, 0, 0, 0, [])), (2397, (.ifCond .ne 15, 2400, false, false, 2412, 0, 0, 0, 0, 0, [])), (2400, (.aload_n 3, 2401, false, false, 3, 0, 0, 0, 0, 0, [])), (2401, (.iconst 0, 2402, false, false, 0, 0, 0, 0, 0, 0, [])), (2402, (.laload, 2403, false, false, 0, 0, 0, 0, 0, 0, [])), (2403, (.iload 6, 2405, false, false, 6, 0, 0, 0, 0, 0, [])), (2405, (.i2l, 2406, false, false, 0, 0, 0, 0, 0, 0, [])), (2406, (.lcmp, 2407, false, false, 0, 0, 0, 0, 0, 0, [])), (2407, (.ifCond .eq 5, 2410, false, false, 2412, 0, 0, 0, 0, 0, [])), (2410, (.iconst 0, 2411, false, false, 0, 0, 0, 0, 0, 0, [])), (2411, (.ireturn, 2412, false, false, 0, 0, 1, 0, 0, 0, [])), (2412, (.goto 361, 2415, false, true, 2773, 0, 0, 0, 0, 0, [])), (2415, (.aload_n 1, 2416, false, false, 1, 0, 0, 0, 0, 0, [])), (2416, (.aload_n 0, 2417, false, false, 0, 0, 0, 0, 0, 0, [])), (2417, (.iload 4, 2419, false, false, 4, 0, 0, 0, 0, 0, [])), (2419, (.iconst 1, 2420, false, false, 0, 0, 0, 0, 1, 0, [])), (2420, (.iadd, 2421, false, false, 0, 0, 0, 0, 0, 0, [])), (2421, (.iaload, 2422, false, false, 0, 0, 2, 0, 0, 0, []))]),
  (2456, [(2422, (.aload_n 0, 2423, false, false, 0, 0, 0, 0, 0, 0, [])), (2423, (.iload 4, 2425, false, false, 4, 0, 0, 0, 0, 0, [])), (2425, (.iconst 2, 2426, false, false, 0, 0, 0, 0, 2, 0, [])), (2426, (.iadd, 2427, false, false, 0, 0, 0, 0, 0, 0, [])), (2427, (.iaload, 2428, false, false, 0, 0, 2, 0, 0, 0, [])), (2428, (.aload_n 3, 2429, false, false, 3, 0, 0, 0, 0, 0, [])), (2429, (.invokestatic 244, 2432, true, false, 344, 4, 1, 3, 0, 0, [])), (2432, (.istore 5, 2434, false, false, 5, 0, 0, 0, 0, 0, [])), (2434, (.aload_n 2, 2435, false, false, 2, 0, 0, 0, 0, 0, [])), (2435, (.aload_n 0, 2436, false, false, 0, 0, 0, 0, 0, 0, [])), (2436, (.iload 4, 2438, false, false, 4, 0, 0, 0, 0, 0, [])), (2438, (.iconst 1, 2439, false, false, 0, 0, 0, 0, 1, 0, [])), (2439, (.iadd, 2440, false, false, 0, 0, 0, 0, 0, 0, [])), (2440, (.iaload, 2441, false, false, 0, 0, 2, 0, 0, 0, [])), (2441, (.aload_n 0, 2442, false, false, 0, 0, 0, 0, 0, 0, [])), (2442, (.iload 4, 2444, false, false, 4, 0, 0, 0, 0, 0, [])), (2444, (.iconst 2, 2445, false, false, 0, 0, 0, 0, 2, 0, [])), (2445, (.iadd, 2446, false, false, 0, 0, 0, 0, 0, 0, [])), (2446, (.iaload, 2447, false, false, 0, 0, 2, 0, 0, 0, [])), (2447, (.invokevirtual 246, 2450, false, false, 345, 2, 1, 15, 0, 0, [])), (2450, (.istore 6, 2452, false, false, 6, 0, 0, 0, 0, 0, [])), (2452, (.aload_n 2, 2453, false, false, 2, 0, 0, 0, 0, 0, [])), (2453, (.invokevirtual 142, 2456, false, false, 33, 0, 1, 15, 0, 0, [])), (2456, (.iload 5, 2458, false, false, 5, 0, 0, 0, 0, 0, []))]),
  (2493, [(2458, (.if_icmp .eq 5, 2461, false, false, 2463, 0, 0, 0, 0, 0, [])), (2461, (.iconst 0, 2462, false, false, 0, 0, 0, 0, 0, 0, [])), (2462, (.ireturn, 2463, false, false, 0, 0, 1, 0, 0, 0, [])), (2463, (.iload 5, 2465, false, false, 5, 0, 0, 0, 0, 0, [])), (2465, (.ifCond .ne 15, 2468, false, false, 2480, 0, 0, 0, 0, 0, [])), (2468, (.aload_n 3, 2469, false, false, 3, 0, 0, 0, 0, 0, [])), (2469, (.iconst 0, 2470, false, false, 0, 0, 0, 0, 0, 0, [])), (2470, (.laload, 2471, false, false, 0, 0, 0, 0, 0, 0, [])), (2471, (.iload 6, 2473, false, false, 6, 0, 0, 0, 0, 0, [])), (2473, (.i2l, 2474, false, false, 0, 0, 0, 0, 0, 0, [])), (2474, (.lcmp, 2475, false, false, 0, 0, 0, 0, 0, 0, [])), (2475, (.ifCond .eq 5, 2478, false, false, 2480, 0, 0, 0, 0, 0, [])), (2478, (.iconst 0, 2479, false, false, 0, 0, 0, 0, 0, 0, [])), (2479, (.ireturn, 2480, false, false, 0, 0, 1, 0, 0, 0, [])), (2480, (.goto 293, 2483, false, true, 2773, 0, 0, 0, 0, 0, [])), (2483, (.aload_n 1, 2484, false, false, 1, 0, 0, 0, 0, 0, [])), (2484, (.aload_n 0, 2485, false, false, 0, 0, 0, 0, 0, 0, [])), (2485, (.iload 4, 2487, false, false, 4, 0, 0, 0, 0, 0, [])), (2487, (.iconst 1, 2488, false, false, 0, 0, 0, 0, 1, 0, [])), (2488, (.iadd, 2489, false, false, 0, 0, 0, 0, 0, 0, [])), (2489, (.iaload, 2490, false, false, 0, 0, 2, 0, 0, 0, [])), (2490, (.aload_n 0, 2491, false, false, 0, 0, 0, 0, 0, 0, [])), (2491, (.iload 4, 2493, false, false, 4, 0, 0, 0, 0, 0, [])), (2493, (.iconst 2, 2494, false, false, 0, 0, 0, 0, 2, 0, []))]),
  (2524, [(2494, (.iadd, 2495, false, false, 0, 0, 0, 0, 0, 0, [])), (2495, (.iaload, 2496, false, false, 0, 0, 2, 0, 0, 0, [])), (2496, (.aload_n 0, 2497, false, false, 0, 0, 0, 0, 0, 0, [])), (2497, (.iload 4, 2499, false, false, 4, 0, 0, 0, 0, 0, [])), (2499, (.iconst 3, 2500, false, false, 0, 0, 0, 0, 3, 0, [])), (2500, (.iadd, 2501, false, false, 0, 0, 0, 0, 0, 0, [])), (2501, (.iaload, 2502, false, false, 0, 0, 2, 0, 0, 0, [])), (2502, (.aload_n 3, 2503, false, false, 3, 0, 0, 0, 0, 0, [])), (2503, (.invokestatic 247, 2506, true, false, 351, 5, 1, 3, 0, 0, [])), (2506, (.istore 5, 2508, false, false, 5, 0, 0, 0, 0, 0, [])), (2508, (.aload_n 2, 2509, false, false, 2, 0, 0, 0, 0, 0, [])), (2509, (.aload_n 0, 2510, false, false, 0, 0, 0, 0, 0, 0, [])), (2510, (.iload 4, 2512, false, false, 4, 0, 0, 0, 0, 0, [])), (2512, (.iconst 1, 2513, false, false, 0, 0, 0, 0, 1, 0, [])), (2513, (.iadd, 2514, false, false, 0, 0, 0, 0, 0, 0, [])), (2514, (.iaload, 2515, false, false, 0, 0, 2, 0, 0, 0, [])), (2515, (.aload_n 0, 2516, false, false, 0, 0, 0, 0, 0, 0, [])), (2516, (.iload 4, 2518, false, false, 4, 0, 0, 0, 0, 0, [])), (2518, (.iconst 2, 2519, false, false, 0, 0, 0, 0, 2, 0, [])), (2519, (.iadd, 2520, false, false, 0, 0, 0, 0, 0, 0, [])), (2520, (.iaload, 2521, false, false, 0, 0, 2, 0, 0, 0, [])), (2521, (.aload_n 0, 2522, false, false, 0, 0, 0, 0, 0, 0, [])), (2522, (.iload 4, 2524, false, false, 4, 0, 0, 0, 0, 0, [])), (2524, (.iconst 3, 2525, false, false, 0, 0, 0, 0, 3, 0, []))]),
  (2564, [(2525, (.iadd, 2526, false, false, 0, 0, 0, 0, 0, 0, [])), (2526, (.iaload, 2527, false, false, 0, 0, 2, 0, 0, 0, [])), (2527, (.invokevirtual 249, 2530, false, false, 354, 3, 1, 15, 0, 0, [])), (2530, (.istore 6, 2532, true, false, 6, 0, 0, 0, 0, 0, [])), (2532, (.aload_n 2, 2533, false, false, 2, 0, 0, 0, 0, 0, [])), (2533, (.invokevirtual 142, 2536, false, false, 33, 0, 1, 15, 0, 0, [])), (2536, (.iload 5, 2538, false, false, 5, 0, 0, 0, 0, 0, [])), (2538, (.if_icmp .eq 5, 2541, false, false, 2543, 0, 0, 0, 0, 0, [])), (2541, (.iconst 0, 2542, false, false, 0, 0, 0, 0, 0, 0, [])), (2542, (.ireturn, 2543, false, false, 0, 0, 1, 0, 0, 0, [])), (2543, (.iload 5, 2545, false, false, 5, 0, 0, 0, 0, 0, [])), (2545, (.ifCond .ne 15, 2548, false, false, 2560, 0, 0, 0, 0, 0, [])), (2548, (.aload_n 3, 2549, false, false, 3, 0, 0, 0, 0, 0, [])), (2549, (.iconst 0, 2550, false, false, 0, 0, 0, 0, 0, 0, [])), (2550, (.laload, 2551, false, false, 0, 0, 0, 0, 0, 0, [])), (2551, (.iload 6, 2553, false, false, 6, 0, 0, 0, 0, 0, [])), (2553, (.i2l, 2554, false, false, 0, 0, 0, 0, 0, 0, [])), (2554, (.lcmp, 2555, false, false, 0, 0, 0, 0, 0, 0, [])), (2555, (.ifCond .eq 5, 2558, false, false, 2560, 0, 0, 0, 0, 0, [])), (2558, (.iconst 0, 2559, false, false, 0, 0, 0, 0, 0, 0, [])), (2559, (.ireturn, 2560, false, false, 0, 0, 1, 0, 0, 0, [])), (2560, (.goto 213, 2563, false, true, 2773, 0, 0, 0, 0, 0, [])), (2563, (.aload_n 1, 2564, false, false, 1, 0, 0, 0, 0, 0, [])), (2564, (.aload_n 0, 2565, false, false, 0, 0, 0, 0, 0, 0, []))]),
  (2595, [(2565, (.iload 4, 2567, false, false, 4, 0, 0, 0, 0, 0, [])), (2567, (.iconst 1, 2568, false, false, 0, 0, 0, 0, 1, 0, [])), (2568, (.iadd, 2569, false, false, 0, 0, 0, 0, 0, 0, [])), (2569, (.iaload, 2570, false, false, 0, 0, 2, 0, 0, 0, [])), (2570, (.aload_n 0, 2571, false, false, 0, 0, 0, 0, 0, 0, [])), (2571, (.iload 4, 2573, false, false, 4, 0, 0, 0, 0, 0, [])), (2573, (.iconst 2, 2574, false, false, 0, 0, 0, 0, 2, 0, [])), (2574, (.iadd, 2575, false, false, 0, 0, 0, 0, 0, 0, [])), (2575, (.iaload, 2576, false, false, 0, 0, 2, 0, 0, 0, [])), (2576, (.aload_n 3, 2577, false, false, 3, 0, 0, 0, 0, 0, [])), (2577, (.invokestatic 250, 2580, true, false, 356, 4, 1, 3, 0, 0, [])), (2580, (.istore 5, 2582, false, false, 5, 0, 0, 0, 0, 0, [])), (2582, (.aload_n 2, 2583, false, false, 2, 0, 0, 0, 0, 0, [])), (2583, (.aload_n 0, 2584, false, false, 0, 0, 0, 0, 0, 0, [])), (2584, (.iload 4, 2586, false, false, 4, 0, 0, 0, 0, 0, [])), (2586, (.iconst 1, 2587, false, false, 0, 0, 0, 0, 1, 0, [])), (2587, (.iadd, 2588, false, false, 0, 0, 0, 0, 0, 0, [])), (2588, (.iaload, 2589, false, false, 0, 0, 2, 0, 0, 0, [])), (2589, (.aload_n 0, 2590, false, false, 0, 0, 0, 0, 0, 0, [])), (2590, (.iload 4, 2592, false, false, 4, 0, 0, 0, 0, 0, [])), (2592, (.iconst 2, 2593, false, false, 0, 0, 0, 0, 2, 0, [])), (2593, (.iadd, 2594, false, false, 0, 0, 0, 0, 0, 0, [])), (2594, (.iaload, 2595, false, false, 0, 0, 2, 0, 0, 0, [])), (2595, (.invokevirtual 252, 2598, false, false, 358, 2, 1, 15, 0, 0, []))]),
  (2636, [(2598, (.istore 6, 2600, false, false, 6, 0, 0, 0, 0, 0, [])), (2600, (.aload_n 2, 2601, false, false, 2, 0, 0, 0, 0, 0, [])), (2601, (.invokevirtual 142, 2604, false, false, 33, 0, 1, 15, 0, 0, [])), (2604, (.iload 5, 2606, false, false, 5, 0, 0, 0, 0, 0, [])), (2606, (.if_icmp .eq 5, 2609, false, false, 2611, 0, 0, 0, 0, 0, [])), (2609, (.iconst 0, 2610, false, false, 0, 0, 0, 0, 0, 0, [])), (2610, (.ireturn, 2611, false, false, 0, 0, 1, 0, 0, 0, [])), (2611, (.iload 5, 2613, false, false, 5, 0, 0, 0, 0, 0, [])), (2613, (.ifCond .ne 15, 2616, false, false, 2628, 0, 0, 0, 0, 0, [])), (2616, (.aload_n 3, 2617, false, false, 3, 0, 0, 0, 0, 0, [])), (2617, (.iconst 0, 2618, false, false, 0, 0, 0, 0, 0, 0, [])), (2618, (.laload, 2619, false, false, 0, 0, 0, 0, 0, 0, [])), (2619, (.iload 6, 2621, false, false, 6, 0, 0, 0, 0, 0, [])), (2621, (.i2l, 2622, false, false, 0, 0, 0, 0, 0, 0, [])), (2622, (.lcmp, 2623, false, false, 0, 0, 0, 0, 0, 0, [])), (2623, (.ifCond .eq 5, 2626, false, false, 2628, 0, 0, 0, 0, 0, [])), (2626, (.iconst 0, 2627, false, false, 0, 0, 0, 0, 0, 0, [])), (2627, (.ireturn, 2628, false, false, 0, 0, 1, 0, 0, 0, [])), (2628, (.goto 145, 2631, false, true, 2773, 0, 0, 0, 0, 0, [])), (2631, (.aload_n 1, 2632, false, false, 1, 0, 0, 0, 0, 0, [])), (2632, (.aload_n 0, 2633, false, false, 0, 0, 0, 0, 0, 0, [])), (2633, (.iload 4, 2635, false, false, 4, 0, 0, 0, 0, 0, [])), (2635, (.iconst 1, 2636, false, false, 0, 0, 0, 0, 1, 0, [])), (2636, (.iadd, 2637, false, false, 0, 0, 0, 0, 0, 0, []))]),
  (2667, [(2637, (.iaload, 2638, false, false, 0, 0, 2, 0, 0, 0, [])), (2638, (.aload_n 0, 2639, false, false, 0, 0, 0, 0, 0, 0, [])), (2639, (.iload 4, 2641, false, false, 4, 0, 0, 0, 0, 0, [])), (2641, (.iconst 2, 2642, false, false, 0, 0, 0, 0, 2, 0, [])), (2642, (.iadd, 2643, false, false, 0, 0, 0, 0, 0, 0, [])), (2643, (.iaload, 2644, false, false, 0, 0, 2, 0, 0, 0, [])), (2644, (.aload_n 0, 2645, false, false, 0, 0, 0, 0, 0, 0, [])), (2645, (.iload 4, 2647, false, false, 4, 0, 0, 0, 0, 0, [])), (2647, (.iconst 3, 2648, false, false, 0, 0, 0, 0, 3, 0, [])), (2648, (.iadd, 2649, false, false, 0, 0, 0, 0, 0, 0, [])), (2649, (.iaload, 2650, false, false, 0, 0, 2, 0, 0, 0, [])), (2650, (.aload_n 3, 2651, false, false, 3, 0, 0, 0, 0, 0, [])), (2651, (.invokestatic 253, 2654, true, false, 360, 5, 1, 3, 0, 0, [])), (2654, (.istore 5, 2656, false, false, 5, 0, 0, 0, 0, 0, [])), (2656, (.aload_n 2, 2657, false, false, 2, 0, 0, 0, 0, 0, [])), (2657, (.aload_n 0, 2658, false, false, 0, 0, 0, 0, 0, 0, [])), (2658, (.iload 4, 2660, false, false, 4, 0, 0, 0, 0, 0, [])), (2660, (.iconst 1, 2661, false, false, 0, 0, 0, 0, 1, 0, [])), (2661, (.iadd, 2662, false, false, 0, 0, 0, 0, 0, 0, [])), (2662, (.iaload, 2663, false, false, 0, 0, 2, 0, 0, 0, [])), (2663, (.aload_n 0, 2664, false, false, 0, 0, 0, 0, 0, 0, [])), (2664, (.iload 4, 2666, false, false, 4, 0, 0, 0, 0, 0, [])), (2666, (.iconst 2, 2667, false, false, 0, 0, 0, 0, 2, 0, [])), (2667, (.iadd, 2668, false, false, 0, 0, 0, 0, 0, 0, []))]),
  (2706, [(2668, (.iaload, 2669, false, false, 0, 0, 2, 0, 0, 0, [])), (2669, (.aload_n 0, 2670, false, false, 0, 0, 0, 0, 0, 0, [])), (2670, (.iload 4, 2672, false, false, 4, 0, 0, 0, 0, 0, [])), (2672, (.iconst 3, 2673, false, false, 0, 0, 0, 0, 3, 0, [])), (2673, (.iadd, 2674, false, false, 0, 0, 0, 0, 0, 0, [])), (2674, (.iaload, 2675, false, false, 0, 0, 2, 0, 0, 0, [])), (2675, (.invokevirtual 255, 2678, false, false, 361, 3, 1, 15, 0, 0, [])), (2678, (.istore 6, 2680, true, false, 6, 0, 0, 0, 0, 0, [])), (2680, (.aload_n 2, 2681, false, false, 2, 0, 0, 0, 0, 0, [])), (2681, (.invokevirtual 142, 2684, false, false, 33, 0, 1, 15, 0, 0, [])), (2684, (.iload 5, 2686, false, false, 5, 0, 0, 0, 0, 0, [])), (2686, (.if_icmp .eq 5, 2689, false, false, 2691, 0, 0, 0, 0, 0, [])), (2689, (.iconst 0, 2690, false, false, 0, 0, 0, 0, 0, 0, [])), (2690, (.ireturn, 2691, false, false, 0, 0, 1, 0, 0, 0, [])), (2691, (.iload 5, 2693, false, false, 5, 0, 0, 0, 0, 0, [])), (2693, (.ifCond .ne 15, 2696, false, false, 2708, 0, 0, 0, 0, 0, [])), (2696, (.aload_n 3, 2697, false, false, 3, 0, 0, 0, 0, 0, [])), (2697, (.iconst 0, 2698, false, false, 0, 0, 0, 0, 0, 0, [])), (2698, (.laload, 2699, false, false, 0, 0, 0, 0, 0, 0, [])), (2699, (.iload 6, 2701, false, false, 6, 0, 0, 0, 0, 0, [])), (2701, (.i2l, 2702, false, false, 0, 0, 0, 0, 0, 0, [])), (2702, (.lcmp, 2703, false, false, 0, 0, 0, 0, 0, 0, [])), (2703, (.ifCond .eq 5, 2706, false, false, 2708, 0, 0, 0, 0, 0, [])), (2706, (.iconst 0, 2707, false, false, 0, 0, 0, 0, 0, 0, []))]),
  (2750, [(2707, (.ireturn, 2708, false, false, 0, 0, 1, 0, 0, 0, [])), (2708, (.goto 65, 2711, false, true, 2773, 0, 0, 0, 0, 0, [])), (2711, (.aload_n 1, 2712, false, false, 1, 0, 0, 0, 0, 0, [])), (2712, (.invokevirtual 256, 2715, false, false, 363, 0, 1, 14, 0, 0, [])), (2715, (.aload_n 2, 2716, false, false, 2, 0, 0, 0, 0, 0, [])), (2716, (.invokevirtual 259, 2719, false, false, 364, 0, 1, 15, 0, 0, [])), (2719, (.if_icmp .eq 54, 2722, false, true, 2773, 0, 0, 0, 0, 0, [])), (2722, (.iconst 0, 2723, false, false, 0, 0, 0, 0, 0, 0, [])), (2723, (.ireturn, 2724, false, false, 0, 0, 1, 0, 0, 0, [])), (2724, (.aload_n 1, 2725, false, false, 1, 0, 0, 0, 0, 0, [])), (2725, (.invokevirtual 260, 2728, false, false, 373, 0, 0, 14, 0, 0, [])), (2728, (.aload_n 2, 2729, false, false, 2, 0, 0, 0, 0, 0, [])), (2729, (.invokevirtual 263, 2732, false, false, 374, 0, 0, 15, 0, 0, [])), (2732, (.goto 41, 2735, false, true, 2773, 0, 0, 0, 0, 0, [])), (2735, (.aload_n 1, 2736, false, false, 1, 0, 0, 0, 0, 0, [])), (2736, (.invokevirtual 264, 2739, false, false, 375, 0, 1, 14, 0, 0, [])), (2739, (.aload_n 2, 2740, false, false, 2, 0, 0, 0, 0, 0, [])), (2740, (.invokevirtual 268, 2743, false, false, 376, 0, 1, 15, 0, 0, [])), (2743, (.if_icmp .eq 30, 2746, false, true, 2773, 0, 0, 0, 0, 0, [])), (2746, (.iconst 0, 2747, false, false, 0, 0, 0, 0, 0, 0, [])), (2747, (.ireturn, 2748, false, false, 0, 0, 1, 0, 0, 0, [])), (2748, (.aload_n 1, 2749, false, false, 1, 0, 0, 0, 0, 0, [])), (2749, (.aload_n 0, 2750, false, false, 0, 0, 0, 0, 0, 0, [])), (2750, (.iload 4, 2752, false, false, 4, 0, 0, 0, 0, 0, []))]),
  (2780, [(2752, (.iconst 1, 2753, false, false, 0, 0, 0, 0, 1, 0, [])), (2753, (.iadd, 2754, false, false, 0, 0, 0, 0, 0, 0, [])), (2754, (.iaload, 2755, false, false, 0, 0, 2, 0, 0, 0, [])), (2755, (.invokevirtual 269, 2758, false, false, 383, 1, 1, 14, 0, 0, [])), (2758, (.aload_n 2, 2759, false, false, 2, 0, 0, 0, 0, 0, [])), (2759, (.aload_n 0, 2760, false, false, 0, 0, 0, 0, 0, 0, [])), (2760, (.iload 4, 2762, false, false, 4, 0, 0, 0, 0, 0, [])), (2762, (.iconst 1, 2763, false, false, 0, 0, 0, 0, 1, 0, [])), (2763, (.iadd, 2764, false, false, 0, 0, 0, 0, 0, 0, [])), (2764, (.iaload, 2765, false, false, 0, 0, 2, 0, 0, 0, [])), (2765, (.invokevirtual 272, 2768, false, false, 386, 1, 1, 15, 0, 0, [])), (2768, (.if_icmp .eq 5, 2771, false, true, 2773, 0, 0, 0, 0, 0, [])), (2771, (.iconst 0, 2772, false, false, 0, 0, 0, 0, 0, 0, [])), (2772, (.ireturn, 2773, false, false, 0, 0, 1, 0, 0, 0, [])), (2773, (.iinc 4 7, 2776, false, false, 4, 0, 0, 0, 7, 0, [])), (2776, (.goto (-2753), 2779, false, true, 23, 0, 0, 0, 0, 0, [])), (2779, (.iconst 1, 2780, false, false, 0, 0, 0, 0, 1, 0, [])), (2780, (.ireturn, 2781, false, false, 0, 0, 1, 0, 0, 0, []))])], 2, [])
set_option maxRecDepth 100000 in
theorem v_L_law : VE MYT dflT E_L_law := ⟨⟨⟨⟨⟨dL_law_0, rfl⟩, Or.inl ⟨rfl, _, rfl, nL_8⟩⟩, ⟨⟨dL_law_3, rfl⟩, trivial⟩, ⟨⟨dL_law_4, rfl⟩, Or.inl ⟨rfl, _, my_11, sL_124⟩⟩, ⟨⟨dL_law_7, rfl⟩, rfl⟩, ⟨⟨dL_law_8, rfl⟩, Or.inl ⟨rfl, _, rfl, nL_125⟩⟩, ⟨⟨dL_law_11, rfl⟩, trivial⟩, ⟨⟨dL_law_12, rfl⟩, Or.inl ⟨rfl, _, my_13, sL_127⟩⟩, ⟨⟨dL_law_15, rfl⟩, rfl⟩, ⟨⟨dL_law_16, rfl⟩, rfl⟩, ⟨⟨dL_law_17, rfl⟩, Or.inr (Or.inr (Or.inr ⟨rfl, rfl, a_long⟩))⟩, ⟨⟨dL_law_19, rfl⟩, rfl⟩, ⟨⟨dL_law_20, rfl⟩, rfl⟩, ⟨⟨dL_law_21, rfl⟩, rfl⟩, ⟨⟨dL_law_23, rfl⟩, rfl⟩, ⟨⟨dL_law_25, rfl⟩, rfl⟩, ⟨⟨dL_law_26, rfl⟩, trivial⟩, ⟨⟨dL_law_27, rfl⟩, rfl⟩, ⟨⟨dL_law_29, rfl⟩, trivial⟩, ⟨⟨dL_law_30, rfl⟩, rfl⟩, ⟨⟨dL_law_33, rfl⟩, rfl⟩, ⟨⟨dL_law_34, rfl⟩, rfl⟩, ⟨⟨dL_law_36, rfl⟩, trivial⟩, ⟨⟨dL_law_37, rfl⟩, rfl⟩, ⟨⟨dL_law_39, rfl⟩, trivial⟩, trivial⟩,
  ⟨⟨⟨_, dL_law_40⟩, ⟨rfl, rfl, rfl, rfl, rfl, rfl, rfl, rfl, rfl, rfl, rfl, rfl, rfl, rfl, rfl, rfl, rfl, rfl, rfl, rfl, rfl, rfl, rfl, rfl, rfl, rfl, rfl, rfl, rfl, rfl, rfl, rfl, rfl, rfl, rfl, rfl, rfl, rfl, rfl, rfl, rfl, rfl, rfl, rfl, rfl, rfl, rfl, rfl, rfl, rfl, rfl, rfl, rfl, rfl, rfl, rfl, rfl, rfl, rfl, rfl, rfl, rfl, rfl, rfl, rfl, rfl, rfl, rfl, rfl, rfl, rfl, rfl, rfl, rfl, rfl, rfl, rfl, rfl, rfl, rfl, rfl, rfl, trivial⟩⟩, ⟨⟨dL_law_216, rfl⟩, rfl⟩, ⟨⟨dL_law_217, rfl⟩, rfl⟩, ⟨⟨dL_law_218, rfl⟩, rfl⟩, ⟨⟨dL_law_220, rfl⟩, rfl⟩, ⟨⟨dL_law_221, rfl⟩, trivial⟩, ⟨⟨dL_law_222, rfl⟩, trivial⟩, ⟨⟨dL_law_223, rfl⟩, rfl⟩, ⟨⟨dL_law_224, rfl⟩, rfl⟩, ⟨⟨dL_law_226, rfl⟩, rfl⟩, ⟨⟨dL_law_227, rfl⟩, trivial⟩, ⟨⟨dL_law_228, rfl⟩, trivial⟩, ⟨⟨dL_law_229, rfl⟩, rfl⟩, ⟨⟨dL_law_230, rfl⟩, rfl⟩, ⟨⟨dL_law_232, rfl⟩, rfl⟩, ⟨⟨dL_law_233, rfl⟩, trivial⟩, ⟨⟨dL_law_234, rfl⟩, trivial⟩, ⟨⟨dL_law_235, rfl⟩, rfl⟩, ⟨⟨dL_law_236, rfl⟩, rfl⟩, ⟨⟨dL_law_238, rfl⟩, rfl⟩, ⟨⟨dL_law_239, rfl⟩, trivial⟩, ⟨⟨dL_law_240, rfl⟩, trivial⟩, ⟨⟨dL_law_241, rfl⟩, rfl⟩, ⟨⟨dL_law_242, rfl⟩, rfl⟩, trivial⟩,
  ⟨⟨⟨dL_law_244, rfl⟩, rfl⟩, ⟨⟨dL_law_245, rfl⟩, trivial⟩, ⟨⟨dL_law_246, rfl⟩, trivial⟩, ⟨⟨dL_law_247, rfl⟩, Or.inr ⟨by decide, ⟨_, my_15, sL_128⟩, fun q => absurd q (by decide)⟩⟩, ⟨⟨dL_law_250, rfl⟩, rfl⟩, ⟨⟨dL_law_251, rfl⟩, rfl⟩, ⟨⟨dL_law_252, rfl⟩, rfl⟩, ⟨⟨dL_law_254, rfl⟩, rfl⟩, ⟨⟨dL_law_255, rfl⟩, trivial⟩, ⟨⟨dL_law_256, rfl⟩, trivial⟩, ⟨⟨dL_law_257, rfl⟩, rfl⟩, ⟨⟨dL_law_258, rfl⟩, rfl⟩, ⟨⟨dL_law_260, rfl⟩, rfl⟩, ⟨⟨dL_law_261, rfl⟩, trivial⟩, ⟨⟨dL_law_262, rfl⟩, trivial⟩, ⟨⟨dL_law_263, rfl⟩, rfl⟩, ⟨⟨dL_law_264, rfl⟩, rfl⟩, ⟨⟨dL_law_266, rfl⟩, rfl⟩, ⟨⟨dL_law_267, rfl⟩, trivial⟩, ⟨⟨dL_law_268, rfl⟩, trivial⟩, ⟨⟨dL_law_269, rfl⟩, rfl⟩, ⟨⟨dL_law_270, rfl⟩, rfl⟩, ⟨⟨dL_law_272, rfl⟩, rfl⟩, ⟨⟨dL_law_273, rfl⟩, trivial⟩, trivial⟩,
  ⟨⟨⟨dL_law_274, rfl⟩, trivial⟩, ⟨⟨dL_law_275, rfl⟩, rfl⟩, ⟨⟨dL_law_276, rfl⟩, rfl⟩, ⟨⟨dL_law_278, rfl⟩, rfl⟩, ⟨⟨dL_law_279, rfl⟩, trivial⟩, ⟨⟨dL_law_280, rfl⟩, trivial⟩, ⟨⟨dL_law_281, rfl⟩, Or.inr ⟨by decide, ⟨_, my_16, sL_131⟩, fun q => absurd q (by decide)⟩⟩, ⟨⟨dL_law_284, rfl⟩, rfl⟩, ⟨⟨dL_law_287, rfl⟩, rfl⟩, ⟨⟨dL_law_288, rfl⟩, Or.inr (Or.inl ⟨rfl, rfl⟩)⟩, ⟨⟨dL_law_289, rfl⟩, rfl⟩, ⟨⟨dL_law_290, rfl⟩, rfl⟩, ⟨⟨dL_law_291, rfl⟩, rfl⟩, ⟨⟨dL_law_293, rfl⟩, rfl⟩, ⟨⟨dL_law_294, rfl⟩, trivial⟩, ⟨⟨dL_law_295, rfl⟩, trivial⟩, ⟨⟨dL_law_296, rfl⟩, Or.inr ⟨by decide, ⟨_, my_17, sL_132⟩, fun q => absurd q (by decide)⟩⟩, ⟨⟨dL_law_299, rfl⟩, rfl⟩, ⟨⟨dL_law_300, rfl⟩, rfl⟩, ⟨⟨dL_law_301, rfl⟩, rfl⟩, ⟨⟨dL_law_303, rfl⟩, rfl⟩, ⟨⟨dL_law_304, rfl⟩, trivial⟩, ⟨⟨dL_law_305, rfl⟩, trivial⟩, ⟨⟨dL_law_306, rfl⟩, Or.inr ⟨by decide, ⟨_, my_18, sL_135⟩, fun q => absurd q (by decide)⟩⟩, trivial⟩,
  ⟨⟨⟨dL_law_309, rfl⟩, rfl⟩, ⟨⟨dL_law_312, rfl⟩, rfl⟩, ⟨⟨dL_law_313, rfl⟩, Or.inr (Or.inl ⟨rfl, rfl⟩)⟩, ⟨⟨dL_law_314, rfl⟩, rfl⟩, ⟨⟨dL_law_315, rfl⟩, rfl⟩, ⟨⟨dL_law_316, rfl⟩, rfl⟩, ⟨⟨dL_law_318, rfl⟩, rfl⟩, ⟨⟨dL_law_319, rfl⟩, trivial⟩, ⟨⟨dL_law_320, rfl⟩, trivial⟩, ⟨⟨dL_law_321, rfl⟩, rfl⟩, ⟨⟨dL_law_322, rfl⟩, rfl⟩, ⟨⟨dL_law_324, rfl⟩, rfl⟩, ⟨⟨dL_law_325, rfl⟩, trivial⟩, ⟨⟨dL_law_326, rfl⟩, trivial⟩, ⟨⟨dL_law_327, rfl⟩, rfl⟩, ⟨⟨dL_law_328, rfl⟩, rfl⟩, ⟨⟨dL_law_330, rfl⟩, rfl⟩, ⟨⟨dL_law_331, rfl⟩, trivial⟩, ⟨⟨dL_law_332, rfl⟩, trivial⟩, ⟨⟨dL_law_333, rfl⟩, rfl⟩, ⟨⟨dL_law_334, rfl⟩, rfl⟩, ⟨⟨dL_law_336, rfl⟩, rfl⟩, ⟨⟨dL_law_337, rfl⟩, trivial⟩, ⟨⟨dL_law_338, rfl⟩, trivial⟩, trivial⟩,
  ⟨⟨⟨dL_law_339, rfl⟩, rfl⟩, ⟨⟨dL_law_340, rfl⟩, rfl⟩, ⟨⟨dL_law_342, rfl⟩, rfl⟩, ⟨⟨dL_law_343, rfl⟩, trivial⟩, ⟨⟨dL_law_344, rfl⟩, trivial⟩, ⟨⟨dL_law_345, rfl⟩, rfl⟩, ⟨⟨dL_law_346, rfl⟩, rfl⟩, ⟨⟨dL_law_348, rfl⟩, rfl⟩, ⟨⟨dL_law_350, rfl⟩, trivial⟩, ⟨⟨dL_law_351, rfl⟩, trivial⟩, ⟨⟨dL_law_352, rfl⟩, rfl⟩, ⟨⟨dL_law_353, rfl⟩, Or.inr (Or.inr (Or.inr (Or.inl ⟨rfl, rfl, rfl, _, my_27, sL_136⟩)))⟩, ⟨⟨dL_law_356, rfl⟩, rfl⟩, ⟨⟨dL_law_358, rfl⟩, rfl⟩, ⟨⟨dL_law_359, rfl⟩, rfl⟩, ⟨⟨dL_law_360, rfl⟩, rfl⟩, ⟨⟨dL_law_362, rfl⟩, rfl⟩, ⟨⟨dL_law_363, rfl⟩, trivial⟩, ⟨⟨dL_law_364, rfl⟩, trivial⟩, ⟨⟨dL_law_365, rfl⟩, rfl⟩, ⟨⟨dL_law_366, rfl⟩, rfl⟩, ⟨⟨dL_law_368, rfl⟩, rfl⟩, ⟨⟨dL_law_369, rfl⟩, trivial⟩, ⟨⟨dL_law_370, rfl⟩, trivial⟩, trivial⟩,
  ⟨⟨⟨dL_law_371, rfl⟩, rfl⟩, ⟨⟨dL_law_372, rfl⟩, rfl⟩, ⟨⟨dL_law_374, rfl⟩, rfl⟩, ⟨⟨dL_law_375, rfl⟩, trivial⟩, ⟨⟨dL_law_376, rfl⟩, trivial⟩, ⟨⟨dL_law_377, rfl⟩, rfl⟩, ⟨⟨dL_law_378, rfl⟩, rfl⟩, ⟨⟨dL_law_380, rfl⟩, rfl⟩, ⟨⟨dL_law_381, rfl⟩, trivial⟩, ⟨⟨dL_law_382, rfl⟩, trivial⟩, ⟨⟨dL_law_383, rfl⟩, rfl⟩, ⟨⟨dL_law_384, rfl⟩, rfl⟩, ⟨⟨dL_law_386, rfl⟩, rfl⟩, ⟨⟨dL_law_387, rfl⟩, trivial⟩, ⟨⟨dL_law_388, rfl⟩, trivial⟩, ⟨⟨dL_law_389, rfl⟩, rfl⟩, ⟨⟨dL_law_390, rfl⟩, rfl⟩, ⟨⟨dL_law_392, rfl⟩, rfl⟩, ⟨⟨dL_law_394, rfl⟩, trivial⟩, ⟨⟨dL_law_395, rfl⟩, trivial⟩, ⟨⟨dL_law_396, rfl⟩, Or.inr ⟨by decide, ⟨_, my_32, sL_141⟩, fun q => absurd q (by decide)⟩⟩, ⟨⟨dL_law_399, rfl⟩, rfl⟩, ⟨⟨dL_law_401, rfl⟩, rfl⟩, ⟨⟨dL_law_402, rfl⟩, Or.inr ⟨by decide, ⟨_, my_33, sL_142⟩, fun q => absurd q (by decide)⟩⟩, trivial⟩,
  ⟨⟨⟨dL_law_405, rfl⟩, rfl⟩, ⟨⟨dL_law_407, rfl⟩, rfl⟩, ⟨⟨dL_law_410, rfl⟩, rfl⟩, ⟨⟨dL_law_411, rfl⟩, Or.inr (Or.inl ⟨rfl, rfl⟩)⟩, ⟨⟨dL_law_412, rfl⟩, rfl⟩, ⟨⟨dL_law_414, rfl⟩, rfl⟩, ⟨⟨dL_law_417, rfl⟩, rfl⟩, ⟨⟨dL_law_418, rfl⟩, rfl⟩, ⟨⟨dL_law_419, rfl⟩, trivial⟩, ⟨⟨dL_law_420, rfl⟩, rfl⟩, ⟨⟨dL_law_422, rfl⟩, rfl⟩, ⟨⟨dL_law_425, rfl⟩, rfl⟩, ⟨⟨dL_law_426, rfl⟩, rfl⟩, ⟨⟨dL_law_429, rfl⟩, rfl⟩, ⟨⟨dL_law_430, rfl⟩, trivial⟩, ⟨⟨dL_law_431, rfl⟩, rfl⟩, ⟨⟨dL_law_434, rfl⟩, rfl⟩, ⟨⟨dL_law_435, rfl⟩, Or.inr (Or.inl ⟨rfl, rfl⟩)⟩, ⟨⟨dL_law_436, rfl⟩, rfl⟩, ⟨⟨dL_law_439, rfl⟩, rfl⟩, ⟨⟨dL_law_440, rfl⟩, rfl⟩, ⟨⟨dL_law_441, rfl⟩, rfl⟩, ⟨⟨dL_law_443, rfl⟩, rfl⟩, ⟨⟨dL_law_444, rfl⟩, trivial⟩, trivial⟩,
  ⟨⟨⟨dL_law_445, rfl⟩, trivial⟩, ⟨⟨dL_law_446, rfl⟩, rfl⟩, ⟨⟨dL_law_447, rfl⟩, rfl⟩, ⟨⟨dL_law_449, rfl⟩, rfl⟩, ⟨⟨dL_law_450, rfl⟩, trivial⟩, ⟨⟨dL_law_451, rfl⟩, trivial⟩, ⟨⟨dL_law_452, rfl⟩, rfl⟩, ⟨⟨dL_law_453, rfl⟩, rfl⟩, ⟨⟨dL_law_455, rfl⟩, rfl⟩, ⟨⟨dL_law_456, rfl⟩, trivial⟩, ⟨⟨dL_law_457, rfl⟩, trivial⟩, ⟨⟨dL_law_458, rfl⟩, rfl⟩, ⟨⟨dL_law_461, rfl⟩, rfl⟩, ⟨⟨dL_law_462, rfl⟩, rfl⟩, ⟨⟨dL_law_465, rfl⟩, rfl⟩, ⟨⟨dL_law_466, rfl⟩, Or.inr (Or.inr (Or.inr (Or.inl ⟨rfl, rfl, rfl, _, my_36, sL_146⟩)))⟩, ⟨⟨dL_law_469, rfl⟩, rfl⟩, ⟨⟨dL_law_471, rfl⟩, rfl⟩, ⟨⟨dL_law_472, rfl⟩, rfl⟩, ⟨⟨dL_law_473, rfl⟩, rfl⟩, ⟨⟨dL_law_475, rfl⟩, rfl⟩, ⟨⟨dL_law_476, rfl⟩, trivial⟩, ⟨⟨dL_law_477, rfl⟩, trivial⟩, ⟨⟨dL_law_478, rfl⟩, rfl⟩, trivial⟩,
  ⟨⟨⟨dL_law_479, rfl⟩, rfl⟩, ⟨⟨dL_law_481, rfl⟩, rfl⟩, ⟨⟨dL_law_482, rfl⟩, trivial⟩, ⟨⟨dL_law_483, rfl⟩, trivial⟩, ⟨⟨dL_law_484, rfl⟩, rfl⟩, ⟨⟨dL_law_485, rfl⟩, rfl⟩, ⟨⟨dL_law_487, rfl⟩, rfl⟩, ⟨⟨dL_law_488, rfl⟩, trivial⟩, ⟨⟨dL_law_489, rfl⟩, trivial⟩, ⟨⟨dL_law_490, rfl⟩, rfl⟩, ⟨⟨dL_law_493, rfl⟩, rfl⟩, ⟨⟨dL_law_494, rfl⟩, rfl⟩, ⟨⟨dL_law_497, rfl⟩, rfl⟩, ⟨⟨dL_law_498, rfl⟩, Or.inr ⟨by decide, ⟨_, my_37, sL_149⟩, fun q => absurd q (by decide)⟩⟩, ⟨⟨dL_law_501, rfl⟩, rfl⟩, ⟨⟨dL_law_502, rfl⟩, Or.inr ⟨by decide, ⟨_, my_33, sL_142⟩, fun q => absurd q (by decide)⟩⟩, ⟨⟨dL_law_505, rfl⟩, rfl⟩, ⟨⟨dL_law_507, rfl⟩, rfl⟩, ⟨⟨dL_law_510, rfl⟩, rfl⟩, ⟨⟨dL_law_511, rfl⟩, Or.inr (Or.inl ⟨rfl, rfl⟩)⟩, ⟨⟨dL_law_512, rfl⟩, rfl⟩, ⟨⟨dL_law_515, rfl⟩, rfl⟩, ⟨⟨dL_law_516, rfl⟩, rfl⟩, ⟨⟨dL_law_517, rfl⟩, rfl⟩, trivial⟩,
  ⟨⟨⟨dL_law_519, rfl⟩, rfl⟩, ⟨⟨dL_law_520, rfl⟩, trivial⟩, ⟨⟨dL_law_521, rfl⟩, trivial⟩, ⟨⟨dL_law_522, rfl⟩, rfl⟩, ⟨⟨dL_law_523, rfl⟩, Or.inr (Or.inr (Or.inr (Or.inl ⟨rfl, rfl, rfl, _, my_41, sL_150⟩)))⟩, ⟨⟨dL_law_526, rfl⟩, rfl⟩, ⟨⟨dL_law_528, rfl⟩, rfl⟩, ⟨⟨dL_law_529, rfl⟩, rfl⟩, ⟨⟨dL_law_530, rfl⟩, rfl⟩, ⟨⟨dL_law_532, rfl⟩, rfl⟩, ⟨⟨dL_law_533, rfl⟩, trivial⟩, ⟨⟨dL_law_534, rfl⟩, trivial⟩, ⟨⟨dL_law_535, rfl⟩, Or.inr ⟨by decide, ⟨_, my_44, sL_153⟩, fun q => absurd q (by decide)⟩⟩, ⟨⟨dL_law_538, rfl⟩, rfl⟩, ⟨⟨dL_law_540, rfl⟩, rfl⟩, ⟨⟨dL_law_541, rfl⟩, Or.inr ⟨by decide, ⟨_, my_33, sL_142⟩, fun q => absurd q (by decide)⟩⟩, ⟨⟨dL_law_544, rfl⟩, rfl⟩, ⟨⟨dL_law_546, rfl⟩, rfl⟩, ⟨⟨dL_law_549, rfl⟩, rfl⟩, ⟨⟨dL_law_550, rfl⟩, Or.inr (Or.inl ⟨rfl, rfl⟩)⟩, ⟨⟨dL_law_551, rfl⟩, rfl⟩, ⟨⟨dL_law_553, rfl⟩, rfl⟩, ⟨⟨dL_law_556, rfl⟩, rfl⟩, ⟨⟨dL_law_557, rfl⟩, rfl⟩, trivial⟩,
  ⟨⟨⟨dL_law_558, rfl⟩, trivial⟩, ⟨⟨dL_law_559, rfl⟩, rfl⟩, ⟨⟨dL_law_561, rfl⟩, trivial⟩, ⟨⟨dL_law_562, rfl⟩, trivial⟩, ⟨⟨dL_law_563, rfl⟩, rfl⟩, ⟨⟨dL_law_566, rfl⟩, rfl⟩, ⟨⟨dL_law_567, rfl⟩, Or.inr (Or.inl ⟨rfl, rfl⟩)⟩, ⟨⟨dL_law_568, rfl⟩, rfl⟩, ⟨⟨dL_law_571, rfl⟩, rfl⟩, ⟨⟨dL_law_572, rfl⟩, rfl⟩, ⟨⟨dL_law_573, rfl⟩, rfl⟩, ⟨⟨dL_law_575, rfl⟩, rfl⟩, ⟨⟨dL_law_576, rfl⟩, trivial⟩, ⟨⟨dL_law_577, rfl⟩, trivial⟩, ⟨⟨dL_law_578, rfl⟩, rfl⟩, ⟨⟨dL_law_579, rfl⟩, rfl⟩, ⟨⟨dL_law_581, rfl⟩, rfl⟩, ⟨⟨dL_law_582, rfl⟩, trivial⟩, ⟨⟨dL_law_583, rfl⟩, trivial⟩, ⟨⟨dL_law_584, rfl⟩, rfl⟩, ⟨⟨dL_law_585, rfl⟩, rfl⟩, ⟨⟨dL_law_587, rfl⟩, rfl⟩, ⟨⟨dL_law_588, rfl⟩, trivial⟩, ⟨⟨dL_law_589, rfl⟩, trivial⟩, trivial⟩,
  ⟨⟨⟨dL_law_590, rfl⟩, rfl⟩, ⟨⟨dL_law_591, rfl⟩, Or.inr (Or.inr (Or.inr (Or.inl ⟨rfl, rfl, rfl, _, my_47, sL_154⟩)))⟩, ⟨⟨dL_law_594, rfl⟩, rfl⟩, ⟨⟨dL_law_596, rfl⟩, rfl⟩, ⟨⟨dL_law_597, rfl⟩, rfl⟩, ⟨⟨dL_law_598, rfl⟩, rfl⟩, ⟨⟨dL_law_600, rfl⟩, rfl⟩, ⟨⟨dL_law_601, rfl⟩, trivial⟩, ⟨⟨dL_law_602, rfl⟩, trivial⟩, ⟨⟨dL_law_603, rfl⟩, rfl⟩, ⟨⟨dL_law_604, rfl⟩, rfl⟩, ⟨⟨dL_law_606, rfl⟩, rfl⟩, ⟨⟨dL_law_607, rfl⟩, trivial⟩, ⟨⟨dL_law_608, rfl⟩, trivial⟩, ⟨⟨dL_law_609, rfl⟩, rfl⟩, ⟨⟨dL_law_610, rfl⟩, rfl⟩, ⟨⟨dL_law_612, rfl⟩, rfl⟩, ⟨⟨dL_law_613, rfl⟩, trivial⟩, ⟨⟨dL_law_614, rfl⟩, trivial⟩, ⟨⟨dL_law_615, rfl⟩, Or.inr ⟨by decide, ⟨_, my_49, sL_157⟩, fun q => absurd q (by decide)⟩⟩, ⟨⟨dL_law_618, rfl⟩, rfl⟩, ⟨⟨dL_law_620, rfl⟩, rfl⟩, ⟨⟨dL_law_621, rfl⟩, Or.inr ⟨by decide, ⟨_, my_33, sL_142⟩, fun q => absurd q (by decide)⟩⟩, ⟨⟨dL_law_624, rfl⟩, rfl⟩, trivial⟩,
  ⟨⟨⟨dL_law_626, rfl⟩, rfl⟩, ⟨⟨dL_law_629, rfl⟩, rfl⟩, ⟨⟨dL_law_630, rfl⟩, Or.inr (Or.inl ⟨rfl, rfl⟩)⟩, ⟨⟨dL_law_631, rfl⟩, rfl⟩, ⟨⟨dL_law_633, rfl⟩, rfl⟩, ⟨⟨dL_law_636, rfl⟩, rfl⟩, ⟨⟨dL_law_637, rfl⟩, rfl⟩, ⟨⟨dL_law_638, rfl⟩, trivial⟩, ⟨⟨dL_law_639, rfl⟩, rfl⟩, ⟨⟨dL_law_641, rfl⟩, trivial⟩, ⟨⟨dL_law_642, rfl⟩, trivial⟩, ⟨⟨dL_law_643, rfl⟩, rfl⟩, ⟨⟨dL_law_646, rfl⟩, rfl⟩, ⟨⟨dL_law_647, rfl⟩, Or.inr (Or.inl ⟨rfl, rfl⟩)⟩, ⟨⟨dL_law_648, rfl⟩, rfl⟩, ⟨⟨dL_law_651, rfl⟩, rfl⟩, ⟨⟨dL_law_652, rfl⟩, rfl⟩, ⟨⟨dL_law_653, rfl⟩, rfl⟩, ⟨⟨dL_law_655, rfl⟩, rfl⟩, ⟨⟨dL_law_656, rfl⟩, trivial⟩, ⟨⟨dL_law_657, rfl⟩, trivial⟩, ⟨⟨dL_law_658, rfl⟩, rfl⟩, ⟨⟨dL_law_659, rfl⟩, rfl⟩, ⟨⟨dL_law_661, rfl⟩, rfl⟩, trivial⟩,
  ⟨⟨⟨dL_law_662, rfl⟩, trivial⟩, ⟨⟨dL_law_663, rfl⟩, trivial⟩, ⟨⟨dL_law_664, rfl⟩, rfl⟩, ⟨⟨dL_law_665, rfl⟩, rfl⟩, ⟨⟨dL_law_667, rfl⟩, rfl⟩, ⟨⟨dL_law_668, rfl⟩, trivial⟩, ⟨⟨dL_law_669, rfl⟩, trivial⟩, ⟨⟨dL_law_670, rfl⟩, rfl⟩, ⟨⟨dL_law_671, rfl⟩, Or.inr (Or.inr (Or.inr (Or.inl ⟨rfl, rfl, rfl, _, my_52, sL_158⟩)))⟩, ⟨⟨dL_law_674, rfl⟩, rfl⟩, ⟨⟨dL_law_676, rfl⟩, rfl⟩, ⟨⟨dL_law_677, rfl⟩, rfl⟩, ⟨⟨dL_law_678, rfl⟩, rfl⟩, ⟨⟨dL_law_680, rfl⟩, rfl⟩, ⟨⟨dL_law_681, rfl⟩, trivial⟩, ⟨⟨dL_law_682, rfl⟩, trivial⟩, ⟨⟨dL_law_683, rfl⟩, rfl⟩, ⟨⟨dL_law_684, rfl⟩, rfl⟩, ⟨⟨dL_law_686, rfl⟩, rfl⟩, ⟨⟨dL_law_687, rfl⟩, trivial⟩, ⟨⟨dL_law_688, rfl⟩, trivial⟩, ⟨⟨dL_law_689, rfl⟩, rfl⟩, ⟨⟨dL_law_690, rfl⟩, rfl⟩, ⟨⟨dL_law_692, rfl⟩, rfl⟩, trivial⟩,
  ⟨⟨⟨dL_law_693, rfl⟩, trivial⟩, ⟨⟨dL_law_694, rfl⟩, trivial⟩, ⟨⟨dL_law_695, rfl⟩, Or.inr ⟨by decide, ⟨_, my_54, sL_160⟩, fun q => absurd q (by decide)⟩⟩, ⟨⟨dL_law_698, rfl⟩, rfl⟩, ⟨⟨dL_law_700, rfl⟩, rfl⟩, ⟨⟨dL_law_701, rfl⟩, Or.inr ⟨by decide, ⟨_, my_33, sL_142⟩, fun q => absurd q (by decide)⟩⟩, ⟨⟨dL_law_704, rfl⟩, rfl⟩, ⟨⟨dL_law_706, rfl⟩, rfl⟩, ⟨⟨dL_law_709, rfl⟩, rfl⟩, ⟨⟨dL_law_710, rfl⟩, Or.inr (Or.inl ⟨rfl, rfl⟩)⟩, ⟨⟨dL_law_711, rfl⟩, rfl⟩, ⟨⟨dL_law_713, rfl⟩, rfl⟩, ⟨⟨dL_law_716, rfl⟩, rfl⟩, ⟨⟨dL_law_717, rfl⟩, rfl⟩, ⟨⟨dL_law_718, rfl⟩, trivial⟩, ⟨⟨dL_law_719, rfl⟩, rfl⟩, ⟨⟨dL_law_721, rfl⟩, trivial⟩, ⟨⟨dL_law_722, rfl⟩, trivial⟩, ⟨⟨dL_law_723, rfl⟩, rfl⟩, ⟨⟨dL_law_726, rfl⟩, rfl⟩, ⟨⟨dL_law_727, rfl⟩, Or.inr (Or.inl ⟨rfl, rfl⟩)⟩, ⟨⟨dL_law_728, rfl⟩, rfl⟩, ⟨⟨dL_law_731, rfl⟩, rfl⟩, ⟨⟨dL_law_732, rfl⟩, rfl⟩, trivial⟩,
  ⟨⟨⟨dL_law_733, rfl⟩, rfl⟩, ⟨⟨dL_law_735, rfl⟩, rfl⟩, ⟨⟨dL_law_736, rfl⟩, trivial⟩, ⟨⟨dL_law_737, rfl⟩, trivial⟩, ⟨⟨dL_law_738, rfl⟩, rfl⟩, ⟨⟨dL_law_739, rfl⟩, rfl⟩, ⟨⟨dL_law_741, rfl⟩, rfl⟩, ⟨⟨dL_law_742, rfl⟩, trivial⟩, ⟨⟨dL_law_743, rfl⟩, trivial⟩, ⟨⟨dL_law_744, rfl⟩, rfl⟩, ⟨⟨dL_law_745, rfl⟩, rfl⟩, ⟨⟨dL_law_747, rfl⟩, rfl⟩, ⟨⟨dL_law_748, rfl⟩, trivial⟩, ⟨⟨dL_law_749, rfl⟩, trivial⟩, ⟨⟨dL_law_750, rfl⟩, rfl⟩, ⟨⟨dL_law_751, rfl⟩, rfl⟩, ⟨⟨dL_law_753, rfl⟩, rfl⟩, ⟨⟨dL_law_754, rfl⟩, trivial⟩, ⟨⟨dL_law_755, rfl⟩, trivial⟩, ⟨⟨dL_law_756, rfl⟩, rfl⟩, ⟨⟨dL_law_757, rfl⟩, rfl⟩, ⟨⟨dL_law_759, rfl⟩, rfl⟩, ⟨⟨dL_law_760, rfl⟩, trivial⟩, ⟨⟨dL_law_761, rfl⟩, trivial⟩, trivial⟩,
  ⟨⟨⟨dL_law_762, rfl⟩, rfl⟩, ⟨⟨dL_law_765, rfl⟩, rfl⟩, ⟨⟨dL_law_766, rfl⟩, rfl⟩, ⟨⟨dL_law_769, rfl⟩, rfl⟩, ⟨⟨dL_law_770, rfl⟩, rfl⟩, ⟨⟨dL_law_771, rfl⟩, Or.inr (Or.inr (Or.inr (Or.inl ⟨rfl, rfl, rfl, _, my_111, sL_161⟩)))⟩, ⟨⟨dL_law_774, rfl⟩, rfl⟩, ⟨⟨dL_law_776, rfl⟩, rfl⟩, ⟨⟨dL_law_777, rfl⟩, rfl⟩, ⟨⟨dL_law_778, rfl⟩, rfl⟩, ⟨⟨dL_law_780, rfl⟩, rfl⟩, ⟨⟨dL_law_781, rfl⟩, trivial⟩, ⟨⟨dL_law_782, rfl⟩, trivial⟩, ⟨⟨dL_law_783, rfl⟩, rfl⟩, ⟨⟨dL_law_784, rfl⟩, rfl⟩, ⟨⟨dL_law_786, rfl⟩, rfl⟩, ⟨⟨dL_law_787, rfl⟩, trivial⟩, ⟨⟨dL_law_788, rfl⟩, trivial⟩, ⟨⟨dL_law_789, rfl⟩, rfl⟩, ⟨⟨dL_law_790, rfl⟩, rfl⟩, ⟨⟨dL_law_792, rfl⟩, rfl⟩, ⟨⟨dL_law_793, rfl⟩, trivial⟩, ⟨⟨dL_law_794, rfl⟩, trivial⟩, ⟨⟨dL_law_795, rfl⟩, rfl⟩, trivial⟩,
  ⟨⟨⟨dL_law_796, rfl⟩, rfl⟩, ⟨⟨dL_law_798, rfl⟩, rfl⟩, ⟨⟨dL_law_799, rfl⟩, trivial⟩, ⟨⟨dL_law_800, rfl⟩, trivial⟩, ⟨⟨dL_law_801, rfl⟩, rfl⟩, ⟨⟨dL_law_802, rfl⟩, rfl⟩, ⟨⟨dL_law_804, rfl⟩, rfl⟩, ⟨⟨dL_law_805, rfl⟩, trivial⟩, ⟨⟨dL_law_806, rfl⟩, trivial⟩, ⟨⟨dL_law_807, rfl⟩, rfl⟩, ⟨⟨dL_law_810, rfl⟩, rfl⟩, ⟨⟨dL_law_811, rfl⟩, rfl⟩, ⟨⟨dL_law_814, rfl⟩, rfl⟩, ⟨⟨dL_law_815, rfl⟩, Or.inr ⟨by decide, ⟨_, my_155, sL_164⟩, fun q => absurd q (by decide)⟩⟩, ⟨⟨dL_law_818, rfl⟩, rfl⟩, ⟨⟨dL_law_820, rfl⟩, rfl⟩, ⟨⟨dL_law_821, rfl⟩, Or.inr ⟨by decide, ⟨_, my_33, sL_142⟩, fun q => absurd q (by decide)⟩⟩, ⟨⟨dL_law_824, rfl⟩, rfl⟩, ⟨⟨dL_law_826, rfl⟩, rfl⟩, ⟨⟨dL_law_829, rfl⟩, rfl⟩, ⟨⟨dL_law_830, rfl⟩, Or.inr (Or.inl ⟨rfl, rfl⟩)⟩, ⟨⟨dL_law_831, rfl⟩, rfl⟩, ⟨⟨dL_law_833, rfl⟩, rfl⟩, ⟨⟨dL_law_836, rfl⟩, rfl⟩, trivial⟩,
  ⟨⟨⟨dL_law_837, rfl⟩, rfl⟩, ⟨⟨dL_law_838, rfl⟩, trivial⟩, ⟨⟨dL_law_839, rfl⟩, rfl⟩, ⟨⟨dL_law_841, rfl⟩, trivial⟩, ⟨⟨dL_law_842, rfl⟩, trivial⟩, ⟨⟨dL_law_843, rfl⟩, rfl⟩, ⟨⟨dL_law_846, rfl⟩, rfl⟩, ⟨⟨dL_law_847, rfl⟩, Or.inr (Or.inl ⟨rfl, rfl⟩)⟩, ⟨⟨dL_law_848, rfl⟩, rfl⟩, ⟨⟨dL_law_851, rfl⟩, rfl⟩, ⟨⟨dL_law_852, rfl⟩, rfl⟩, ⟨⟨dL_law_853, rfl⟩, rfl⟩, ⟨⟨dL_law_855, rfl⟩, rfl⟩, ⟨⟨dL_law_856, rfl⟩, trivial⟩, ⟨⟨dL_law_857, rfl⟩, trivial⟩, ⟨⟨dL_law_858, rfl⟩, rfl⟩, ⟨⟨dL_law_859, rfl⟩, rfl⟩, ⟨⟨dL_law_861, rfl⟩, rfl⟩, ⟨⟨dL_law_862, rfl⟩, trivial⟩, ⟨⟨dL_law_863, rfl⟩, trivial⟩, ⟨⟨dL_law_864, rfl⟩, rfl⟩, ⟨⟨dL_law_865, rfl⟩, rfl⟩, ⟨⟨dL_law_867, rfl⟩, rfl⟩, ⟨⟨dL_law_868, rfl⟩, trivial⟩, trivial⟩,
  ⟨⟨⟨dL_law_869, rfl⟩, trivial⟩, ⟨⟨dL_law_870, rfl⟩, rfl⟩, ⟨⟨dL_law_871, rfl⟩, rfl⟩, ⟨⟨dL_law_873, rfl⟩, rfl⟩, ⟨⟨dL_law_874, rfl⟩, trivial⟩, ⟨⟨dL_law_875, rfl⟩, trivial⟩, ⟨⟨dL_law_876, rfl⟩, rfl⟩, ⟨⟨dL_law_877, rfl⟩, rfl⟩, ⟨⟨dL_law_879, rfl⟩, rfl⟩, ⟨⟨dL_law_880, rfl⟩, trivial⟩, ⟨⟨dL_law_881, rfl⟩, trivial⟩, ⟨⟨dL_law_882, rfl⟩, rfl⟩, ⟨⟨dL_law_883, rfl⟩, Or.inr (Or.inr (Or.inr (Or.inl ⟨rfl, rfl, rfl, _, my_158, sL_165⟩)))⟩, ⟨⟨dL_law_886, rfl⟩, rfl⟩, ⟨⟨dL_law_888, rfl⟩, rfl⟩, ⟨⟨dL_law_889, rfl⟩, rfl⟩, ⟨⟨dL_law_890, rfl⟩, rfl⟩, ⟨⟨dL_law_892, rfl⟩, rfl⟩, ⟨⟨dL_law_893, rfl⟩, trivial⟩, ⟨⟨dL_law_894, rfl⟩, trivial⟩, ⟨⟨dL_law_895, rfl⟩, rfl⟩, ⟨⟨dL_law_896, rfl⟩, rfl⟩, ⟨⟨dL_law_898, rfl⟩, rfl⟩, ⟨⟨dL_law_899, rfl⟩, trivial⟩, trivial⟩,
  ⟨⟨⟨dL_law_900, rfl⟩, trivial⟩, ⟨⟨dL_law_901, rfl⟩, rfl⟩, ⟨⟨dL_law_902, rfl⟩, rfl⟩, ⟨⟨dL_law_904, rfl⟩, rfl⟩, ⟨⟨dL_law_905, rfl⟩, trivial⟩, ⟨⟨dL_law_906, rfl⟩, trivial⟩, ⟨⟨dL_law_907, rfl⟩, rfl⟩, ⟨⟨dL_law_908, rfl⟩, rfl⟩, ⟨⟨dL_law_910, rfl⟩, rfl⟩, ⟨⟨dL_law_911, rfl⟩, trivial⟩, ⟨⟨dL_law_912, rfl⟩, trivial⟩, ⟨⟨dL_law_913, rfl⟩, rfl⟩, ⟨⟨dL_law_914, rfl⟩, rfl⟩, ⟨⟨dL_law_916, rfl⟩, rfl⟩, ⟨⟨dL_law_917, rfl⟩, trivial⟩, ⟨⟨dL_law_918, rfl⟩, trivial⟩, ⟨⟨dL_law_919, rfl⟩, Or.inr ⟨by decide, ⟨_, my_159, sL_168⟩, fun q => absurd q (by decide)⟩⟩, ⟨⟨dL_law_922, rfl⟩, rfl⟩, ⟨⟨dL_law_924, rfl⟩, rfl⟩, ⟨⟨dL_law_925, rfl⟩, Or.inr ⟨by decide, ⟨_, my_33, sL_142⟩, fun q => absurd q (by decide)⟩⟩, ⟨⟨dL_law_928, rfl⟩, rfl⟩, ⟨⟨dL_law_930, rfl⟩, rfl⟩, ⟨⟨dL_law_933, rfl⟩, rfl⟩, ⟨⟨dL_law_934, rfl⟩, Or.inr (Or.inl ⟨rfl, rfl⟩)⟩, trivial⟩,
  ⟨⟨⟨dL_law_935, rfl⟩, rfl⟩, ⟨⟨dL_law_937, rfl⟩, rfl⟩, ⟨⟨dL_law_940, rfl⟩, rfl⟩, ⟨⟨dL_law_941, rfl⟩, rfl⟩, ⟨⟨dL_law_942, rfl⟩, trivial⟩, ⟨⟨dL_law_943, rfl⟩, rfl⟩, ⟨⟨dL_law_945, rfl⟩, trivial⟩, ⟨⟨dL_law_946, rfl⟩, trivial⟩, ⟨⟨dL_law_947, rfl⟩, rfl⟩, ⟨⟨dL_law_950, rfl⟩, rfl⟩, ⟨⟨dL_law_951, rfl⟩, Or.inr (Or.inl ⟨rfl, rfl⟩)⟩, ⟨⟨dL_law_952, rfl⟩, rfl⟩, ⟨⟨dL_law_955, rfl⟩, rfl⟩, ⟨⟨dL_law_956, rfl⟩, rfl⟩, ⟨⟨dL_law_957, rfl⟩, rfl⟩, ⟨⟨dL_law_959, rfl⟩, rfl⟩, ⟨⟨dL_law_960, rfl⟩, trivial⟩, ⟨⟨dL_law_961, rfl⟩, trivial⟩, ⟨⟨dL_law_962, rfl⟩, rfl⟩, ⟨⟨dL_law_963, rfl⟩, rfl⟩, ⟨⟨dL_law_965, rfl⟩, rfl⟩, ⟨⟨dL_law_966, rfl⟩, trivial⟩, ⟨⟨dL_law_967, rfl⟩, trivial⟩, ⟨⟨dL_law_968, rfl⟩, rfl⟩, trivial⟩,
  ⟨⟨⟨dL_law_969, rfl⟩, Or.inr (Or.inr (Or.inr (Or.inl ⟨rfl, rfl, rfl, _, my_164, sL_169⟩)))⟩, ⟨⟨dL_law_972, rfl⟩, rfl⟩, ⟨⟨dL_law_974, rfl⟩, rfl⟩, ⟨⟨dL_law_975, rfl⟩, rfl⟩, ⟨⟨dL_law_976, rfl⟩, rfl⟩, ⟨⟨dL_law_978, rfl⟩, rfl⟩, ⟨⟨dL_law_979, rfl⟩, trivial⟩, ⟨⟨dL_law_980, rfl⟩, trivial⟩, ⟨⟨dL_law_981, rfl⟩, rfl⟩, ⟨⟨dL_law_982, rfl⟩, rfl⟩, ⟨⟨dL_law_984, rfl⟩, rfl⟩, ⟨⟨dL_law_985, rfl⟩, trivial⟩, ⟨⟨dL_law_986, rfl⟩, trivial⟩, ⟨⟨dL_law_987, rfl⟩, Or.inr ⟨by decide, ⟨_, my_167, sL_172⟩, fun q => absurd q (by decide)⟩⟩, ⟨⟨dL_law_990, rfl⟩, rfl⟩, ⟨⟨dL_law_992, rfl⟩, rfl⟩, ⟨⟨dL_law_993, rfl⟩, Or.inr ⟨by decide, ⟨_, my_33, sL_142⟩, fun q => absurd q (by decide)⟩⟩, ⟨⟨dL_law_996, rfl⟩, rfl⟩, ⟨⟨dL_law_998, rfl⟩, rfl⟩, ⟨⟨dL_law_1001, rfl⟩, rfl⟩, ⟨⟨dL_law_1002, rfl⟩, Or.inr (Or.inl ⟨rfl, rfl⟩)⟩, ⟨⟨dL_law_1003, rfl⟩, rfl⟩, ⟨⟨dL_law_1005, rfl⟩, rfl⟩, ⟨⟨dL_law_1008, rfl⟩, rfl⟩, trivial⟩,
  ⟨⟨⟨dL_law_1009, rfl⟩, rfl⟩, ⟨⟨dL_law_1010, rfl⟩, trivial⟩, ⟨⟨dL_law_1011, rfl⟩, rfl⟩, ⟨⟨dL_law_1013, rfl⟩, rfl⟩, ⟨⟨dL_law_1016, rfl⟩, rfl⟩, ⟨⟨dL_law_1017, rfl⟩, rfl⟩, ⟨⟨dL_law_1020, rfl⟩, rfl⟩, ⟨⟨dL_law_1021, rfl⟩, trivial⟩, ⟨⟨dL_law_1022, rfl⟩, rfl⟩, ⟨⟨dL_law_1025, rfl⟩, rfl⟩, ⟨⟨dL_law_1026, rfl⟩, Or.inr (Or.inl ⟨rfl, rfl⟩)⟩, ⟨⟨dL_law_1027, rfl⟩, rfl⟩, ⟨⟨dL_law_1030, rfl⟩, rfl⟩, ⟨⟨dL_law_1031, rfl⟩, rfl⟩, ⟨⟨dL_law_1032, rfl⟩, rfl⟩, ⟨⟨dL_law_1034, rfl⟩, rfl⟩, ⟨⟨dL_law_1035, rfl⟩, trivial⟩, ⟨⟨dL_law_1036, rfl⟩, trivial⟩, ⟨⟨dL_law_1037, rfl⟩, rfl⟩, ⟨⟨dL_law_1038, rfl⟩, Or.inr (Or.inr (Or.inr (Or.inl ⟨rfl, rfl, rfl, _, my_170, sL_173⟩)))⟩, ⟨⟨dL_law_1041, rfl⟩, rfl⟩, ⟨⟨dL_law_1043, rfl⟩, rfl⟩, ⟨⟨dL_law_1044, rfl⟩, rfl⟩, ⟨⟨dL_law_1045, rfl⟩, rfl⟩, trivial⟩,
  ⟨⟨⟨dL_law_1047, rfl⟩, rfl⟩, ⟨⟨dL_law_1048, rfl⟩, trivial⟩, ⟨⟨dL_law_1049, rfl⟩, trivial⟩, ⟨⟨dL_law_1050, rfl⟩, Or.inr ⟨by decide, ⟨_, my_173, sL_175⟩, fun q => absurd q (by decide)⟩⟩, ⟨⟨dL_law_1053, rfl⟩, rfl⟩, ⟨⟨dL_law_1055, rfl⟩, rfl⟩, ⟨⟨dL_law_1056, rfl⟩, Or.inr ⟨by decide, ⟨_, my_33, sL_142⟩, fun q => absurd q (by decide)⟩⟩, ⟨⟨dL_law_1059, rfl⟩, rfl⟩, ⟨⟨dL_law_1061, rfl⟩, rfl⟩, ⟨⟨dL_law_1064, rfl⟩, rfl⟩, ⟨⟨dL_law_1065, rfl⟩, Or.inr (Or.inl ⟨rfl, rfl⟩)⟩, ⟨⟨dL_law_1066, rfl⟩, rfl⟩, ⟨⟨dL_law_1068, rfl⟩, rfl⟩, ⟨⟨dL_law_1071, rfl⟩, rfl⟩, ⟨⟨dL_law_1072, rfl⟩, rfl⟩, ⟨⟨dL_law_1073, rfl⟩, trivial⟩, ⟨⟨dL_law_1074, rfl⟩, rfl⟩, ⟨⟨dL_law_1076, rfl⟩, rfl⟩, ⟨⟨dL_law_1079, rfl⟩, rfl⟩, ⟨⟨dL_law_1080, rfl⟩, rfl⟩, ⟨⟨dL_law_1083, rfl⟩, rfl⟩, ⟨⟨dL_law_1084, rfl⟩, trivial⟩, ⟨⟨dL_law_1085, rfl⟩, rfl⟩, ⟨⟨dL_law_1088, rfl⟩, rfl⟩, trivial⟩,
  ⟨⟨⟨dL_law_1089, rfl⟩, Or.inr (Or.inl ⟨rfl, rfl⟩)⟩, ⟨⟨dL_law_1090, rfl⟩, rfl⟩, ⟨⟨dL_law_1093, rfl⟩, rfl⟩, ⟨⟨dL_law_1094, rfl⟩, rfl⟩, ⟨⟨dL_law_1095, rfl⟩, rfl⟩, ⟨⟨dL_law_1097, rfl⟩, rfl⟩, ⟨⟨dL_law_1098, rfl⟩, trivial⟩, ⟨⟨dL_law_1099, rfl⟩, trivial⟩, ⟨⟨dL_law_1100, rfl⟩, rfl⟩, ⟨⟨dL_law_1101, rfl⟩, Or.inr (Or.inr (Or.inr (Or.inl ⟨rfl, rfl, rfl, _, my_177, sL_176⟩)))⟩, ⟨⟨dL_law_1104, rfl⟩, rfl⟩, ⟨⟨dL_law_1106, rfl⟩, rfl⟩, ⟨⟨dL_law_1107, rfl⟩, rfl⟩, ⟨⟨dL_law_1108, rfl⟩, rfl⟩, ⟨⟨dL_law_1110, rfl⟩, rfl⟩, ⟨⟨dL_law_1111, rfl⟩, trivial⟩, ⟨⟨dL_law_1112, rfl⟩, trivial⟩, ⟨⟨dL_law_1113, rfl⟩, Or.inr ⟨by decide, ⟨_, my_180, sL_178⟩, fun q => absurd q (by decide)⟩⟩, ⟨⟨dL_law_1116, rfl⟩, rfl⟩, ⟨⟨dL_law_1118, rfl⟩, rfl⟩, ⟨⟨dL_law_1119, rfl⟩, Or.inr ⟨by decide, ⟨_, my_33, sL_142⟩, fun q => absurd q (by decide)⟩⟩, ⟨⟨dL_law_1122, rfl⟩, rfl⟩, ⟨⟨dL_law_1124, rfl⟩, rfl⟩, ⟨⟨dL_law_1127, rfl⟩, rfl⟩, trivial⟩,
  ⟨⟨⟨dL_law_1128, rfl⟩, Or.inr (Or.inl ⟨rfl, rfl⟩)⟩, ⟨⟨dL_law_1129, rfl⟩, rfl⟩, ⟨⟨dL_law_1131, rfl⟩, rfl⟩, ⟨⟨dL_law_1134, rfl⟩, rfl⟩, ⟨⟨dL_law_1135, rfl⟩, rfl⟩, ⟨⟨dL_law_1136, rfl⟩, trivial⟩, ⟨⟨dL_law_1137, rfl⟩, rfl⟩, ⟨⟨dL_law_1139, rfl⟩, trivial⟩, ⟨⟨dL_law_1140, rfl⟩, trivial⟩, ⟨⟨dL_law_1141, rfl⟩, rfl⟩, ⟨⟨dL_law_1144, rfl⟩, rfl⟩, ⟨⟨dL_law_1145, rfl⟩, Or.inr (Or.inl ⟨rfl, rfl⟩)⟩, ⟨⟨dL_law_1146, rfl⟩, rfl⟩, ⟨⟨dL_law_1149, rfl⟩, rfl⟩, ⟨⟨dL_law_1150, rfl⟩, rfl⟩, ⟨⟨dL_law_1151, rfl⟩, rfl⟩, ⟨⟨dL_law_1153, rfl⟩, rfl⟩, ⟨⟨dL_law_1154, rfl⟩, trivial⟩, ⟨⟨dL_law_1155, rfl⟩, trivial⟩, ⟨⟨dL_law_1156, rfl⟩, rfl⟩, ⟨⟨dL_law_1157, rfl⟩, Or.inr (Or.inr (Or.inr (Or.inl ⟨rfl, rfl, rfl, _, my_230, sL_179⟩)))⟩, ⟨⟨dL_law_1160, rfl⟩, rfl⟩, ⟨⟨dL_law_1162, rfl⟩, rfl⟩, ⟨⟨dL_law_1163, rfl⟩, rfl⟩, trivial⟩,
  ⟨⟨⟨dL_law_1164, rfl⟩, rfl⟩, ⟨⟨dL_law_1166, rfl⟩, rfl⟩, ⟨⟨dL_law_1167, rfl⟩, trivial⟩, ⟨⟨dL_law_1168, rfl⟩, trivial⟩, ⟨⟨dL_law_1169, rfl⟩, Or.inr ⟨by decide, ⟨_, my_256, sL_181⟩, fun q => absurd q (by decide)⟩⟩, ⟨⟨dL_law_1172, rfl⟩, rfl⟩, ⟨⟨dL_law_1174, rfl⟩, rfl⟩, ⟨⟨dL_law_1175, rfl⟩, Or.inr ⟨by decide, ⟨_, my_33, sL_142⟩, fun q => absurd q (by decide)⟩⟩, ⟨⟨dL_law_1178, rfl⟩, rfl⟩, ⟨⟨dL_law_1180, rfl⟩, rfl⟩, ⟨⟨dL_law_1183, rfl⟩, rfl⟩, ⟨⟨dL_law_1184, rfl⟩, Or.inr (Or.inl ⟨rfl, rfl⟩)⟩, ⟨⟨dL_law_1185, rfl⟩, rfl⟩, ⟨⟨dL_law_1187, rfl⟩, rfl⟩, ⟨⟨dL_law_1190, rfl⟩, rfl⟩, ⟨⟨dL_law_1191, rfl⟩, rfl⟩, ⟨⟨dL_law_1192, rfl⟩, trivial⟩, ⟨⟨dL_law_1193, rfl⟩, rfl⟩, ⟨⟨dL_law_1195, rfl⟩, trivial⟩, ⟨⟨dL_law_1196, rfl⟩, trivial⟩, ⟨⟨dL_law_1197, rfl⟩, rfl⟩, ⟨⟨dL_law_1200, rfl⟩, rfl⟩, ⟨⟨dL_law_1201, rfl⟩, Or.inr (Or.inl ⟨rfl, rfl⟩)⟩, ⟨⟨dL_law_1202, rfl⟩, rfl⟩, trivial⟩,
  ⟨⟨⟨dL_law_1205, rfl⟩, rfl⟩, ⟨⟨dL_law_1206, rfl⟩, rfl⟩, ⟨⟨dL_law_1207, rfl⟩, rfl⟩, ⟨⟨dL_law_1209, rfl⟩, rfl⟩, ⟨⟨dL_law_1210, rfl⟩, trivial⟩, ⟨⟨dL_law_1211, rfl⟩, trivial⟩, ⟨⟨dL_law_1212, rfl⟩, rfl⟩, ⟨⟨dL_law_1213, rfl⟩, rfl⟩, ⟨⟨dL_law_1215, rfl⟩, rfl⟩, ⟨⟨dL_law_1216, rfl⟩, trivial⟩, ⟨⟨dL_law_1217, rfl⟩, trivial⟩, ⟨⟨dL_law_1218, rfl⟩, rfl⟩, ⟨⟨dL_law_1219, rfl⟩, Or.inr (Or.inr (Or.inr (Or.inl ⟨rfl, rfl, rfl, _, my_261, sL_182⟩)))⟩, ⟨⟨dL_law_1222, rfl⟩, rfl⟩, ⟨⟨dL_law_1224, rfl⟩, rfl⟩, ⟨⟨dL_law_1225, rfl⟩, rfl⟩, ⟨⟨dL_law_1226, rfl⟩, rfl⟩, ⟨⟨dL_law_1228, rfl⟩, rfl⟩, ⟨⟨dL_law_1229, rfl⟩, trivial⟩, ⟨⟨dL_law_1230, rfl⟩, trivial⟩, ⟨⟨dL_law_1231, rfl⟩, rfl⟩, ⟨⟨dL_law_1232, rfl⟩, rfl⟩, ⟨⟨dL_law_1234, rfl⟩, rfl⟩, ⟨⟨dL_law_1235, rfl⟩, trivial⟩, trivial⟩,
  ⟨⟨⟨dL_law_1236, rfl⟩, trivial⟩, ⟨⟨dL_law_1237, rfl⟩, Or.inr ⟨by decide, ⟨_, my_263, sL_184⟩, fun q => absurd q (by decide)⟩⟩, ⟨⟨dL_law_1240, rfl⟩, rfl⟩, ⟨⟨dL_law_1242, rfl⟩, rfl⟩, ⟨⟨dL_law_1243, rfl⟩, Or.inr ⟨by decide, ⟨_, my_33, sL_142⟩, fun q => absurd q (by decide)⟩⟩, ⟨⟨dL_law_1246, rfl⟩, rfl⟩, ⟨⟨dL_law_1248, rfl⟩, rfl⟩, ⟨⟨dL_law_1251, rfl⟩, rfl⟩, ⟨⟨dL_law_1252, rfl⟩, Or.inr (Or.inl ⟨rfl, rfl⟩)⟩, ⟨⟨dL_law_1253, rfl⟩, rfl⟩, ⟨⟨dL_law_1255, rfl⟩, rfl⟩, ⟨⟨dL_law_1258, rfl⟩, rfl⟩, ⟨⟨dL_law_1259, rfl⟩, rfl⟩, ⟨⟨dL_law_1260, rfl⟩, trivial⟩, ⟨⟨dL_law_1261, rfl⟩, rfl⟩, ⟨⟨dL_law_1263, rfl⟩, trivial⟩, ⟨⟨dL_law_1264, rfl⟩, trivial⟩, ⟨⟨dL_law_1265, rfl⟩, rfl⟩, ⟨⟨dL_law_1268, rfl⟩, rfl⟩, ⟨⟨dL_law_1269, rfl⟩, Or.inr (Or.inl ⟨rfl, rfl⟩)⟩, ⟨⟨dL_law_1270, rfl⟩, rfl⟩, ⟨⟨dL_law_1273, rfl⟩, rfl⟩, ⟨⟨dL_law_1274, rfl⟩, rfl⟩, ⟨⟨dL_law_1275, rfl⟩, rfl⟩, trivial⟩,
  ⟨⟨⟨dL_law_1277, rfl⟩, rfl⟩, ⟨⟨dL_law_1278, rfl⟩, trivial⟩, ⟨⟨dL_law_1279, rfl⟩, trivial⟩, ⟨⟨dL_law_1280, rfl⟩, rfl⟩, ⟨⟨dL_law_1281, rfl⟩, rfl⟩, ⟨⟨dL_law_1283, rfl⟩, rfl⟩, ⟨⟨dL_law_1284, rfl⟩, trivial⟩, ⟨⟨dL_law_1285, rfl⟩, trivial⟩, ⟨⟨dL_law_1286, rfl⟩, rfl⟩, ⟨⟨dL_law_1287, rfl⟩, Or.inr (Or.inr (Or.inr (Or.inl ⟨rfl, rfl, rfl, _, my_265, sL_185⟩)))⟩, ⟨⟨dL_law_1290, rfl⟩, rfl⟩, ⟨⟨dL_law_1292, rfl⟩, rfl⟩, ⟨⟨dL_law_1293, rfl⟩, rfl⟩, ⟨⟨dL_law_1294, rfl⟩, rfl⟩, ⟨⟨dL_law_1296, rfl⟩, rfl⟩, ⟨⟨dL_law_1297, rfl⟩, trivial⟩, ⟨⟨dL_law_1298, rfl⟩, trivial⟩, ⟨⟨dL_law_1299, rfl⟩, rfl⟩, ⟨⟨dL_law_1300, rfl⟩, rfl⟩, ⟨⟨dL_law_1302, rfl⟩, rfl⟩, ⟨⟨dL_law_1303, rfl⟩, trivial⟩, ⟨⟨dL_law_1304, rfl⟩, trivial⟩, ⟨⟨dL_law_1305, rfl⟩, Or.inr ⟨by decide, ⟨_, my_266, sL_187⟩, fun q => absurd q (by decide)⟩⟩, ⟨⟨dL_law_1308, rfl⟩, rfl⟩, trivial⟩,
  ⟨⟨⟨dL_law_1310, rfl⟩, rfl⟩, ⟨⟨dL_law_1311, rfl⟩, Or.inr ⟨by decide, ⟨_, my_33, sL_142⟩, fun q => absurd q (by decide)⟩⟩, ⟨⟨dL_law_1314, rfl⟩, rfl⟩, ⟨⟨dL_law_1316, rfl⟩, rfl⟩, ⟨⟨dL_law_1319, rfl⟩, rfl⟩, ⟨⟨dL_law_1320, rfl⟩, Or.inr (Or.inl ⟨rfl, rfl⟩)⟩, ⟨⟨dL_law_1321, rfl⟩, rfl⟩, ⟨⟨dL_law_1323, rfl⟩, rfl⟩, ⟨⟨dL_law_1326, rfl⟩, rfl⟩, ⟨⟨dL_law_1327, rfl⟩, rfl⟩, ⟨⟨dL_law_1328, rfl⟩, trivial⟩, ⟨⟨dL_law_1329, rfl⟩, rfl⟩, ⟨⟨dL_law_1331, rfl⟩, trivial⟩, ⟨⟨dL_law_1332, rfl⟩, trivial⟩, ⟨⟨dL_law_1333, rfl⟩, rfl⟩, ⟨⟨dL_law_1336, rfl⟩, rfl⟩, ⟨⟨dL_law_1337, rfl⟩, Or.inr (Or.inl ⟨rfl, rfl⟩)⟩, ⟨⟨dL_law_1338, rfl⟩, rfl⟩, ⟨⟨dL_law_1341, rfl⟩, rfl⟩, ⟨⟨dL_law_1342, rfl⟩, rfl⟩, ⟨⟨dL_law_1343, rfl⟩, rfl⟩, ⟨⟨dL_law_1345, rfl⟩, rfl⟩, ⟨⟨dL_law_1346, rfl⟩, trivial⟩, ⟨⟨dL_law_1347, rfl⟩, trivial⟩, trivial⟩,
  ⟨⟨⟨dL_law_1348, rfl⟩, rfl⟩, ⟨⟨dL_law_1349, rfl⟩, Or.inr (Or.inr (Or.inr (Or.inl ⟨rfl, rfl, rfl, _, my_268, sL_188⟩)))⟩, ⟨⟨dL_law_1352, rfl⟩, rfl⟩, ⟨⟨dL_law_1354, rfl⟩, rfl⟩, ⟨⟨dL_law_1355, rfl⟩, rfl⟩, ⟨⟨dL_law_1356, rfl⟩, rfl⟩, ⟨⟨dL_law_1358, rfl⟩, rfl⟩, ⟨⟨dL_law_1359, rfl⟩, trivial⟩, ⟨⟨dL_law_1360, rfl⟩, trivial⟩, ⟨⟨dL_law_1361, rfl⟩, Or.inr ⟨by decide, ⟨_, my_269, sL_190⟩, fun q => absurd q (by decide)⟩⟩, ⟨⟨dL_law_1364, rfl⟩, rfl⟩, ⟨⟨dL_law_1366, rfl⟩, rfl⟩, ⟨⟨dL_law_1367, rfl⟩, Or.inr ⟨by decide, ⟨_, my_33, sL_142⟩, fun q => absurd q (by decide)⟩⟩, ⟨⟨dL_law_1370, rfl⟩, rfl⟩, ⟨⟨dL_law_1372, rfl⟩, rfl⟩, ⟨⟨dL_law_1375, rfl⟩, rfl⟩, ⟨⟨dL_law_1376, rfl⟩, Or.inr (Or.inl ⟨rfl, rfl⟩)⟩, ⟨⟨dL_law_1377, rfl⟩, rfl⟩, ⟨⟨dL_law_1379, rfl⟩, rfl⟩, ⟨⟨dL_law_1382, rfl⟩, rfl⟩, ⟨⟨dL_law_1383, rfl⟩, rfl⟩, ⟨⟨dL_law_1384, rfl⟩, trivial⟩, ⟨⟨dL_law_1385, rfl⟩, rfl⟩, ⟨⟨dL_law_1387, rfl⟩, trivial⟩, trivial⟩,
  ⟨⟨⟨dL_law_1388, rfl⟩, trivial⟩, ⟨⟨dL_law_1389, rfl⟩, rfl⟩, ⟨⟨dL_law_1392, rfl⟩, rfl⟩, ⟨⟨dL_law_1393, rfl⟩, Or.inr (Or.inl ⟨rfl, rfl⟩)⟩, ⟨⟨dL_law_1394, rfl⟩, rfl⟩, ⟨⟨dL_law_1397, rfl⟩, rfl⟩, ⟨⟨dL_law_1398, rfl⟩, rfl⟩, ⟨⟨dL_law_1399, rfl⟩, rfl⟩, ⟨⟨dL_law_1401, rfl⟩, rfl⟩, ⟨⟨dL_law_1402, rfl⟩, trivial⟩, ⟨⟨dL_law_1403, rfl⟩, trivial⟩, ⟨⟨dL_law_1404, rfl⟩, rfl⟩, ⟨⟨dL_law_1405, rfl⟩, Or.inr (Or.inr (Or.inr (Or.inl ⟨rfl, rfl, rfl, _, my_271, sL_191⟩)))⟩, ⟨⟨dL_law_1408, rfl⟩, rfl⟩, ⟨⟨dL_law_1410, rfl⟩, rfl⟩, ⟨⟨dL_law_1411, rfl⟩, rfl⟩, ⟨⟨dL_law_1412, rfl⟩, rfl⟩, ⟨⟨dL_law_1414, rfl⟩, rfl⟩, ⟨⟨dL_law_1415, rfl⟩, trivial⟩, ⟨⟨dL_law_1416, rfl⟩, trivial⟩, ⟨⟨dL_law_1417, rfl⟩, Or.inr ⟨by decide, ⟨_, my_272, sL_193⟩, fun q => absurd q (by decide)⟩⟩, ⟨⟨dL_law_1420, rfl⟩, rfl⟩, ⟨⟨dL_law_1422, rfl⟩, rfl⟩, ⟨⟨dL_law_1423, rfl⟩, Or.inr ⟨by decide, ⟨_, my_33, sL_142⟩, fun q => absurd q (by decide)⟩⟩, trivial⟩,
  ⟨⟨⟨dL_law_1426, rfl⟩, rfl⟩, ⟨⟨dL_law_1428, rfl⟩, rfl⟩, ⟨⟨dL_law_1431, rfl⟩, rfl⟩, ⟨⟨dL_law_1432, rfl⟩, Or.inr (Or.inl ⟨rfl, rfl⟩)⟩, ⟨⟨dL_law_1433, rfl⟩, rfl⟩, ⟨⟨dL_law_1435, rfl⟩, rfl⟩, ⟨⟨dL_law_1438, rfl⟩, rfl⟩, ⟨⟨dL_law_1439, rfl⟩, rfl⟩, ⟨⟨dL_law_1440, rfl⟩, trivial⟩, ⟨⟨dL_law_1441, rfl⟩, rfl⟩, ⟨⟨dL_law_1443, rfl⟩, trivial⟩, ⟨⟨dL_law_1444, rfl⟩, trivial⟩, ⟨⟨dL_law_1445, rfl⟩, rfl⟩, ⟨⟨dL_law_1448, rfl⟩, rfl⟩, ⟨⟨dL_law_1449, rfl⟩, Or.inr (Or.inl ⟨rfl, rfl⟩)⟩, ⟨⟨dL_law_1450, rfl⟩, rfl⟩, ⟨⟨dL_law_1453, rfl⟩, rfl⟩, ⟨⟨dL_law_1454, rfl⟩, rfl⟩, ⟨⟨dL_law_1455, rfl⟩, rfl⟩, ⟨⟨dL_law_1457, rfl⟩, rfl⟩, ⟨⟨dL_law_1458, rfl⟩, trivial⟩, ⟨⟨dL_law_1459, rfl⟩, trivial⟩, ⟨⟨dL_law_1460, rfl⟩, Or.inr ⟨by decide, ⟨_, my_275, sL_194⟩, fun q => absurd q (by decide)⟩⟩, ⟨⟨dL_law_1463, rfl⟩, rfl⟩, trivial⟩,
  ⟨⟨⟨dL_law_1464, rfl⟩, rfl⟩, ⟨⟨dL_law_1465, rfl⟩, rfl⟩, ⟨⟨dL_law_1467, rfl⟩, rfl⟩, ⟨⟨dL_law_1468, rfl⟩, trivial⟩, ⟨⟨dL_law_1469, rfl⟩, trivial⟩, ⟨⟨dL_law_1470, rfl⟩, Or.inr ⟨by decide, ⟨_, my_276, sL_197⟩, fun q => absurd q (by decide)⟩⟩, ⟨⟨dL_law_1473, rfl⟩, rfl⟩, ⟨⟨dL_law_1476, rfl⟩, rfl⟩, ⟨⟨dL_law_1477, rfl⟩, Or.inr (Or.inl ⟨rfl, rfl⟩)⟩, ⟨⟨dL_law_1478, rfl⟩, rfl⟩, ⟨⟨dL_law_1479, rfl⟩, rfl⟩, ⟨⟨dL_law_1480, rfl⟩, rfl⟩, ⟨⟨dL_law_1482, rfl⟩, rfl⟩, ⟨⟨dL_law_1483, rfl⟩, trivial⟩, ⟨⟨dL_law_1484, rfl⟩, trivial⟩, ⟨⟨dL_law_1485, rfl⟩, rfl⟩, ⟨⟨dL_law_1486, rfl⟩, Or.inr (Or.inr (Or.inr (Or.inl ⟨rfl, rfl, rfl, _, my_280, sL_198⟩)))⟩, ⟨⟨dL_law_1489, rfl⟩, rfl⟩, ⟨⟨dL_law_1491, rfl⟩, rfl⟩, ⟨⟨dL_law_1492, rfl⟩, rfl⟩, ⟨⟨dL_law_1493, rfl⟩, rfl⟩, ⟨⟨dL_law_1495, rfl⟩, rfl⟩, ⟨⟨dL_law_1496, rfl⟩, trivial⟩, ⟨⟨dL_law_1497, rfl⟩, trivial⟩, trivial⟩,
  ⟨⟨⟨dL_law_1498, rfl⟩, Or.inr ⟨by decide, ⟨_, my_281, sL_200⟩, fun q => absurd q (by decide)⟩⟩, ⟨⟨dL_law_1501, rfl⟩, rfl⟩, ⟨⟨dL_law_1503, rfl⟩, rfl⟩, ⟨⟨dL_law_1504, rfl⟩, Or.inr ⟨by decide, ⟨_, my_33, sL_142⟩, fun q => absurd q (by decide)⟩⟩, ⟨⟨dL_law_1507, rfl⟩, rfl⟩, ⟨⟨dL_law_1509, rfl⟩, rfl⟩, ⟨⟨dL_law_1512, rfl⟩, rfl⟩, ⟨⟨dL_law_1513, rfl⟩, Or.inr (Or.inl ⟨rfl, rfl⟩)⟩, ⟨⟨dL_law_1514, rfl⟩, rfl⟩, ⟨⟨dL_law_1516, rfl⟩, rfl⟩, ⟨⟨dL_law_1519, rfl⟩, rfl⟩, ⟨⟨dL_law_1520, rfl⟩, rfl⟩, ⟨⟨dL_law_1521, rfl⟩, trivial⟩, ⟨⟨dL_law_1522, rfl⟩, rfl⟩, ⟨⟨dL_law_1524, rfl⟩, trivial⟩, ⟨⟨dL_law_1525, rfl⟩, trivial⟩, ⟨⟨dL_law_1526, rfl⟩, rfl⟩, ⟨⟨dL_law_1529, rfl⟩, rfl⟩, ⟨⟨dL_law_1530, rfl⟩, Or.inr (Or.inl ⟨rfl, rfl⟩)⟩, ⟨⟨dL_law_1531, rfl⟩, rfl⟩, ⟨⟨dL_law_1534, rfl⟩, rfl⟩, ⟨⟨dL_law_1535, rfl⟩, Or.inr ⟨by decide, ⟨_, my_282, sL_201⟩, fun q => absurd q (by decide)⟩⟩, ⟨⟨dL_law_1538, rfl⟩, rfl⟩, ⟨⟨dL_law_1539, rfl⟩, Or.inr ⟨by decide, ⟨_, my_283, sL_204⟩, fun q => absurd q (by decide)⟩⟩, trivial⟩,
  ⟨⟨⟨dL_law_1542, rfl⟩, rfl⟩, ⟨⟨dL_law_1545, rfl⟩, rfl⟩, ⟨⟨dL_law_1546, rfl⟩, Or.inr (Or.inl ⟨rfl, rfl⟩)⟩, ⟨⟨dL_law_1547, rfl⟩, rfl⟩, ⟨⟨dL_law_1548, rfl⟩, rfl⟩, ⟨⟨dL_law_1549, rfl⟩, rfl⟩, ⟨⟨dL_law_1551, rfl⟩, rfl⟩, ⟨⟨dL_law_1552, rfl⟩, trivial⟩, ⟨⟨dL_law_1553, rfl⟩, trivial⟩, ⟨⟨dL_law_1554, rfl⟩, rfl⟩, ⟨⟨dL_law_1555, rfl⟩, rfl⟩, ⟨⟨dL_law_1557, rfl⟩, rfl⟩, ⟨⟨dL_law_1558, rfl⟩, trivial⟩, ⟨⟨dL_law_1559, rfl⟩, trivial⟩, ⟨⟨dL_law_1560, rfl⟩, rfl⟩, ⟨⟨dL_law_1561, rfl⟩, Or.inr (Or.inr (Or.inr (Or.inl ⟨rfl, rfl, rfl, _, my_290, sL_205⟩)))⟩, ⟨⟨dL_law_1564, rfl⟩, rfl⟩, ⟨⟨dL_law_1566, rfl⟩, rfl⟩, ⟨⟨dL_law_1567, rfl⟩, rfl⟩, ⟨⟨dL_law_1568, rfl⟩, rfl⟩, ⟨⟨dL_law_1570, rfl⟩, rfl⟩, ⟨⟨dL_law_1571, rfl⟩, trivial⟩, ⟨⟨dL_law_1572, rfl⟩, trivial⟩, ⟨⟨dL_law_1573, rfl⟩, rfl⟩, trivial⟩,
  ⟨⟨⟨dL_law_1574, rfl⟩, rfl⟩, ⟨⟨dL_law_1576, rfl⟩, rfl⟩, ⟨⟨dL_law_1577, rfl⟩, trivial⟩, ⟨⟨dL_law_1578, rfl⟩, trivial⟩, ⟨⟨dL_law_1579, rfl⟩, Or.inr ⟨by decide, ⟨_, my_293, sL_207⟩, fun q => absurd q (by decide)⟩⟩, ⟨⟨dL_law_1582, rfl⟩, rfl⟩, ⟨⟨dL_law_1584, rfl⟩, rfl⟩, ⟨⟨dL_law_1585, rfl⟩, Or.inr ⟨by decide, ⟨_, my_33, sL_142⟩, fun q => absurd q (by decide)⟩⟩, ⟨⟨dL_law_1588, rfl⟩, rfl⟩, ⟨⟨dL_law_1590, rfl⟩, rfl⟩, ⟨⟨dL_law_1593, rfl⟩, rfl⟩, ⟨⟨dL_law_1594, rfl⟩, Or.inr (Or.inl ⟨rfl, rfl⟩)⟩, ⟨⟨dL_law_1595, rfl⟩, rfl⟩, ⟨⟨dL_law_1597, rfl⟩, rfl⟩, ⟨⟨dL_law_1600, rfl⟩, rfl⟩, ⟨⟨dL_law_1601, rfl⟩, rfl⟩, ⟨⟨dL_law_1602, rfl⟩, trivial⟩, ⟨⟨dL_law_1603, rfl⟩, rfl⟩, ⟨⟨dL_law_1605, rfl⟩, trivial⟩, ⟨⟨dL_law_1606, rfl⟩, trivial⟩, ⟨⟨dL_law_1607, rfl⟩, rfl⟩, ⟨⟨dL_law_1610, rfl⟩, rfl⟩, ⟨⟨dL_law_1611, rfl⟩, Or.inr (Or.inl ⟨rfl, rfl⟩)⟩, ⟨⟨dL_law_1612, rfl⟩, rfl⟩, trivial⟩,
  ⟨⟨⟨dL_law_1615, rfl⟩, rfl⟩, ⟨⟨dL_law_1616, rfl⟩, rfl⟩, ⟨⟨dL_law_1617, rfl⟩, rfl⟩, ⟨⟨dL_law_1619, rfl⟩, rfl⟩, ⟨⟨dL_law_1620, rfl⟩, trivial⟩, ⟨⟨dL_law_1621, rfl⟩, trivial⟩, ⟨⟨dL_law_1622, rfl⟩, rfl⟩, ⟨⟨dL_law_1623, rfl⟩, rfl⟩, ⟨⟨dL_law_1625, rfl⟩, rfl⟩, ⟨⟨dL_law_1626, rfl⟩, trivial⟩, ⟨⟨dL_law_1627, rfl⟩, trivial⟩, ⟨⟨dL_law_1628, rfl⟩, rfl⟩, ⟨⟨dL_law_1629, rfl⟩, Or.inr (Or.inr (Or.inr (Or.inl ⟨rfl, rfl, rfl, _, my_296, sL_208⟩)))⟩, ⟨⟨dL_law_1632, rfl⟩, rfl⟩, ⟨⟨dL_law_1634, rfl⟩, rfl⟩, ⟨⟨dL_law_1635, rfl⟩, rfl⟩, ⟨⟨dL_law_1636, rfl⟩, rfl⟩, ⟨⟨dL_law_1638, rfl⟩, rfl⟩, ⟨⟨dL_law_1639, rfl⟩, trivial⟩, ⟨⟨dL_law_1640, rfl⟩, trivial⟩, ⟨⟨dL_law_1641, rfl⟩, rfl⟩, ⟨⟨dL_law_1642, rfl⟩, rfl⟩, ⟨⟨dL_law_1644, rfl⟩, rfl⟩, ⟨⟨dL_law_1645, rfl⟩, trivial⟩, trivial⟩,
  ⟨⟨⟨dL_law_1646, rfl⟩, trivial⟩, ⟨⟨dL_law_1647, rfl⟩, Or.inr ⟨by decide, ⟨_, my_297, sL_210⟩, fun q => absurd q (by decide)⟩⟩, ⟨⟨dL_law_1650, rfl⟩, rfl⟩, ⟨⟨dL_law_1652, rfl⟩, rfl⟩, ⟨⟨dL_law_1653, rfl⟩, Or.inr ⟨by decide, ⟨_, my_33, sL_142⟩, fun q => absurd q (by decide)⟩⟩, ⟨⟨dL_law_1656, rfl⟩, rfl⟩, ⟨⟨dL_law_1658, rfl⟩, rfl⟩, ⟨⟨dL_law_1661, rfl⟩, rfl⟩, ⟨⟨dL_law_1662, rfl⟩, Or.inr (Or.inl ⟨rfl, rfl⟩)⟩, ⟨⟨dL_law_1663, rfl⟩, rfl⟩, ⟨⟨dL_law_1665, rfl⟩, rfl⟩, ⟨⟨dL_law_1668, rfl⟩, rfl⟩, ⟨⟨dL_law_1669, rfl⟩, rfl⟩, ⟨⟨dL_law_1670, rfl⟩, trivial⟩, ⟨⟨dL_law_1671, rfl⟩, rfl⟩, ⟨⟨dL_law_1673, rfl⟩, trivial⟩, ⟨⟨dL_law_1674, rfl⟩, trivial⟩, ⟨⟨dL_law_1675, rfl⟩, rfl⟩, ⟨⟨dL_law_1678, rfl⟩, rfl⟩, ⟨⟨dL_law_1679, rfl⟩, Or.inr (Or.inl ⟨rfl, rfl⟩)⟩, ⟨⟨dL_law_1680, rfl⟩, rfl⟩, ⟨⟨dL_law_1683, rfl⟩, rfl⟩, ⟨⟨dL_law_1684, rfl⟩, rfl⟩, ⟨⟨dL_law_1685, rfl⟩, rfl⟩, trivial⟩,
  ⟨⟨⟨dL_law_1687, rfl⟩, rfl⟩, ⟨⟨dL_law_1688, rfl⟩, trivial⟩, ⟨⟨dL_law_1689, rfl⟩, trivial⟩, ⟨⟨dL_law_1690, rfl⟩, rfl⟩, ⟨⟨dL_law_1691, rfl⟩, rfl⟩, ⟨⟨dL_law_1693, rfl⟩, rfl⟩, ⟨⟨dL_law_1694, rfl⟩, trivial⟩, ⟨⟨dL_law_1695, rfl⟩, trivial⟩, ⟨⟨dL_law_1696, rfl⟩, rfl⟩, ⟨⟨dL_law_1699, rfl⟩, rfl⟩, ⟨⟨dL_law_1700, rfl⟩, rfl⟩, ⟨⟨dL_law_1703, rfl⟩, rfl⟩, ⟨⟨dL_law_1704, rfl⟩, rfl⟩, ⟨⟨dL_law_1705, rfl⟩, Or.inr (Or.inr (Or.inr (Or.inl ⟨rfl, rfl, rfl, _, my_299, sL_211⟩)))⟩, ⟨⟨dL_law_1708, rfl⟩, rfl⟩, ⟨⟨dL_law_1710, rfl⟩, rfl⟩, ⟨⟨dL_law_1711, rfl⟩, rfl⟩, ⟨⟨dL_law_1712, rfl⟩, rfl⟩, ⟨⟨dL_law_1714, rfl⟩, rfl⟩, ⟨⟨dL_law_1715, rfl⟩, trivial⟩, ⟨⟨dL_law_1716, rfl⟩, trivial⟩, ⟨⟨dL_law_1717, rfl⟩, rfl⟩, ⟨⟨dL_law_1718, rfl⟩, rfl⟩, ⟨⟨dL_law_1720, rfl⟩, rfl⟩, trivial⟩,
  ⟨⟨⟨dL_law_1721, rfl⟩, trivial⟩, ⟨⟨dL_law_1722, rfl⟩, trivial⟩, ⟨⟨dL_law_1723, rfl⟩, rfl⟩, ⟨⟨dL_law_1726, rfl⟩, rfl⟩, ⟨⟨dL_law_1727, rfl⟩, rfl⟩, ⟨⟨dL_law_1730, rfl⟩, rfl⟩, ⟨⟨dL_law_1731, rfl⟩, Or.inr ⟨by decide, ⟨_, my_300, sL_214⟩, fun q => absurd q (by decide)⟩⟩, ⟨⟨dL_law_1734, rfl⟩, rfl⟩, ⟨⟨dL_law_1736, rfl⟩, rfl⟩, ⟨⟨dL_law_1737, rfl⟩, Or.inr ⟨by decide, ⟨_, my_33, sL_142⟩, fun q => absurd q (by decide)⟩⟩, ⟨⟨dL_law_1740, rfl⟩, rfl⟩, ⟨⟨dL_law_1742, rfl⟩, rfl⟩, ⟨⟨dL_law_1745, rfl⟩, rfl⟩, ⟨⟨dL_law_1746, rfl⟩, Or.inr (Or.inl ⟨rfl, rfl⟩)⟩, ⟨⟨dL_law_1747, rfl⟩, rfl⟩, ⟨⟨dL_law_1749, rfl⟩, rfl⟩, ⟨⟨dL_law_1752, rfl⟩, rfl⟩, ⟨⟨dL_law_1753, rfl⟩, rfl⟩, ⟨⟨dL_law_1754, rfl⟩, trivial⟩, ⟨⟨dL_law_1755, rfl⟩, rfl⟩, ⟨⟨dL_law_1757, rfl⟩, trivial⟩, ⟨⟨dL_law_1758, rfl⟩, trivial⟩, ⟨⟨dL_law_1759, rfl⟩, rfl⟩, ⟨⟨dL_law_1762, rfl⟩, rfl⟩, trivial⟩,
  ⟨⟨⟨dL_law_1763, rfl⟩, Or.inr (Or.inl ⟨rfl, rfl⟩)⟩, ⟨⟨dL_law_1764, rfl⟩, rfl⟩, ⟨⟨dL_law_1767, rfl⟩, rfl⟩, ⟨⟨dL_law_1768, rfl⟩, rfl⟩, ⟨⟨dL_law_1769, rfl⟩, rfl⟩, ⟨⟨dL_law_1771, rfl⟩, rfl⟩, ⟨⟨dL_law_1772, rfl⟩, trivial⟩, ⟨⟨dL_law_1773, rfl⟩, trivial⟩, ⟨⟨dL_law_1774, rfl⟩, rfl⟩, ⟨⟨dL_law_1775, rfl⟩, rfl⟩, ⟨⟨dL_law_1777, rfl⟩, rfl⟩, ⟨⟨dL_law_1778, rfl⟩, trivial⟩, ⟨⟨dL_law_1779, rfl⟩, trivial⟩, ⟨⟨dL_law_1780, rfl⟩, rfl⟩, ⟨⟨dL_law_1781, rfl⟩, rfl⟩, ⟨⟨dL_law_1783, rfl⟩, rfl⟩, ⟨⟨dL_law_1784, rfl⟩, trivial⟩, ⟨⟨dL_law_1785, rfl⟩, trivial⟩, ⟨⟨dL_law_1786, rfl⟩, rfl⟩, ⟨⟨dL_law_1787, rfl⟩, rfl⟩, ⟨⟨dL_law_1789, rfl⟩, rfl⟩, ⟨⟨dL_law_1790, rfl⟩, trivial⟩, ⟨⟨dL_law_1791, rfl⟩, trivial⟩, ⟨⟨dL_law_1792, rfl⟩, rfl⟩, trivial⟩,
  ⟨⟨⟨dL_law_1795, rfl⟩, rfl⟩, ⟨⟨dL_law_1796, rfl⟩, rfl⟩, ⟨⟨dL_law_1799, rfl⟩, rfl⟩, ⟨⟨dL_law_1800, rfl⟩, rfl⟩, ⟨⟨dL_law_1801, rfl⟩, Or.inr (Or.inr (Or.inr (Or.inl ⟨rfl, rfl, rfl, _, my_304, sL_215⟩)))⟩, ⟨⟨dL_law_1804, rfl⟩, rfl⟩, ⟨⟨dL_law_1806, rfl⟩, rfl⟩, ⟨⟨dL_law_1807, rfl⟩, rfl⟩, ⟨⟨dL_law_1808, rfl⟩, rfl⟩, ⟨⟨dL_law_1810, rfl⟩, rfl⟩, ⟨⟨dL_law_1811, rfl⟩, trivial⟩, ⟨⟨dL_law_1812, rfl⟩, trivial⟩, ⟨⟨dL_law_1813, rfl⟩, rfl⟩, ⟨⟨dL_law_1814, rfl⟩, rfl⟩, ⟨⟨dL_law_1816, rfl⟩, rfl⟩, ⟨⟨dL_law_1817, rfl⟩, trivial⟩, ⟨⟨dL_law_1818, rfl⟩, trivial⟩, ⟨⟨dL_law_1819, rfl⟩, rfl⟩, ⟨⟨dL_law_1820, rfl⟩, rfl⟩, ⟨⟨dL_law_1822, rfl⟩, rfl⟩, ⟨⟨dL_law_1823, rfl⟩, trivial⟩, ⟨⟨dL_law_1824, rfl⟩, trivial⟩, ⟨⟨dL_law_1825, rfl⟩, rfl⟩, ⟨⟨dL_law_1826, rfl⟩, rfl⟩, trivial⟩,
  ⟨⟨⟨dL_law_1828, rfl⟩, rfl⟩, ⟨⟨dL_law_1829, rfl⟩, trivial⟩, ⟨⟨dL_law_1830, rfl⟩, trivial⟩, ⟨⟨dL_law_1831, rfl⟩, rfl⟩, ⟨⟨dL_law_1834, rfl⟩, rfl⟩, ⟨⟨dL_law_1835, rfl⟩, rfl⟩, ⟨⟨dL_law_1838, rfl⟩, rfl⟩, ⟨⟨dL_law_1839, rfl⟩, Or.inr ⟨by decide, ⟨_, my_306, sL_218⟩, fun q => absurd q (by decide)⟩⟩, ⟨⟨dL_law_1842, rfl⟩, rfl⟩, ⟨⟨dL_law_1844, rfl⟩, rfl⟩, ⟨⟨dL_law_1845, rfl⟩, Or.inr ⟨by decide, ⟨_, my_33, sL_142⟩, fun q => absurd q (by decide)⟩⟩, ⟨⟨dL_law_1848, rfl⟩, rfl⟩, ⟨⟨dL_law_1850, rfl⟩, rfl⟩, ⟨⟨dL_law_1853, rfl⟩, rfl⟩, ⟨⟨dL_law_1854, rfl⟩, Or.inr (Or.inl ⟨rfl, rfl⟩)⟩, ⟨⟨dL_law_1855, rfl⟩, rfl⟩, ⟨⟨dL_law_1857, rfl⟩, rfl⟩, ⟨⟨dL_law_1860, rfl⟩, rfl⟩, ⟨⟨dL_law_1861, rfl⟩, rfl⟩, ⟨⟨dL_law_1862, rfl⟩, trivial⟩, ⟨⟨dL_law_1863, rfl⟩, rfl⟩, ⟨⟨dL_law_1865, rfl⟩, trivial⟩, ⟨⟨dL_law_1866, rfl⟩, trivial⟩, ⟨⟨dL_law_1867, rfl⟩, rfl⟩, trivial⟩,
  ⟨⟨⟨dL_law_1870, rfl⟩, rfl⟩, ⟨⟨dL_law_1871, rfl⟩, Or.inr (Or.inl ⟨rfl, rfl⟩)⟩, ⟨⟨dL_law_1872, rfl⟩, rfl⟩, ⟨⟨dL_law_1875, rfl⟩, rfl⟩, ⟨⟨dL_law_1876, rfl⟩, rfl⟩, ⟨⟨dL_law_1877, rfl⟩, rfl⟩, ⟨⟨dL_law_1879, rfl⟩, rfl⟩, ⟨⟨dL_law_1880, rfl⟩, trivial⟩, ⟨⟨dL_law_1881, rfl⟩, trivial⟩, ⟨⟨dL_law_1882, rfl⟩, rfl⟩, ⟨⟨dL_law_1883, rfl⟩, Or.inr (Or.inr (Or.inr (Or.inl ⟨rfl, rfl, rfl, _, my_308, sL_219⟩)))⟩, ⟨⟨dL_law_1886, rfl⟩, rfl⟩, ⟨⟨dL_law_1888, rfl⟩, rfl⟩, ⟨⟨dL_law_1889, rfl⟩, rfl⟩, ⟨⟨dL_law_1890, rfl⟩, rfl⟩, ⟨⟨dL_law_1892, rfl⟩, rfl⟩, ⟨⟨dL_law_1893, rfl⟩, trivial⟩, ⟨⟨dL_law_1894, rfl⟩, trivial⟩, ⟨⟨dL_law_1895, rfl⟩, Or.inr ⟨by decide, ⟨_, my_309, sL_221⟩, fun q => absurd q (by decide)⟩⟩, ⟨⟨dL_law_1898, rfl⟩, rfl⟩, ⟨⟨dL_law_1900, rfl⟩, rfl⟩, ⟨⟨dL_law_1901, rfl⟩, Or.inr ⟨by decide, ⟨_, my_33, sL_142⟩, fun q => absurd q (by decide)⟩⟩, ⟨⟨dL_law_1904, rfl⟩, rfl⟩, ⟨⟨dL_law_1906, rfl⟩, rfl⟩, trivial⟩,
  ⟨⟨⟨dL_law_1909, rfl⟩, rfl⟩, ⟨⟨dL_law_1910, rfl⟩, Or.inr (Or.inl ⟨rfl, rfl⟩)⟩, ⟨⟨dL_law_1911, rfl⟩, rfl⟩, ⟨⟨dL_law_1913, rfl⟩, rfl⟩, ⟨⟨dL_law_1916, rfl⟩, rfl⟩, ⟨⟨dL_law_1917, rfl⟩, rfl⟩, ⟨⟨dL_law_1918, rfl⟩, trivial⟩, ⟨⟨dL_law_1919, rfl⟩, rfl⟩, ⟨⟨dL_law_1921, rfl⟩, trivial⟩, ⟨⟨dL_law_1922, rfl⟩, trivial⟩, ⟨⟨dL_law_1923, rfl⟩, rfl⟩, ⟨⟨dL_law_1926, rfl⟩, rfl⟩, ⟨⟨dL_law_1927, rfl⟩, Or.inr (Or.inl ⟨rfl, rfl⟩)⟩, ⟨⟨dL_law_1928, rfl⟩, rfl⟩, ⟨⟨dL_law_1931, rfl⟩, rfl⟩, ⟨⟨dL_law_1932, rfl⟩, rfl⟩, ⟨⟨dL_law_1933, rfl⟩, rfl⟩, ⟨⟨dL_law_1935, rfl⟩, rfl⟩, ⟨⟨dL_law_1936, rfl⟩, trivial⟩, ⟨⟨dL_law_1937, rfl⟩, trivial⟩, ⟨⟨dL_law_1938, rfl⟩, rfl⟩, ⟨⟨dL_law_1939, rfl⟩, rfl⟩, ⟨⟨dL_law_1941, rfl⟩, rfl⟩, ⟨⟨dL_law_1942, rfl⟩, trivial⟩, trivial⟩,
  ⟨⟨⟨dL_law_1943, rfl⟩, trivial⟩, ⟨⟨dL_law_1944, rfl⟩, rfl⟩, ⟨⟨dL_law_1947, rfl⟩, rfl⟩, ⟨⟨dL_law_1948, rfl⟩, rfl⟩, ⟨⟨dL_law_1951, rfl⟩, rfl⟩, ⟨⟨dL_law_1952, rfl⟩, rfl⟩, ⟨⟨dL_law_1953, rfl⟩, Or.inr (Or.inr (Or.inr (Or.inl ⟨rfl, rfl, rfl, _, my_312, sL_222⟩)))⟩, ⟨⟨dL_law_1956, rfl⟩, rfl⟩, ⟨⟨dL_law_1958, rfl⟩, rfl⟩, ⟨⟨dL_law_1959, rfl⟩, rfl⟩, ⟨⟨dL_law_1960, rfl⟩, rfl⟩, ⟨⟨dL_law_1962, rfl⟩, rfl⟩, ⟨⟨dL_law_1963, rfl⟩, trivial⟩, ⟨⟨dL_law_1964, rfl⟩, trivial⟩, ⟨⟨dL_law_1965, rfl⟩, rfl⟩, ⟨⟨dL_law_1966, rfl⟩, rfl⟩, ⟨⟨dL_law_1968, rfl⟩, rfl⟩, ⟨⟨dL_law_1969, rfl⟩, trivial⟩, ⟨⟨dL_law_1970, rfl⟩, trivial⟩, ⟨⟨dL_law_1971, rfl⟩, rfl⟩, ⟨⟨dL_law_1974, rfl⟩, rfl⟩, ⟨⟨dL_law_1975, rfl⟩, rfl⟩, ⟨⟨dL_law_1978, rfl⟩, rfl⟩, ⟨⟨dL_law_1979, rfl⟩, Or.inr ⟨by decide, ⟨_, my_313, sL_224⟩, fun q => absurd q (by decide)⟩⟩, trivial⟩,
  ⟨⟨⟨dL_law_1982, rfl⟩, rfl⟩, ⟨⟨dL_law_1984, rfl⟩, rfl⟩, ⟨⟨dL_law_1985, rfl⟩, Or.inr ⟨by decide, ⟨_, my_33, sL_142⟩, fun q => absurd q (by decide)⟩⟩, ⟨⟨dL_law_1988, rfl⟩, rfl⟩, ⟨⟨dL_law_1990, rfl⟩, rfl⟩, ⟨⟨dL_law_1993, rfl⟩, rfl⟩, ⟨⟨dL_law_1994, rfl⟩, Or.inr (Or.inl ⟨rfl, rfl⟩)⟩, ⟨⟨dL_law_1995, rfl⟩, rfl⟩, ⟨⟨dL_law_1997, rfl⟩, rfl⟩, ⟨⟨dL_law_2000, rfl⟩, rfl⟩, ⟨⟨dL_law_2001, rfl⟩, rfl⟩, ⟨⟨dL_law_2002, rfl⟩, trivial⟩, ⟨⟨dL_law_2003, rfl⟩, rfl⟩, ⟨⟨dL_law_2005, rfl⟩, rfl⟩, ⟨⟨dL_law_2008, rfl⟩, rfl⟩, ⟨⟨dL_law_2009, rfl⟩, rfl⟩, ⟨⟨dL_law_2012, rfl⟩, rfl⟩, ⟨⟨dL_law_2013, rfl⟩, trivial⟩, ⟨⟨dL_law_2014, rfl⟩, rfl⟩, ⟨⟨dL_law_2017, rfl⟩, rfl⟩, ⟨⟨dL_law_2018, rfl⟩, Or.inr (Or.inl ⟨rfl, rfl⟩)⟩, ⟨⟨dL_law_2019, rfl⟩, rfl⟩, ⟨⟨dL_law_2022, rfl⟩, rfl⟩, ⟨⟨dL_law_2023, rfl⟩, rfl⟩, trivial⟩,
  ⟨⟨⟨dL_law_2024, rfl⟩, rfl⟩, ⟨⟨dL_law_2026, rfl⟩, rfl⟩, ⟨⟨dL_law_2027, rfl⟩, trivial⟩, ⟨⟨dL_law_2028, rfl⟩, trivial⟩, ⟨⟨dL_law_2029, rfl⟩, rfl⟩, ⟨⟨dL_law_2030, rfl⟩, rfl⟩, ⟨⟨dL_law_2032, rfl⟩, rfl⟩, ⟨⟨dL_law_2033, rfl⟩, trivial⟩, ⟨⟨dL_law_2034, rfl⟩, trivial⟩, ⟨⟨dL_law_2035, rfl⟩, rfl⟩, ⟨⟨dL_law_2038, rfl⟩, rfl⟩, ⟨⟨dL_law_2039, rfl⟩, rfl⟩, ⟨⟨dL_law_2042, rfl⟩, rfl⟩, ⟨⟨dL_law_2043, rfl⟩, rfl⟩, ⟨⟨dL_law_2044, rfl⟩, Or.inr (Or.inr (Or.inr (Or.inl ⟨rfl, rfl, rfl, _, my_315, sL_225⟩)))⟩, ⟨⟨dL_law_2047, rfl⟩, rfl⟩, ⟨⟨dL_law_2049, rfl⟩, rfl⟩, ⟨⟨dL_law_2050, rfl⟩, rfl⟩, ⟨⟨dL_law_2051, rfl⟩, rfl⟩, ⟨⟨dL_law_2053, rfl⟩, rfl⟩, ⟨⟨dL_law_2054, rfl⟩, trivial⟩, ⟨⟨dL_law_2055, rfl⟩, trivial⟩, ⟨⟨dL_law_2056, rfl⟩, rfl⟩, ⟨⟨dL_law_2057, rfl⟩, rfl⟩, trivial⟩,
  ⟨⟨⟨dL_law_2059, rfl⟩, rfl⟩, ⟨⟨dL_law_2060, rfl⟩, trivial⟩, ⟨⟨dL_law_2061, rfl⟩, trivial⟩, ⟨⟨dL_law_2062, rfl⟩, rfl⟩, ⟨⟨dL_law_2065, rfl⟩, rfl⟩, ⟨⟨dL_law_2066, rfl⟩, rfl⟩, ⟨⟨dL_law_2069, rfl⟩, rfl⟩, ⟨⟨dL_law_2070, rfl⟩, Or.inr ⟨by decide, ⟨_, my_316, sL_227⟩, fun q => absurd q (by decide)⟩⟩, ⟨⟨dL_law_2073, rfl⟩, rfl⟩, ⟨⟨dL_law_2075, rfl⟩, rfl⟩, ⟨⟨dL_law_2076, rfl⟩, Or.inr ⟨by decide, ⟨_, my_33, sL_142⟩, fun q => absurd q (by decide)⟩⟩, ⟨⟨dL_law_2079, rfl⟩, rfl⟩, ⟨⟨dL_law_2081, rfl⟩, rfl⟩, ⟨⟨dL_law_2084, rfl⟩, rfl⟩, ⟨⟨dL_law_2085, rfl⟩, Or.inr (Or.inl ⟨rfl, rfl⟩)⟩, ⟨⟨dL_law_2086, rfl⟩, rfl⟩, ⟨⟨dL_law_2088, rfl⟩, rfl⟩, ⟨⟨dL_law_2091, rfl⟩, rfl⟩, ⟨⟨dL_law_2092, rfl⟩, rfl⟩, ⟨⟨dL_law_2093, rfl⟩, trivial⟩, ⟨⟨dL_law_2094, rfl⟩, rfl⟩, ⟨⟨dL_law_2096, rfl⟩, trivial⟩, ⟨⟨dL_law_2097, rfl⟩, trivial⟩, ⟨⟨dL_law_2098, rfl⟩, rfl⟩, trivial⟩,
  ⟨⟨⟨dL_law_2101, rfl⟩, rfl⟩, ⟨⟨dL_law_2102, rfl⟩, Or.inr (Or.inl ⟨rfl, rfl⟩)⟩, ⟨⟨dL_law_2103, rfl⟩, rfl⟩, ⟨⟨dL_law_2106, rfl⟩, rfl⟩, ⟨⟨dL_law_2107, rfl⟩, Or.inr ⟨by decide, ⟨_, my_318, sL_228⟩, fun q => absurd q (by decide)⟩⟩, ⟨⟨dL_law_2110, rfl⟩, rfl⟩, ⟨⟨dL_law_2111, rfl⟩, Or.inr ⟨by decide, ⟨_, my_319, sL_231⟩, fun q => absurd q (by decide)⟩⟩, ⟨⟨dL_law_2114, rfl⟩, rfl⟩, ⟨⟨dL_law_2117, rfl⟩, rfl⟩, ⟨⟨dL_law_2118, rfl⟩, Or.inr (Or.inl ⟨rfl, rfl⟩)⟩, ⟨⟨dL_law_2119, rfl⟩, rfl⟩, ⟨⟨dL_law_2120, rfl⟩, rfl⟩, ⟨⟨dL_law_2121, rfl⟩, rfl⟩, ⟨⟨dL_law_2123, rfl⟩, rfl⟩, ⟨⟨dL_law_2124, rfl⟩, trivial⟩, ⟨⟨dL_law_2125, rfl⟩, trivial⟩, ⟨⟨dL_law_2126, rfl⟩, rfl⟩, ⟨⟨dL_law_2127, rfl⟩, rfl⟩, ⟨⟨dL_law_2129, rfl⟩, rfl⟩, ⟨⟨dL_law_2130, rfl⟩, trivial⟩, ⟨⟨dL_law_2131, rfl⟩, trivial⟩, ⟨⟨dL_law_2132, rfl⟩, rfl⟩, ⟨⟨dL_law_2133, rfl⟩, Or.inr (Or.inr (Or.inr (Or.inl ⟨rfl, rfl, rfl, _, my_322, sL_232⟩)))⟩, ⟨⟨dL_law_2136, rfl⟩, rfl⟩, trivial⟩,
  ⟨⟨⟨dL_law_2138, rfl⟩, rfl⟩, ⟨⟨dL_law_2139, rfl⟩, rfl⟩, ⟨⟨dL_law_2140, rfl⟩, rfl⟩, ⟨⟨dL_law_2142, rfl⟩, rfl⟩, ⟨⟨dL_law_2143, rfl⟩, trivial⟩, ⟨⟨dL_law_2144, rfl⟩, trivial⟩, ⟨⟨dL_law_2145, rfl⟩, rfl⟩, ⟨⟨dL_law_2146, rfl⟩, rfl⟩, ⟨⟨dL_law_2148, rfl⟩, rfl⟩, ⟨⟨dL_law_2149, rfl⟩, trivial⟩, ⟨⟨dL_law_2150, rfl⟩, trivial⟩, ⟨⟨dL_law_2151, rfl⟩, Or.inr ⟨by decide, ⟨_, my_323, sL_234⟩, fun q => absurd q (by decide)⟩⟩, ⟨⟨dL_law_2154, rfl⟩, rfl⟩, ⟨⟨dL_law_2156, rfl⟩, rfl⟩, ⟨⟨dL_law_2157, rfl⟩, Or.inr ⟨by decide, ⟨_, my_33, sL_142⟩, fun q => absurd q (by decide)⟩⟩, ⟨⟨dL_law_2160, rfl⟩, rfl⟩, ⟨⟨dL_law_2162, rfl⟩, rfl⟩, ⟨⟨dL_law_2165, rfl⟩, rfl⟩, ⟨⟨dL_law_2166, rfl⟩, Or.inr (Or.inl ⟨rfl, rfl⟩)⟩, ⟨⟨dL_law_2167, rfl⟩, rfl⟩, ⟨⟨dL_law_2169, rfl⟩, rfl⟩, ⟨⟨dL_law_2172, rfl⟩, rfl⟩, ⟨⟨dL_law_2173, rfl⟩, rfl⟩, ⟨⟨dL_law_2174, rfl⟩, trivial⟩, trivial⟩,
  ⟨⟨⟨dL_law_2175, rfl⟩, rfl⟩, ⟨⟨dL_law_2177, rfl⟩, trivial⟩, ⟨⟨dL_law_2178, rfl⟩, trivial⟩, ⟨⟨dL_law_2179, rfl⟩, rfl⟩, ⟨⟨dL_law_2182, rfl⟩, rfl⟩, ⟨⟨dL_law_2183, rfl⟩, Or.inr (Or.inl ⟨rfl, rfl⟩)⟩, ⟨⟨dL_law_2184, rfl⟩, rfl⟩, ⟨⟨dL_law_2187, rfl⟩, rfl⟩, ⟨⟨dL_law_2188, rfl⟩, rfl⟩, ⟨⟨dL_law_2189, rfl⟩, rfl⟩, ⟨⟨dL_law_2191, rfl⟩, rfl⟩, ⟨⟨dL_law_2192, rfl⟩, trivial⟩, ⟨⟨dL_law_2193, rfl⟩, trivial⟩, ⟨⟨dL_law_2194, rfl⟩, rfl⟩, ⟨⟨dL_law_2195, rfl⟩, rfl⟩, ⟨⟨dL_law_2197, rfl⟩, rfl⟩, ⟨⟨dL_law_2198, rfl⟩, trivial⟩, ⟨⟨dL_law_2199, rfl⟩, trivial⟩, ⟨⟨dL_law_2200, rfl⟩, rfl⟩, ⟨⟨dL_law_2201, rfl⟩, rfl⟩, ⟨⟨dL_law_2203, rfl⟩, rfl⟩, ⟨⟨dL_law_2204, rfl⟩, trivial⟩, ⟨⟨dL_law_2205, rfl⟩, trivial⟩, ⟨⟨dL_law_2206, rfl⟩, rfl⟩, trivial⟩,
  ⟨⟨⟨dL_law_2207, rfl⟩, Or.inr (Or.inr (Or.inr (Or.inl ⟨rfl, rfl, rfl, _, my_326, sL_235⟩)))⟩, ⟨⟨dL_law_2210, rfl⟩, rfl⟩, ⟨⟨dL_law_2212, rfl⟩, rfl⟩, ⟨⟨dL_law_2213, rfl⟩, rfl⟩, ⟨⟨dL_law_2214, rfl⟩, rfl⟩, ⟨⟨dL_law_2216, rfl⟩, rfl⟩, ⟨⟨dL_law_2217, rfl⟩, trivial⟩, ⟨⟨dL_law_2218, rfl⟩, trivial⟩, ⟨⟨dL_law_2219, rfl⟩, rfl⟩, ⟨⟨dL_law_2220, rfl⟩, rfl⟩, ⟨⟨dL_law_2222, rfl⟩, rfl⟩, ⟨⟨dL_law_2223, rfl⟩, trivial⟩, ⟨⟨dL_law_2224, rfl⟩, trivial⟩, ⟨⟨dL_law_2225, rfl⟩, rfl⟩, ⟨⟨dL_law_2226, rfl⟩, rfl⟩, ⟨⟨dL_law_2228, rfl⟩, rfl⟩, ⟨⟨dL_law_2229, rfl⟩, trivial⟩, ⟨⟨dL_law_2230, rfl⟩, trivial⟩, ⟨⟨dL_law_2231, rfl⟩, Or.inr ⟨by decide, ⟨_, my_327, sL_237⟩, fun q => absurd q (by decide)⟩⟩, ⟨⟨dL_law_2234, rfl⟩, rfl⟩, ⟨⟨dL_law_2236, rfl⟩, rfl⟩, ⟨⟨dL_law_2237, rfl⟩, Or.inr ⟨by decide, ⟨_, my_33, sL_142⟩, fun q => absurd q (by decide)⟩⟩, ⟨⟨dL_law_2240, rfl⟩, rfl⟩, ⟨⟨dL_law_2242, rfl⟩, rfl⟩, trivial⟩,
  ⟨⟨⟨dL_law_2245, rfl⟩, rfl⟩, ⟨⟨dL_law_2246, rfl⟩, Or.inr (Or.inl ⟨rfl, rfl⟩)⟩, ⟨⟨dL_law_2247, rfl⟩, rfl⟩, ⟨⟨dL_law_2249, rfl⟩, rfl⟩, ⟨⟨dL_law_2252, rfl⟩, rfl⟩, ⟨⟨dL_law_2253, rfl⟩, rfl⟩, ⟨⟨dL_law_2254, rfl⟩, trivial⟩, ⟨⟨dL_law_2255, rfl⟩, rfl⟩, ⟨⟨dL_law_2257, rfl⟩, trivial⟩, ⟨⟨dL_law_2258, rfl⟩, trivial⟩, ⟨⟨dL_law_2259, rfl⟩, rfl⟩, ⟨⟨dL_law_2262, rfl⟩, rfl⟩, ⟨⟨dL_law_2263, rfl⟩, Or.inr (Or.inl ⟨rfl, rfl⟩)⟩, ⟨⟨dL_law_2264, rfl⟩, rfl⟩, ⟨⟨dL_law_2267, rfl⟩, rfl⟩, ⟨⟨dL_law_2268, rfl⟩, rfl⟩, ⟨⟨dL_law_2269, rfl⟩, rfl⟩, ⟨⟨dL_law_2271, rfl⟩, rfl⟩, ⟨⟨dL_law_2272, rfl⟩, trivial⟩, ⟨⟨dL_law_2273, rfl⟩, trivial⟩, ⟨⟨dL_law_2274, rfl⟩, rfl⟩, ⟨⟨dL_law_2275, rfl⟩, rfl⟩, ⟨⟨dL_law_2277, rfl⟩, rfl⟩, ⟨⟨dL_law_2278, rfl⟩, trivial⟩, trivial⟩,
  ⟨⟨⟨dL_law_2279, rfl⟩, trivial⟩, ⟨⟨dL_law_2280, rfl⟩, rfl⟩, ⟨⟨dL_law_2281, rfl⟩, Or.inr (Or.inr (Or.inr (Or.inl ⟨rfl, rfl, rfl, _, my_330, sL_238⟩)))⟩, ⟨⟨dL_law_2284, rfl⟩, rfl⟩, ⟨⟨dL_law_2286, rfl⟩, rfl⟩, ⟨⟨dL_law_2287, rfl⟩, rfl⟩, ⟨⟨dL_law_2288, rfl⟩, rfl⟩, ⟨⟨dL_law_2290, rfl⟩, rfl⟩, ⟨⟨dL_law_2291, rfl⟩, trivial⟩, ⟨⟨dL_law_2292, rfl⟩, trivial⟩, ⟨⟨dL_law_2293, rfl⟩, rfl⟩, ⟨⟨dL_law_2294, rfl⟩, rfl⟩, ⟨⟨dL_law_2296, rfl⟩, rfl⟩, ⟨⟨dL_law_2297, rfl⟩, trivial⟩, ⟨⟨dL_law_2298, rfl⟩, trivial⟩, ⟨⟨dL_law_2299, rfl⟩, Or.inr ⟨by decide, ⟨_, my_331, sL_240⟩, fun q => absurd q (by decide)⟩⟩, ⟨⟨dL_law_2302, rfl⟩, rfl⟩, ⟨⟨dL_law_2304, rfl⟩, rfl⟩, ⟨⟨dL_law_2305, rfl⟩, Or.inr ⟨by decide, ⟨_, my_33, sL_142⟩, fun q => absurd q (by decide)⟩⟩, ⟨⟨dL_law_2308, rfl⟩, rfl⟩, ⟨⟨dL_law_2310, rfl⟩, rfl⟩, ⟨⟨dL_law_2313, rfl⟩, rfl⟩, ⟨⟨dL_law_2314, rfl⟩, Or.inr (Or.inl ⟨rfl, rfl⟩)⟩, ⟨⟨dL_law_2315, rfl⟩, rfl⟩, trivial⟩,
  ⟨⟨⟨dL_law_2317, rfl⟩, rfl⟩, ⟨⟨dL_law_2320, rfl⟩, rfl⟩, ⟨⟨dL_law_2321, rfl⟩, rfl⟩, ⟨⟨dL_law_2322, rfl⟩, trivial⟩, ⟨⟨dL_law_2323, rfl⟩, rfl⟩, ⟨⟨dL_law_2325, rfl⟩, trivial⟩, ⟨⟨dL_law_2326, rfl⟩, trivial⟩, ⟨⟨dL_law_2327, rfl⟩, rfl⟩, ⟨⟨dL_law_2330, rfl⟩, rfl⟩, ⟨⟨dL_law_2331, rfl⟩, Or.inr (Or.inl ⟨rfl, rfl⟩)⟩, ⟨⟨dL_law_2332, rfl⟩, rfl⟩, ⟨⟨dL_law_2335, rfl⟩, rfl⟩, ⟨⟨dL_law_2336, rfl⟩, rfl⟩, ⟨⟨dL_law_2337, rfl⟩, rfl⟩, ⟨⟨dL_law_2339, rfl⟩, rfl⟩, ⟨⟨dL_law_2340, rfl⟩, trivial⟩, ⟨⟨dL_law_2341, rfl⟩, trivial⟩, ⟨⟨dL_law_2342, rfl⟩, rfl⟩, ⟨⟨dL_law_2343, rfl⟩, rfl⟩, ⟨⟨dL_law_2345, rfl⟩, rfl⟩, ⟨⟨dL_law_2346, rfl⟩, trivial⟩, ⟨⟨dL_law_2347, rfl⟩, trivial⟩, ⟨⟨dL_law_2348, rfl⟩, rfl⟩, ⟨⟨dL_law_2349, rfl⟩, rfl⟩, trivial⟩,
  ⟨⟨⟨dL_law_2351, rfl⟩, rfl⟩, ⟨⟨dL_law_2352, rfl⟩, trivial⟩, ⟨⟨dL_law_2353, rfl⟩, trivial⟩, ⟨⟨dL_law_2354, rfl⟩, rfl⟩, ⟨⟨dL_law_2355, rfl⟩, Or.inr (Or.inr (Or.inr (Or.inl ⟨rfl, rfl, rfl, _, my_336, sL_241⟩)))⟩, ⟨⟨dL_law_2358, rfl⟩, rfl⟩, ⟨⟨dL_law_2360, rfl⟩, rfl⟩, ⟨⟨dL_law_2361, rfl⟩, rfl⟩, ⟨⟨dL_law_2362, rfl⟩, rfl⟩, ⟨⟨dL_law_2364, rfl⟩, rfl⟩, ⟨⟨dL_law_2365, rfl⟩, trivial⟩, ⟨⟨dL_law_2366, rfl⟩, trivial⟩, ⟨⟨dL_law_2367, rfl⟩, rfl⟩, ⟨⟨dL_law_2368, rfl⟩, rfl⟩, ⟨⟨dL_law_2370, rfl⟩, rfl⟩, ⟨⟨dL_law_2371, rfl⟩, trivial⟩, ⟨⟨dL_law_2372, rfl⟩, trivial⟩, ⟨⟨dL_law_2373, rfl⟩, rfl⟩, ⟨⟨dL_law_2374, rfl⟩, rfl⟩, ⟨⟨dL_law_2376, rfl⟩, rfl⟩, ⟨⟨dL_law_2377, rfl⟩, trivial⟩, ⟨⟨dL_law_2378, rfl⟩, trivial⟩, ⟨⟨dL_law_2379, rfl⟩, Or.inr ⟨by decide, ⟨_, my_340, sL_243⟩, fun q => absurd q (by decide)⟩⟩, ⟨⟨dL_law_2382, rfl⟩, rfl⟩, trivial⟩,
  ⟨⟨⟨dL_law_2384, rfl⟩, rfl⟩, ⟨⟨dL_law_2385, rfl⟩, Or.inr ⟨by decide, ⟨_, my_33, sL_142⟩, fun q => absurd q (by decide)⟩⟩, ⟨⟨dL_law_2388, rfl⟩, rfl⟩, ⟨⟨dL_law_2390, rfl⟩, rfl⟩, ⟨⟨dL_law_2393, rfl⟩, rfl⟩, ⟨⟨dL_law_2394, rfl⟩, Or.inr (Or.inl ⟨rfl, rfl⟩)⟩, ⟨⟨dL_law_2395, rfl⟩, rfl⟩, ⟨⟨dL_law_2397, rfl⟩, rfl⟩, ⟨⟨dL_law_2400, rfl⟩, rfl⟩, ⟨⟨dL_law_2401, rfl⟩, rfl⟩, ⟨⟨dL_law_2402, rfl⟩, trivial⟩, ⟨⟨dL_law_2403, rfl⟩, rfl⟩, ⟨⟨dL_law_2405, rfl⟩, trivial⟩, ⟨⟨dL_law_2406, rfl⟩, trivial⟩, ⟨⟨dL_law_2407, rfl⟩, rfl⟩, ⟨⟨dL_law_2410, rfl⟩, rfl⟩, ⟨⟨dL_law_2411, rfl⟩, Or.inr (Or.inl ⟨rfl, rfl⟩)⟩, ⟨⟨dL_law_2412, rfl⟩, rfl⟩, ⟨⟨dL_law_2415, rfl⟩, rfl⟩, ⟨⟨dL_law_2416, rfl⟩, rfl⟩, ⟨⟨dL_law_2417, rfl⟩, rfl⟩, ⟨⟨dL_law_2419, rfl⟩, rfl⟩, ⟨⟨dL_law_2420, rfl⟩, trivial⟩, ⟨⟨dL_law_2421, rfl⟩, trivial⟩, trivial⟩,
  ⟨⟨⟨dL_law_2422, rfl⟩, rfl⟩, ⟨⟨dL_law_2423, rfl⟩, rfl⟩, ⟨⟨dL_law_2425, rfl⟩, rfl⟩, ⟨⟨dL_law_2426, rfl⟩, trivial⟩, ⟨⟨dL_law_2427, rfl⟩, trivial⟩, ⟨⟨dL_law_2428, rfl⟩, rfl⟩, ⟨⟨dL_law_2429, rfl⟩, Or.inr (Or.inr (Or.inr (Or.inl ⟨rfl, rfl, rfl, _, my_344, sL_244⟩)))⟩, ⟨⟨dL_law_2432, rfl⟩, rfl⟩, ⟨⟨dL_law_2434, rfl⟩, rfl⟩, ⟨⟨dL_law_2435, rfl⟩, rfl⟩, ⟨⟨dL_law_2436, rfl⟩, rfl⟩, ⟨⟨dL_law_2438, rfl⟩, rfl⟩, ⟨⟨dL_law_2439, rfl⟩, trivial⟩, ⟨⟨dL_law_2440, rfl⟩, trivial⟩, ⟨⟨dL_law_2441, rfl⟩, rfl⟩, ⟨⟨dL_law_2442, rfl⟩, rfl⟩, ⟨⟨dL_law_2444, rfl⟩, rfl⟩, ⟨⟨dL_law_2445, rfl⟩, trivial⟩, ⟨⟨dL_law_2446, rfl⟩, trivial⟩, ⟨⟨dL_law_2447, rfl⟩, Or.inr ⟨by decide, ⟨_, my_345, sL_246⟩, fun q => absurd q (by decide)⟩⟩, ⟨⟨dL_law_2450, rfl⟩, rfl⟩, ⟨⟨dL_law_2452, rfl⟩, rfl⟩, ⟨⟨dL_law_2453, rfl⟩, Or.inr ⟨by decide, ⟨_, my_33, sL_142⟩, fun q => absurd q (by decide)⟩⟩, ⟨⟨dL_law_2456, rfl⟩, rfl⟩, trivial⟩,
  ⟨⟨⟨dL_law_2458, rfl⟩, rfl⟩, ⟨⟨dL_law_2461, rfl⟩, rfl⟩, ⟨⟨dL_law_2462, rfl⟩, Or.inr (Or.inl ⟨rfl, rfl⟩)⟩, ⟨⟨dL_law_2463, rfl⟩, rfl⟩, ⟨⟨dL_law_2465, rfl⟩, rfl⟩, ⟨⟨dL_law_2468, rfl⟩, rfl⟩, ⟨⟨dL_law_2469, rfl⟩, rfl⟩, ⟨⟨dL_law_2470, rfl⟩, trivial⟩, ⟨⟨dL_law_2471, rfl⟩, rfl⟩, ⟨⟨dL_law_2473, rfl⟩, trivial⟩, ⟨⟨dL_law_2474, rfl⟩, trivial⟩, ⟨⟨dL_law_2475, rfl⟩, rfl⟩, ⟨⟨dL_law_2478, rfl⟩, rfl⟩, ⟨⟨dL_law_2479, rfl⟩, Or.inr (Or.inl ⟨rfl, rfl⟩)⟩, ⟨⟨dL_law_2480, rfl⟩, rfl⟩, ⟨⟨dL_law_2483, rfl⟩, rfl⟩, ⟨⟨dL_law_2484, rfl⟩, rfl⟩, ⟨⟨dL_law_2485, rfl⟩, rfl⟩, ⟨⟨dL_law_2487, rfl⟩, rfl⟩, ⟨⟨dL_law_2488, rfl⟩, trivial⟩, ⟨⟨dL_law_2489, rfl⟩, trivial⟩, ⟨⟨dL_law_2490, rfl⟩, rfl⟩, ⟨⟨dL_law_2491, rfl⟩, rfl⟩, ⟨⟨dL_law_2493, rfl⟩, rfl⟩, trivial⟩,
  ⟨⟨⟨dL_law_2494, rfl⟩, trivial⟩, ⟨⟨dL_law_2495, rfl⟩, trivial⟩, ⟨⟨dL_law_2496, rfl⟩, rfl⟩, ⟨⟨dL_law_2497, rfl⟩, rfl⟩, ⟨⟨dL_law_2499, rfl⟩, rfl⟩, ⟨⟨dL_law_2500, rfl⟩, trivial⟩, ⟨⟨dL_law_2501, rfl⟩, trivial⟩, ⟨⟨dL_law_2502, rfl⟩, rfl⟩, ⟨⟨dL_law_2503, rfl⟩, Or.inr (Or.inr (Or.inr (Or.inl ⟨rfl, rfl, rfl, _, my_351, sL_247⟩)))⟩, ⟨⟨dL_law_2506, rfl⟩, rfl⟩, ⟨⟨dL_law_2508, rfl⟩, rfl⟩, ⟨⟨dL_law_2509, rfl⟩, rfl⟩, ⟨⟨dL_law_2510, rfl⟩, rfl⟩, ⟨⟨dL_law_2512, rfl⟩, rfl⟩, ⟨⟨dL_law_2513, rfl⟩, trivial⟩, ⟨⟨dL_law_2514, rfl⟩, trivial⟩, ⟨⟨dL_law_2515, rfl⟩, rfl⟩, ⟨⟨dL_law_2516, rfl⟩, rfl⟩, ⟨⟨dL_law_2518, rfl⟩, rfl⟩, ⟨⟨dL_law_2519, rfl⟩, trivial⟩, ⟨⟨dL_law_2520, rfl⟩, trivial⟩, ⟨⟨dL_law_2521, rfl⟩, rfl⟩, ⟨⟨dL_law_2522, rfl⟩, rfl⟩, ⟨⟨dL_law_2524, rfl⟩, rfl⟩, trivial⟩,
  ⟨⟨⟨dL_law_2525, rfl⟩, trivial⟩, ⟨⟨dL_law_2526, rfl⟩, trivial⟩, ⟨⟨dL_law_2527, rfl⟩, Or.inr ⟨by decide, ⟨_, my_354, sL_249⟩, fun q => absurd q (by decide)⟩⟩, ⟨⟨dL_law_2530, rfl⟩, rfl⟩, ⟨⟨dL_law_2532, rfl⟩, rfl⟩, ⟨⟨dL_law_2533, rfl⟩, Or.inr ⟨by decide, ⟨_, my_33, sL_142⟩, fun q => absurd q (by decide)⟩⟩, ⟨⟨dL_law_2536, rfl⟩, rfl⟩, ⟨⟨dL_law_2538, rfl⟩, rfl⟩, ⟨⟨dL_law_2541, rfl⟩, rfl⟩, ⟨⟨dL_law_2542, rfl⟩, Or.inr (Or.inl ⟨rfl, rfl⟩)⟩, ⟨⟨dL_law_2543, rfl⟩, rfl⟩, ⟨⟨dL_law_2545, rfl⟩, rfl⟩, ⟨⟨dL_law_2548, rfl⟩, rfl⟩, ⟨⟨dL_law_2549, rfl⟩, rfl⟩, ⟨⟨dL_law_2550, rfl⟩, trivial⟩, ⟨⟨dL_law_2551, rfl⟩, rfl⟩, ⟨⟨dL_law_2553, rfl⟩, trivial⟩, ⟨⟨dL_law_2554, rfl⟩, trivial⟩, ⟨⟨dL_law_2555, rfl⟩, rfl⟩, ⟨⟨dL_law_2558, rfl⟩, rfl⟩, ⟨⟨dL_law_2559, rfl⟩, Or.inr (Or.inl ⟨rfl, rfl⟩)⟩, ⟨⟨dL_law_2560, rfl⟩, rfl⟩, ⟨⟨dL_law_2563, rfl⟩, rfl⟩, ⟨⟨dL_law_2564, rfl⟩, rfl⟩, trivial⟩,
  ⟨⟨⟨dL_law_2565, rfl⟩, rfl⟩, ⟨⟨dL_law_2567, rfl⟩, rfl⟩, ⟨⟨dL_law_2568, rfl⟩, trivial⟩, ⟨⟨dL_law_2569, rfl⟩, trivial⟩, ⟨⟨dL_law_2570, rfl⟩, rfl⟩, ⟨⟨dL_law_2571, rfl⟩, rfl⟩, ⟨⟨dL_law_2573, rfl⟩, rfl⟩, ⟨⟨dL_law_2574, rfl⟩, trivial⟩, ⟨⟨dL_law_2575, rfl⟩, trivial⟩, ⟨⟨dL_law_2576, rfl⟩, rfl⟩, ⟨⟨dL_law_2577, rfl⟩, Or.inr (Or.inr (Or.inr (Or.inl ⟨rfl, rfl, rfl, _, my_356, sL_250⟩)))⟩, ⟨⟨dL_law_2580, rfl⟩, rfl⟩, ⟨⟨dL_law_2582, rfl⟩, rfl⟩, ⟨⟨dL_law_2583, rfl⟩, rfl⟩, ⟨⟨dL_law_2584, rfl⟩, rfl⟩, ⟨⟨dL_law_2586, rfl⟩, rfl⟩, ⟨⟨dL_law_2587, rfl⟩, trivial⟩, ⟨⟨dL_law_2588, rfl⟩, trivial⟩, ⟨⟨dL_law_2589, rfl⟩, rfl⟩, ⟨⟨dL_law_2590, rfl⟩, rfl⟩, ⟨⟨dL_law_2592, rfl⟩, rfl⟩, ⟨⟨dL_law_2593, rfl⟩, trivial⟩, ⟨⟨dL_law_2594, rfl⟩, trivial⟩, ⟨⟨dL_law_2595, rfl⟩, Or.inr ⟨by decide, ⟨_, my_358, sL_252⟩, fun q => absurd q (by decide)⟩⟩, trivial⟩,
  ⟨⟨⟨dL_law_2598, rfl⟩, rfl⟩, ⟨⟨dL_law_2600, rfl⟩, rfl⟩, ⟨⟨dL_law_2601, rfl⟩, Or.inr ⟨by decide, ⟨_, my_33, sL_142⟩, fun q => absurd q (by decide)⟩⟩, ⟨⟨dL_law_2604, rfl⟩, rfl⟩, ⟨⟨dL_law_2606, rfl⟩, rfl⟩, ⟨⟨dL_law_2609, rfl⟩, rfl⟩, ⟨⟨dL_law_2610, rfl⟩, Or.inr (Or.inl ⟨rfl, rfl⟩)⟩, ⟨⟨dL_law_2611, rfl⟩, rfl⟩, ⟨⟨dL_law_2613, rfl⟩, rfl⟩, ⟨⟨dL_law_2616, rfl⟩, rfl⟩, ⟨⟨dL_law_2617, rfl⟩, rfl⟩, ⟨⟨dL_law_2618, rfl⟩, trivial⟩, ⟨⟨dL_law_2619, rfl⟩, rfl⟩, ⟨⟨dL_law_2621, rfl⟩, trivial⟩, ⟨⟨dL_law_2622, rfl⟩, trivial⟩, ⟨⟨dL_law_2623, rfl⟩, rfl⟩, ⟨⟨dL_law_2626, rfl⟩, rfl⟩, ⟨⟨dL_law_2627, rfl⟩, Or.inr (Or.inl ⟨rfl, rfl⟩)⟩, ⟨⟨dL_law_2628, rfl⟩, rfl⟩, ⟨⟨dL_law_2631, rfl⟩, rfl⟩, ⟨⟨dL_law_2632, rfl⟩, rfl⟩, ⟨⟨dL_law_2633, rfl⟩, rfl⟩, ⟨⟨dL_law_2635, rfl⟩, rfl⟩, ⟨⟨dL_law_2636, rfl⟩, trivial⟩, trivial⟩,
  ⟨⟨⟨dL_law_2637, rfl⟩, trivial⟩, ⟨⟨dL_law_2638, rfl⟩, rfl⟩, ⟨⟨dL_law_2639, rfl⟩, rfl⟩, ⟨⟨dL_law_2641, rfl⟩, rfl⟩, ⟨⟨dL_law_2642, rfl⟩, trivial⟩, ⟨⟨dL_law_2643, rfl⟩, trivial⟩, ⟨⟨dL_law_2644, rfl⟩, rfl⟩, ⟨⟨dL_law_2645, rfl⟩, rfl⟩, ⟨⟨dL_law_2647, rfl⟩, rfl⟩, ⟨⟨dL_law_2648, rfl⟩, trivial⟩, ⟨⟨dL_law_2649, rfl⟩, trivial⟩, ⟨⟨dL_law_2650, rfl⟩, rfl⟩, ⟨⟨dL_law_2651, rfl⟩, Or.inr (Or.inr (Or.inr (Or.inl ⟨rfl, rfl, rfl, _, my_360, sL_253⟩)))⟩, ⟨⟨dL_law_2654, rfl⟩, rfl⟩, ⟨⟨dL_law_2656, rfl⟩, rfl⟩, ⟨⟨dL_law_2657, rfl⟩, rfl⟩, ⟨⟨dL_law_2658, rfl⟩, rfl⟩, ⟨⟨dL_law_2660, rfl⟩, rfl⟩, ⟨⟨dL_law_2661, rfl⟩, trivial⟩, ⟨⟨dL_law_2662, rfl⟩, trivial⟩, ⟨⟨dL_law_2663, rfl⟩, rfl⟩, ⟨⟨dL_law_2664, rfl⟩, rfl⟩, ⟨⟨dL_law_2666, rfl⟩, rfl⟩, ⟨⟨dL_law_2667, rfl⟩, trivial⟩, trivial⟩,
  ⟨⟨⟨dL_law_2668, rfl⟩, trivial⟩, ⟨⟨dL_law_2669, rfl⟩, rfl⟩, ⟨⟨dL_law_2670, rfl⟩, rfl⟩, ⟨⟨dL_law_2672, rfl⟩, rfl⟩, ⟨⟨dL_law_2673, rfl⟩, trivial⟩, ⟨⟨dL_law_2674, rfl⟩, trivial⟩, ⟨⟨dL_law_2675, rfl⟩, Or.inr ⟨by decide, ⟨_, my_361, sL_255⟩, fun q => absurd q (by decide)⟩⟩, ⟨⟨dL_law_2678, rfl⟩, rfl⟩, ⟨⟨dL_law_2680, rfl⟩, rfl⟩, ⟨⟨dL_law_2681, rfl⟩, Or.inr ⟨by decide, ⟨_, my_33, sL_142⟩, fun q => absurd q (by decide)⟩⟩, ⟨⟨dL_law_2684, rfl⟩, rfl⟩, ⟨⟨dL_law_2686, rfl⟩, rfl⟩, ⟨⟨dL_law_2689, rfl⟩, rfl⟩, ⟨⟨dL_law_2690, rfl⟩, Or.inr (Or.inl ⟨rfl, rfl⟩)⟩, ⟨⟨dL_law_2691, rfl⟩, rfl⟩, ⟨⟨dL_law_2693, rfl⟩, rfl⟩, ⟨⟨dL_law_2696, rfl⟩, rfl⟩, ⟨⟨dL_law_2697, rfl⟩, rfl⟩, ⟨⟨dL_law_2698, rfl⟩, trivial⟩, ⟨⟨dL_law_2699, rfl⟩, rfl⟩, ⟨⟨dL_law_2701, rfl⟩, trivial⟩, ⟨⟨dL_law_2702, rfl⟩, trivial⟩, ⟨⟨dL_law_2703, rfl⟩, rfl⟩, ⟨⟨dL_law_2706, rfl⟩, rfl⟩, trivial⟩,
  ⟨⟨⟨dL_law_2707, rfl⟩, Or.inr (Or.inl ⟨rfl, rfl⟩)⟩, ⟨⟨dL_law_2708, rfl⟩, rfl⟩, ⟨⟨dL_law_2711, rfl⟩, rfl⟩, ⟨⟨dL_law_2712, rfl⟩, Or.inr ⟨by decide, ⟨_, my_363, sL_256⟩, fun q => absurd q (by decide)⟩⟩, ⟨⟨dL_law_2715, rfl⟩, rfl⟩, ⟨⟨dL_law_2716, rfl⟩, Or.inr ⟨by decide, ⟨_, my_364, sL_259⟩, fun q => absurd q (by decide)⟩⟩, ⟨⟨dL_law_2719, rfl⟩, rfl⟩, ⟨⟨dL_law_2722, rfl⟩, rfl⟩, ⟨⟨dL_law_2723, rfl⟩, Or.inr (Or.inl ⟨rfl, rfl⟩)⟩, ⟨⟨dL_law_2724, rfl⟩, rfl⟩, ⟨⟨dL_law_2725, rfl⟩, Or.inr ⟨by decide, ⟨_, my_373, sL_260⟩, fun q => absurd q (by decide)⟩⟩, ⟨⟨dL_law_2728, rfl⟩, rfl⟩, ⟨⟨dL_law_2729, rfl⟩, Or.inr ⟨by decide, ⟨_, my_374, sL_263⟩, fun q => absurd q (by decide)⟩⟩, ⟨⟨dL_law_2732, rfl⟩, rfl⟩, ⟨⟨dL_law_2735, rfl⟩, rfl⟩, ⟨⟨dL_law_2736, rfl⟩, Or.inr ⟨by decide, ⟨_, my_375, sL_264⟩, fun q => absurd q (by decide)⟩⟩, ⟨⟨dL_law_2739, rfl⟩, rfl⟩, ⟨⟨dL_law_2740, rfl⟩, Or.inr ⟨by decide, ⟨_, my_376, sL_268⟩, fun q => absurd q (by decide)⟩⟩, ⟨⟨dL_law_2743, rfl⟩, rfl⟩, ⟨⟨dL_law_2746, rfl⟩, rfl⟩, ⟨⟨dL_law_2747, rfl⟩, Or.inr (Or.inl ⟨rfl, rfl⟩)⟩, ⟨⟨dL_law_2748, rfl⟩, rfl⟩, ⟨⟨dL_law_2749, rfl⟩, rfl⟩, ⟨⟨dL_law_2750, rfl⟩, rfl⟩, trivial⟩,
  ⟨⟨⟨dL_law_2752, rfl⟩, rfl⟩, ⟨⟨dL_law_2753, rfl⟩, trivial⟩, ⟨⟨dL_law_2754, rfl⟩, trivial⟩, ⟨⟨dL_law_2755, rfl⟩, Or.inr ⟨by decide, ⟨_, my_383, sL_269⟩, fun q => absurd q (by decide)⟩⟩, ⟨⟨dL_law_2758, rfl⟩, rfl⟩, ⟨⟨dL_law_2759, rfl⟩, rfl⟩, ⟨⟨dL_law_2760, rfl⟩, rfl⟩, ⟨⟨dL_law_2762, rfl⟩, rfl⟩, ⟨⟨dL_law_2763, rfl⟩, trivial⟩, ⟨⟨dL_law_2764, rfl⟩, trivial⟩, ⟨⟨dL_law_2765, rfl⟩, Or.inr ⟨by decide, ⟨_, my_386, sL_272⟩, fun q => absurd q (by decide)⟩⟩, ⟨⟨dL_law_2768, rfl⟩, rfl⟩, ⟨⟨dL_law_2771, rfl⟩, rfl⟩, ⟨⟨dL_law_2772, rfl⟩, Or.inr (Or.inl ⟨rfl, rfl⟩)⟩, ⟨⟨dL_law_2773, rfl⟩, ⟨rfl, rfl⟩⟩, ⟨⟨dL_law_2776, rfl⟩, rfl⟩, ⟨⟨dL_law_2779, rfl⟩, rfl⟩, ⟨⟨dL_law_2780, rfl⟩, Or.inr (Or.inl ⟨rfl, rfl⟩)⟩, trivial⟩, trivial⟩, by decide, Or.inr (Or.inr rfl)⟩
set_option maxRecDepth 100000 in
theorem g_L_law_0 (S : sT) (call : cT) (n : Nat) (v0 : Value) (h : pH) : bd S call dflT E_L_law (n + 1) 0 [some (v0), none, none, none, none, none, none] [] h = (cUx tN (call 11 [.ref (List.length h)] (h ++ [.inr (14, dflT 14)])) (fun h1 => nl v0 (cUx tN (call 13 [.ref (List.length h1)] (h1 ++ [.inr (15, dflT 15)])) (fun h2 => mkJ h2 1 (fun h3 => bd S call dflT E_L_law n 23 [some (v0), some (.ref (List.length h)), some (.ref (List.length h1)), some (.ref (List.length h2)), some (.int 0), none, none] [] h3))))) := rfl
set_option maxRecDepth 100000 in
theorem g_L_law_23 (S : sT) (call : cT) (n : Nat) (v0 : Value) (v1 : Value) (v2 : Value) (v3 : Value) (x4 : Int32) (o5 : Option Value) (o6 : Option Value) (h : pH) : bd S call dflT E_L_law (n + 1) 23 [some (v0), some (v1), some (v2), some (v3), some (.int x4), o5, o6] [] h = (iA v0 (xN S v0 (fun y1 => (if (y1 - 7) < x4 then zR 1 (some (.inl (some (.int 1)), h)) else iA v0 (xL S v0 x4 (fun y2 => (if (y2 &&& 63) = 0 then bd S call dflT E_L_law n 216 [some (v0), some (v1), some (v2), some (v3), some (.int x4), o5, o6] [] h else (if (y2 &&& 63) = 1 then bd S call dflT E_L_law n 289 [some (v0), some (v1), some (v2), some (v3), some (.int x4), o5, o6] [] h else (if (y2 &&& 63) = 2 then bd S call dflT E_L_law n 314 [some (v0), some (v1), some (v2), some (v3), some (.int x4), o5, o6] [] h else (if (y2 &&& 63) = 3 then bd S call dflT E_L_law n 439 [some (v0), some (v1), some (v2), some (v3), some (.int x4), o5, o6] [] h else (if (y2 &&& 63) = 4 then bd S call dflT E_L_law n 515 [some (v0), some (v1), some (v2), some (v3), some (.int x4), o5, o6] [] h else (if (y2 &&& 63) = 5 then bd S call dflT E_L_law n 571 [some (v0), some (v1), some (v2), some (v3), some (.int x4), o5, o6] [] h else (if (y2 &&& 63) = 6 then bd S call dflT E_L_law n 651 [some (v0), some (v1), some (v2), some (v3), some (.int x4), o5, o6] [] h else (if (y2 &&& 63) = 7 then bd S call dflT E_L_law n 731 [some (v0), some (v1), some (v2), some (v3), some (.int x4), o5, o6] [] h else (if (y2 &&& 63) = 8 then bd S call dflT E_L_law n 851 [some (v0), some (v1), some (v2), some (v3), some (.int x4), o5, o6] [] h else (if (y2 &&& 63) = 9 then bd S call dflT E_L_law n 955 [some (v0), some (v1), some (v2), some (v3), some (.int x4), o5, o6] [] h else (if (y2 &&& 63) = 10 then bd S call dflT E_L_law n 1030 [some (v0), some (v1), some (v2), some (v3), some (.int x4), o5, o6] [] h else (if (y2 &&& 63) = 11 then bd S call dflT E_L_law n 1093 [some (v0), some (v1), some (v2), some (v3), some (.int x4), o5, o6] [] h else (if (y2 &&& 63) = 12 then bd S call dflT E_L_law n 1149 [some (v0), some (v1), some (v2), some (v3), some (.int x4), o5, o6] [] h else (if (y2 &&& 63) = 13 then bd S call dflT E_L_law n 1205 [some (v0), some (v1), some (v2), some (v3), some (.int x4), o5, o6] [] h else (if (y2 &&& 63) = 14 then bd S call dflT E_L_law n 1273 [some (v0), some (v1), some (v2), some (v3), some (.int x4), o5, o6] [] h else (if (y2 &&& 63) = 15 then bd S call dflT E_L_law n 1341 [some (v0), some (v1), some (v2), some (v3), some (.int x4), o5, o6] [] h else (if (y2 &&& 63) = 16 then bd S call dflT E_L_law n 1397 [some (v0), some (v1), some (v2), some (v3), some (.int x4), o5, o6] [] h else (if (y2 &&& 63) = 17 then bd S call dflT E_L_law n 1453 [some (v0), some (v1), some (v2), some (v3), some (.int x4), o5, o6] [] h else (if (y2 &&& 63) = 18 then bd S call dflT E_L_law n 1478 [some (v0), some (v1), some (v2), some (v3), some (.int x4), o5, o6] [] h else (if (y2 &&& 63) = 19 then bd S call dflT E_L_law n 1534 [some (v0), some (v1), some (v2), some (v3), some (.int x4), o5, o6] [] h else (if (y2 &&& 63) = 20 then bd S call dflT E_L_law n 1547 [some (v0), some (v1), some (v2), some (v3), some (.int x4), o5, o6] [] h else (if (y2 &&& 63) = 21 then bd S call dflT E_L_law n 1615 [some (v0), some (v1), some (v2), some (v3), some (.int x4), o5, o6] [] h else (if (y2 &&& 63) = 22 then bd S call dflT E_L_law n 1683 [some (v0), some (v1), some (v2), some (v3), some (.int x4), o5, o6] [] h else (if (y2 &&& 63) = 23 then bd S call dflT E_L_law n 1767 [some (v0), some (v1), some (v2), some (v3), some (.int x4), o5, o6] [] h else (if (y2 &&& 63) = 24 then bd S call dflT E_L_law n 1875 [some (v0), some (v1), some (v2), some (v3), some (.int x4), o5, o6] [] h else (if (y2 &&& 63) = 25 then bd S call dflT E_L_law n 1931 [some (v0), some (v1), some (v2), some (v3), some (.int x4), o5, o6] [] h else (if (y2 &&& 63) = 26 then bd S call dflT E_L_law n 2022 [some (v0), some (v1), some (v2), some (v3), some (.int x4), o5, o6] [] h else (if (y2 &&& 63) = 27 then bd S call dflT E_L_law n 2106 [some (v0), some (v1), some (v2), some (v3), some (.int x4), o5, o6] [] h else (if (y2 &&& 63) = 28 then bd S call dflT E_L_law n 2119 [some (v0), some (v1), some (v2), some (v3), some (.int x4), o5, o6] [] h else (if (y2 &&& 63) = 29 then bd S call dflT E_L_law n 2187 [some (v0), some (v1), some (v2), some (v3), some (.int x4), o5, o6] [] h else (if (y2 &&& 63) = 30 then bd S call dflT E_L_law n 2267 [some (v0), some (v1), some (v2), some (v3), some (.int x4), o5, o6] [] h else (if (y2 &&& 63) = 31 then bd S call dflT E_L_law n 2335 [some (v0), some (v1), some (v2), some (v3), some (.int x4), o5, o6] [] h else (if (y2 &&& 63) = 32 then bd S call dflT E_L_law n 2415 [some (v0), some (v1), some (v2), some (v3), some (.int x4), o5, o6] [] h else (if (y2 &&& 63) = 33 then bd S call dflT E_L_law n 2483 [some (v0), some (v1), some (v2), some (v3), some (.int x4), o5, o6] [] h else (if (y2 &&& 63) = 34 then bd S call dflT E_L_law n 2563 [some (v0), some (v1), some (v2), some (v3), some (.int x4), o5, o6] [] h else (if (y2 &&& 63) = 35 then bd S call dflT E_L_law n 2631 [some (v0), some (v1), some (v2), some (v3), some (.int x4), o5, o6] [] h else (if (y2 &&& 63) = 36 then bd S call dflT E_L_law n 2711 [some (v0), some (v1), some (v2), some (v3), some (.int x4), o5, o6] [] h else (if (y2 &&& 63) = 37 then bd S call dflT E_L_law n 2724 [some (v0), some (v1), some (v2), some (v3), some (.int x4), o5, o6] [] h else (if (y2 &&& 63) = 38 then bd S call dflT E_L_law n 2735 [some (v0), some (v1), some (v2), some (v3), some (.int x4), o5, o6] [] h else (if (y2 &&& 63) = 39 then bd S call dflT E_L_law n 2748 [some (v0), some (v1), some (v2), some (v3), some (.int x4), o5, o6] [] h else bd S call dflT E_L_law n 2773 [some (v0), some (v1), some (v2), some (v3), some (.int x4), o5, o6] [] h)))))))))))))))))))))))))))))))))))))))))))))) := rfl
set_option maxRecDepth 100000 in
theorem g_L_law_216 (S : sT) (call : cT) (n : Nat) (v0 : Value) (v1 : Value) (v2 : Value) (v3 : Value) (x4 : Int32) (o5 : Option Value) (o6 : Option Value) (h : pH) : bd S call dflT E_L_law (n + 1) 216 [some (v0), some (v1), some (v2), some (v3), some (.int x4), o5, o6] [] h = (iA v1 (iA v0 (xL S v0 (x4 + 1) (fun y1 => iA v0 (xL S v0 (x4 + 2) (fun y2 => iA v0 (xL S v0 (x4 + 3) (fun y3 => iA v0 (xL S v0 (x4 + 4) (fun y4 => iA v0 (xL S v0 (x4 + 5) (fun y5 => rC h v1 14 (cIx (thrH 2 7 [] [some (v0), some (v1), some (v2), some (v3), some (.int x4), o5, o6] (bd S call dflT E_L_law n)) (call 15 [v1, .int y1, .int y2, .int y3, .int y4, .int y5] h) (fun y7 h6 => bd S call dflT E_L_law n 250 [some (v0), some (v1), some (v2), some (v3), some (.int x4), o5, o6] [.int y7] h6)))))))))))))) := rfl
set_option maxRecDepth 100000 in
theorem g_L_law_250 (S : sT) (call : cT) (n : Nat) (v0 : Value) (v1 : Value) (v2 : Value) (v3 : Value) (x4 : Int32) (o5 : Option Value) (o6 : Option Value) (y0 : Int32) (h : pH) : bd S call dflT E_L_law (n + 1) 250 [some (v0), some (v1), some (v2), some (v3), some (.int x4), o5, o6] [.int y0] h = (iA v2 (iA v0 (xL S v0 (x4 + 1) (fun y1 => iA v0 (xL S v0 (x4 + 2) (fun y2 => iA v0 (xL S v0 (x4 + 3) (fun y3 => iA v0 (xL S v0 (x4 + 4) (fun y4 => iA v0 (xL S v0 (x4 + 5) (fun y5 => rC h v2 15 (cIx (thrH 2 7 [] [some (v0), some (v1), some (v2), some (v3), some (.int x4), o5, o6] (bd S call dflT E_L_law n)) (call 16 [v2, .int y1, .int y2, .int y3, .int y4, .int y5] h) (fun y7 h6 => (if y0 = y7 then bd S call dflT E_L_law n 2773 [some (v0), some (v1), some (v2), some (v3), some (.int x4), o5, o6] [] h6 else zR 0 (some (.inl (some (.int 0)), h6))))))))))))))))) := rfl
set_option maxRecDepth 100000 in
theorem g_L_law_289 (S : sT) (call : cT) (n : Nat) (v0 : Value) (v1 : Value) (v2 : Value) (v3 : Value) (x4 : Int32) (o5 : Option Value) (o6 : Option Value) (h : pH) : bd S call dflT E_L_law (n + 1) 289 [some (v0), some (v1), some (v2), some (v3), some (.int x4), o5, o6] [] h = (iA v1 (iA v0 (xL S v0 (x4 + 1) (fun y1 => rC h v1 14 (cIx (thrH 2 7 [] [some (v0), some (v1), some (v2), some (v3), some (.int x4), o5, o6] (bd S call dflT E_L_law n)) (call 17 [v1, .int y1] h) (fun y3 h2 => iA v2 (iA v0 (xL S v0 (x4 + 1) (fun y4 => rC h2 v2 15 (cIx (thrH 2 7 [] [some (v0), some (v1), some (v2), some (v3), some (.int x4), o5, o6] (bd S call dflT E_L_law n)) (call 18 [v2, .int y4] h2) (fun y6 h5 => (if y3 = y6 then bd S call dflT E_L_law n 2773 [some (v0), some (v1), some (v2), some (v3), some (.int x4), o5, o6] [] h5 else zR 0 (some (.inl (some (.int 0)), h5)))))))))))))) := rfl
set_option maxRecDepth 100000 in
theorem g_L_law_314 (S : sT) (call : cT) (n : Nat) (v0 : Value) (v1 : Value) (v2 : Value) (v3 : Value) (x4 : Int32) (o5 : Option Value) (o6 : Option Value) (h : pH) : bd S call dflT E_L_law (n + 1) 314 [some (v0), some (v1), some (v2), some (v3), some (.int x4), o5, o6] [] h = (iA v1 (iA v0 (xL S v0 (x4 + 1) (fun y1 => iA v0 (xL S v0 (x4 + 2) (fun y2 => iA v0 (xL S v0 (x4 + 3) (fun y3 => iA v0 (xL S v0 (x4 + 4) (fun y4 => iA v0 (xL S v0 (x4 + 5) (fun y5 => iA v0 (xL S v0 (x4 + 6) (fun y6 => iA v3 (cIx tN (call 27 [v1, .int y1, .int y2, .int y3, .int y4, .int y5, .int y6, v3] h) (fun y8 h7 => bd S call dflT E_L_law n 356 [some (v0), some (v1), some (v2), some (v3), some (.int x4), o5, o6] [.int y8] h7)))))))))))))))) := rfl
set_option maxRecDepth 100000 in
theorem g_L_law_356 (S : sT) (call : cT) (n : Nat) (v0 : Value) (v1 : Value) (v2 : Value) (v3 : Value) (x4 : Int32) (o5 : Option Value) (o6 : Option Value) (y0 : Int32) (h : pH) : bd S call dflT E_L_law (n + 1) 356 [some (v0), some (v1), some (v2), some (v3), some (.int x4), o5, o6] [.int y0] h = (iA v2 (iA v0 (xL S v0 (x4 + 1) (fun y1 => iA v0 (xL S v0 (x4 + 2) (fun y2 => iA v0 (xL S v0 (x4 + 3) (fun y3 => iA v0 (xL S v0 (x4 + 4) (fun y4 => iA v0 (xL S v0 (x4 + 5) (fun y5 => iA v0 (xL S v0 (x4 + 6) (fun y6 => rC h v2 15 (cIx (thrH 2 7 [] [some (v0), some (v1), some (v2), some (v3), some (.int x4), some (.int y0), o6] (bd S call dflT E_L_law n)) (call 32 [v2, .int y1, .int y2, .int y3, .int y4, .int y5, .int y6] h) (fun y8 h7 => bd S call dflT E_L_law n 401 [some (v0), some (v1), some (v2), some (v3), some (.int x4), some (.int y0), some (.int y8)] [] h7)))))))))))))))) := rfl
set_option maxRecDepth 100000 in
theorem g_L_law_401 (S : sT) (call : cT) (n : Nat) (v0 : Value) (v1 : Value) (v2 : Value) (v3 : Value) (x4 : Int32) (x5 : Int32) (x6 : Int32) (h : pH) : bd S call dflT E_L_law (n + 1) 401 [some (v0), some (v1), some (v2), some (v3), some (.int x4), some (.int x5), some (.int x6)] [] h = (iA v2 (rC h v2 15 (cIx (thrH 2 7 [] [some (v0), some (v1), some (v2), some (v3), some (.int x4), some (.int x5), some (.int x6)] (bd S call dflT E_L_law n)) (call 33 [v2] h) (fun y2 h1 => (if y2 = x5 then (if x5 = 0 then iA v3 (aJ h1 v3 0 (fun y3 => (if x6 = 0 then (if (lg_cmp y3 0) = 0 then bd S call dflT E_L_law n 2773 [some (v0), some (v1), some (v2), some (v3), some (.int x4), some (.int x5), some (.int x6)] [] h1 else zR 0 (some (.inl (some (.int 0)), h1))) else (if (lg_cmp y3 1) = 0 then bd S call dflT E_L_law n 2773 [some (v0), some (v1), some (v2), some (v3), some (.int x4), some (.int x5), some (.int x6)] [] h1 else zR 0 (some (.inl (some (.int 0)), h1)))))) else bd S call dflT E_L_law n 2773 [some (v0), some (v1), some (v2), some (v3), some (.int x4), some (.int x5), some (.int x6)] [] h1) else zR 0 (some (.inl (some (.int 0)), h1))))))) := rfl
set_option maxRecDepth 100000 in
theorem g_L_law_439 (S : sT) (call : cT) (n : Nat) (v0 : Value) (v1 : Value) (v2 : Value) (v3 : Value) (x4 : Int32) (o5 : Option Value) (o6 : Option Value) (h : pH) : bd S call dflT E_L_law (n + 1) 439 [some (v0), some (v1), some (v2), some (v3), some (.int x4), o5, o6] [] h = (iA v1 (iA v0 (xL S v0 (x4 + 1) (fun y1 => iA v0 (xL S v0 (x4 + 2) (fun y2 => iA v0 (xL S v0 (x4 + 3) (fun y3 => (if y3 = 0 then cIx tN (call 36 [v1, .int y1, .int y2, .int 0] h) (fun y5 h4 => bd S call dflT E_L_law n 469 [some (v0), some (v1), some (v2), some (v3), some (.int x4), o5, o6] [.int y5] h4) else cIx tN (call 36 [v1, .int y1, .int y2, .int 1] h) (fun y7 h6 => bd S call dflT E_L_law n 469 [some (v0), some (v1), some (v2), some (v3), some (.int x4), o5, o6] [.int y7] h6)))))))))) := rfl
set_option maxRecDepth 100000 in
theorem g_L_law_469 (S : sT) (call : cT) (n : Nat) (v0 : Value) (v1 : Value) (v2 : Value) (v3 : Value) (x4 : Int32) (o5 : Option Value) (o6 : Option Value) (y0 : Int32) (h : pH) : bd S call dflT E_L_law (n + 1) 469 [some (v0), some (v1), some (v2), some (v3), some (.int x4), o5, o6] [.int y0] h = (iA v2 (iA v0 (xL S v0 (x4 + 1) (fun y1 => iA v0 (xL S v0 (x4 + 2) (fun y2 => iA v0 (xL S v0 (x4 + 3) (fun y3 => (if y3 = 0 then rC h v2 15 (cUx (thrH 2 7 [] [some (v0), some (v1), some (v2), some (v3), some (.int x4), some (.int y0), o6] (bd S call dflT E_L_law n)) (call 37 [v2, .int y1, .int y2, .int 0] h) (fun h4 => iA v2 (rC h4 v2 15 (cIx (thrH 2 7 [] [some (v0), some (v1), some (v2), some (v3), some (.int x4), some (.int y0), o6] (bd S call dflT E_L_law n)) (call 33 [v2] h4) (fun y6 h5 => (if y6 = y0 then bd S call dflT E_L_law n 2773 [some (v0), some (v1), some (v2), some (v3), some (.int x4), some (.int y0), o6] [] h5 else zR 0 (some (.inl (some (.int 0)), h5)))))))) else rC h v2 15 (cUx (thrH 2 7 [] [some (v0), some (v1), some (v2), some (v3), some (.int x4), some (.int y0), o6] (bd S call dflT E_L_law n)) (call 37 [v2, .int y1, .int y2, .int 1] h) (fun h7 => iA v2 (rC h7 v2 15 (cIx (thrH 2 7 [] [some (v0), some (v1), some (v2), some (v3), some (.int x4), some (.int y0), o6] (bd S call dflT E_L_law n)) (call 33 [v2] h7) (fun y9 h8 => (if y9 = y0 then bd S call dflT E_L_law n 2773 [some (v0), some (v1), some (v2), some (v3), some (.int x4), some (.int y0), o6] [] h8 else zR 0 (some (.inl (some (.int 0)), h8))))))))))))))))) := rfl
set_option maxRecDepth 100000 in
theorem g_L_law_515 (S : sT) (call : cT) (n : Nat) (v0 : Value) (v1 : Value) (v2 : Value) (v3 : Value) (x4 : Int32) (o5 : Option Value) (o6 : Option Value) (h : pH) : bd S call dflT E_L_law (n + 1) 515 [some (v0), some (v1), some (v2), some (v3), some (.int x4), o5, o6] [] h = (iA v1 (iA v0 (xL S v0 (x4 + 1) (fun y1 => iA v3 (cIx tN (call 41 [v1, .int y1, v3] h) (fun y3 h2 => bd S call dflT E_L_law n 526 [some (v0), some (v1), some (v2), some (v3), some (.int x4), o5, o6] [.int y3] h2)))))) := rfl
set_option maxRecDepth 100000 in
theorem g_L_law_526 (S : sT) (call : cT) (n : Nat) (v0 : Value) (v1 : Value) (v2 : Value) (v3 : Value) (x4 : Int32) (o5 : Option Value) (o6 : Option Value) (y0 : Int32) (h : pH) : bd S call dflT E_L_law (n + 1) 526 [some (v0), some (v1), some (v2), some (v3), some (.int x4), o5, o6] [.int y0] h = (iA v2 (iA v0 (xL S v0 (x4 + 1) (fun y1 => rC h v2 15 (cIx (thrH 2 7 [] [some (v0), some (v1), some (v2), some (v3), some (.int x4), some (.int y0), o6] (bd S call dflT E_L_law n)) (call 44 [v2, .int y1] h) (fun y3 h2 => iA v2 (rC h2 v2 15 (cIx (thrH 2 7 [] [some (v0), some (v1), some (v2), some (v3), some (.int x4), some (.int y0), some (.int y3)] (bd S call dflT E_L_law n)) (call 33 [v2] h2) (fun y5 h4 => (if y5 = y0 then (if y0 = 0 then iA v3 (aJ h4 v3 0 (fun y6 => (if (lg_cmp y6 y3.toInt64) = 0 then bd S call dflT E_L_law n 2773 [some (v0), some (v1), some (v2), some (v3), some (.int x4), some (.int y0), some (.int y3)] [] h4 else zR 0 (some (.inl (some (.int 0)), h4))))) else bd S call dflT E_L_law n 2773 [some (v0), some (v1), some (v2), some (v3), some (.int x4), some (.int y0), some (.int y3)] [] h4) else zR 0 (some (.inl (some (.int 0)), h4)))))))))))) := rfl
set_option maxRecDepth 100000 in
theorem g_L_law_571 (S : sT) (call : cT) (n : Nat) (v0 : Value) (v1 : Value) (v2 : Value) (v3 : Value) (x4 : Int32) (o5 : Option Value) (o6 : Option Value) (h : pH) : bd S call dflT E_L_law (n + 1) 571 [some (v0), some (v1), some (v2), some (v3), some (.int x4), o5, o6] [] h = (iA v1 (iA v0 (xL S v0 (x4 + 1) (fun y1 => iA v0 (xL S v0 (x4 + 2) (fun y2 => iA v0 (xL S v0 (x4 + 3) (fun y3 => iA v3 (cIx tN (call 47 [v1, .int y1, .int y2, .int y3, v3] h) (fun y5 h4 => bd S call dflT E_L_law n 594 [some (v0), some (v1), some (v2), some (v3), some (.int x4), o5, o6] [.int y5] h4)))))))))) := rfl
set_option maxRecDepth 100000 in
theorem g_L_law_594 (S : sT) (call : cT) (n : Nat) (v0 : Value) (v1 : Value) (v2 : Value) (v3 : Value) (x4 : Int32) (o5 : Option Value) (o6 : Option Value) (y0 : Int32) (h : pH) : bd S call dflT E_L_law (n + 1) 594 [some (v0), some (v1), some (v2), some (v3), some (.int x4), o5, o6] [.int y0] h = (iA v2 (iA v0 (xL S v0 (x4 + 1) (fun y1 => iA v0 (xL S v0 (x4 + 2) (fun y2 => iA v0 (xL S v0 (x4 + 3) (fun y3 => rC h v2 15 (cIx (thrH 2 7 [] [some (v0), some (v1), some (v2), some (v3), some (.int x4), some (.int y0), o6] (bd S call dflT E_L_law n)) (call 49 [v2, .int y1, .int y2, .int y3] h) (fun y5 h4 => iA v2 (rC h4 v2 15 (cIx (thrH 2 7 [] [some (v0), some (v1), some (v2), some (v3), some (.int x4), some (.int y0), some (.int y5)] (bd S call dflT E_L_law n)) (call 33 [v2] h4) (fun y7 h6 => (if y7 = y0 then (if y0 = 0 then iA v3 (aJ h6 v3 0 (fun y8 => (if (lg_cmp y8 y5.toInt64) = 0 then bd S call dflT E_L_law n 2773 [some (v0), some (v1), some (v2), some (v3), some (.int x4), some (.int y0), some (.int y5)] [] h6 else zR 0 (some (.inl (some (.int 0)), h6))))) else bd S call dflT E_L_law n 2773 [some (v0), some (v1), some (v2), some (v3), some (.int x4), some (.int y0), some (.int y5)] [] h6) else zR 0 (some (.inl (some (.int 0)), h6)))))))))))))))) := rfl
set_option maxRecDepth 100000 in
theorem g_L_law_651 (S : sT) (call : cT) (n : Nat) (v0 : Value) (v1 : Value) (v2 : Value) (v3 : Value) (x4 : Int32) (o5 : Option Value) (o6 : Option Value) (h : pH) : bd S call dflT E_L_law (n + 1) 651 [some (v0), some (v1), some (v2), some (v3), some (.int x4), o5, o6] [] h = (iA v1 (iA v0 (xL S v0 (x4 + 1) (fun y1 => iA v0 (xL S v0 (x4 + 2) (fun y2 => iA v0 (xL S v0 (x4 + 3) (fun y3 => iA v3 (cIx tN (call 52 [v1, .int y1, .int y2, .int y3, v3] h) (fun y5 h4 => bd S call dflT E_L_law n 674 [some (v0), some (v1), some (v2), some (v3), some (.int x4), o5, o6] [.int y5] h4)))))))))) := rfl
set_option maxRecDepth 100000 in
theorem g_L_law_674 (S : sT) (call : cT) (n : Nat) (v0 : Value) (v1 : Value) (v2 : Value) (v3 : Value) (x4 : Int32) (o5 : Option Value) (o6 : Option Value) (y0 : Int32) (h : pH) : bd S call dflT E_L_law (n + 1) 674 [some (v0), some (v1), some (v2), some (v3), some (.int x4), o5, o6] [.int y0] h = (iA v2 (iA v0 (xL S v0 (x4 + 1) (fun y1 => iA v0 (xL S v0 (x4 + 2) (fun y2 => iA v0 (xL S v0 (x4 + 3) (fun y3 => rC h v2 15 (cIx (thrH 2 7 [] [some (v0), some (v1), some (v2), some (v3), some (.int x4), some (.int y0), o6] (bd S call dflT E_L_law n)) (call 54 [v2, .int y1, .int y2, .int y3] h) (fun y5 h4 => iA v2 (rC h4 v2 15 (cIx (thrH 2 7 [] [some (v0), some (v1), some (v2), some (v3), some (.int x4), some (.int y0), some (.int y5)] (bd S call dflT E_L_law n)) (call 33 [v2] h4) (fun y7 h6 => (if y7 = y0 then (if y0 = 0 then iA v3 (aJ h6 v3 0 (fun y8 => (if (lg_cmp y8 y5.toInt64) = 0 then bd S call dflT E_L_law n 2773 [some (v0), some (v1), some (v2), some (v3), some (.int x4), some (.int y0), some (.int y5)] [] h6 else zR 0 (some (.inl (some (.int 0)), h6))))) else bd S call dflT E_L_law n 2773 [some (v0), some (v1), some (v2), some (v3), some (.int x4), some (.int y0), some (.int y5)] [] h6) else zR 0 (some (.inl (some (.int 0)), h6)))))))))))))))) := rfl
set_option maxRecDepth 100000 in
theorem g_L_law_731 (S : sT) (call : cT) (n : Nat) (v0 : Value) (v1 : Value) (v2 : Value) (v3 : Value) (x4 : Int32) (o5 : Option Value) (o6 : Option Value) (h : pH) : bd S call dflT E_L_law (n + 1) 731 [some (v0), some (v1), some (v2), some (v3), some (.int x4), o5, o6] [] h = (iA v1 (iA v0 (xL S v0 (x4 + 1) (fun y1 => iA v0 (xL S v0 (x4 + 2) (fun y2 => iA v0 (xL S v0 (x4 + 3) (fun y3 => iA v0 (xL S v0 (x4 + 4) (fun y4 => iA v0 (xL S v0 (x4 + 5) (fun y5 => (if y5 = 0 then iA v3 (cIx tN (call 111 [v1, .int y1, .int y2, .int y3, .int y4, .int 0, v3] h) (fun y7 h6 => bd S call dflT E_L_law n 774 [some (v0), some (v1), some (v2), some (v3), some (.int x4), o5, o6] [.int y7] h6)) else iA v3 (cIx tN (call 111 [v1, .int y1, .int y2, .int y3, .int y4, .int 1, v3] h) (fun y9 h8 => bd S call dflT E_L_law n 774 [some (v0), some (v1), some (v2), some (v3), some (.int x4), o5, o6] [.int y9] h8))))))))))))))) := rfl
set_option maxRecDepth 100000 in
theorem g_L_law_774 (S : sT) (call : cT) (n : Nat) (v0 : Value) (v1 : Value) (v2 : Value) (v3 : Value) (x4 : Int32) (o5 : Option Value) (o6 : Option Value) (y0 : Int32) (h : pH) : bd S call dflT E_L_law (n + 1) 774 [some (v0), some (v1), some (v2), some (v3), some (.int x4), o5, o6] [.int y0] h = (iA v2 (iA v0 (xL S v0 (x4 + 1) (fun y1 => iA v0 (xL S v0 (x4 + 2) (fun y2 => iA v0 (xL S v0 (x4 + 3) (fun y3 => iA v0 (xL S v0 (x4 + 4) (fun y4 => iA v0 (xL S v0 (x4 + 5) (fun y5 => (if y5 = 0 then bd S call dflT E_L_law n 815 [some (v0), some (v1), some (v2), some (v3), some (.int x4), some (.int y0), o6] [.int 0, .int y4, .int y3, .int y2, .int y1, v2] h else bd S call dflT E_L_law n 815 [some (v0), some (v1), some (v2), some (v3), some (.int x4), some (.int y0), o6] [.int 1, .int y4, .int y3, .int y2, .int y1, v2] h))))))))))))) := rfl
set_option maxRecDepth 100000 in
theorem g_L_law_815 (S : sT) (call : cT) (n : Nat) (v0 : Value) (v1 : Value) (v2 : Value) (v3 : Value) (x4 : Int32) (x5 : Int32) (o6 : Option Value) (u0 : Value) (y1 : Int32) (y2 : Int32) (y3 : Int32) (y4 : Int32) (y5 : Int32) (h : pH) : bd S call dflT E_L_law (n + 1) 815 [some (v0), some (v1), some (v2), some (v3), some (.int x4), some (.int x5), o6] [.int y5, .int y4, .int y3, .int y2, .int y1, u0] h = (rC h u0 15 (cIx (thrH 2 7 [] [some (v0), some (v1), some (v2), some (v3), some (.int x4), some (.int x5), o6] (bd S call dflT E_L_law n)) (call 155 [u0, .int y1, .int y2, .int y3, .int y4, .int y5] h) (fun y2 h1 => iA v2 (rC h1 v2 15 (cIx (thrH 2 7 [] [some (v0), some (v1), some (v2), some (v3), some (.int x4), some (.int x5), some (.int y2)] (bd S call dflT E_L_law n)) (call 33 [v2] h1) (fun y4 h3 => (if y4 = x5 then (if x5 = 0 then iA v3 (aJ h3 v3 0 (fun y5 => (if (lg_cmp y5 y2.toInt64) = 0 then bd S call dflT E_L_law n 2773 [some (v0), some (v1), some (v2), some (v3), some (.int x4), some (.int x5), some (.int y2)] [] h3 else zR 0 (some (.inl (some (.int 0)), h3))))) else bd S call dflT E_L_law n 2773 [some (v0), some (v1), some (v2), some (v3), some (.int x4), some (.int x5), some (.int y2)] [] h3) else zR 0 (some (.inl (some (.int 0)), h3))))))))) := rfl
set_option maxRecDepth 100000 in
theorem g_L_law_851 (S : sT) (call : cT) (n : Nat) (v0 : Value) (v1 : Value) (v2 : Value) (v3 : Value) (x4 : Int32) (o5 : Option Value) (o6 : Option Value) (h : pH) : bd S call dflT E_L_law (n + 1) 851 [some (v0), some (v1), some (v2), some (v3), some (.int x4), o5, o6] [] h = (iA v1 (iA v0 (xL S v0 (x4 + 1) (fun y1 => iA v0 (xL S v0 (x4 + 2) (fun y2 => iA v0 (xL S v0 (x4 + 3) (fun y3 => iA v0 (xL S v0 (x4 + 4) (fun y4 => iA v0 (xL S v0 (x4 + 5) (fun y5 => iA v3 (cIx tN (call 158 [v1, .int y1, .int y2, .int y3, .int y4, .int y5, v3] h) (fun y7 h6 => bd S call dflT E_L_law n 886 [some (v0), some (v1), some (v2), some (v3), some (.int x4), o5, o6] [.int y7] h6)))))))))))))) := rfl
set_option maxRecDepth 100000 in
theorem g_L_law_886 (S : sT) (call : cT) (n : Nat) (v0 : Value) (v1 : Value) (v2 : Value) (v3 : Value) (x4 : Int32) (o5 : Option Value) (o6 : Option Value) (y0 : Int32) (h : pH) : bd S call dflT E_L_law (n + 1) 886 [some (v0), some (v1), some (v2), some (v3), some (.int x4), o5, o6] [.int y0] h = (iA v2 (iA v0 (xL S v0 (x4 + 1) (fun y1 => iA v0 (xL S v0 (x4 + 2) (fun y2 => iA v0 (xL S v0 (x4 + 3) (fun y3 => iA v0 (xL S v0 (x4 + 4) (fun y4 => iA v0 (xL S v0 (x4 + 5) (fun y5 => rC h v2 15 (cIx (thrH 2 7 [] [some (v0), some (v1), some (v2), some (v3), some (.int x4), some (.int y0), o6] (bd S call dflT E_L_law n)) (call 159 [v2, .int y1, .int y2, .int y3, .int y4, .int y5] h) (fun y7 h6 => bd S call dflT E_L_law n 924 [some (v0), some (v1), some (v2), some (v3), some (.int x4), some (.int y0), some (.int y7)] [] h6)))))))))))))) := rfl
set_option maxRecDepth 100000 in
theorem g_L_law_924 (S : sT) (call : cT) (n : Nat) (v0 : Value) (v1 : Value) (v2 : Value) (v3 : Value) (x4 : Int32) (x5 : Int32) (x6 : Int32) (h : pH) : bd S call dflT E_L_law (n + 1) 924 [some (v0), some (v1), some (v2), some (v3), some (.int x4), some (.int x5), some (.int x6)] [] h = (iA v2 (rC h v2 15 (cIx (thrH 2 7 [] [some (v0), some (v1), some (v2), some (v3), some (.int x4), some (.int x5), some (.int x6)] (bd S call dflT E_L_law n)) (call 33 [v2] h) (fun y2 h1 => (if y2 = x5 then (if x5 = 0 then iA v3 (aJ h1 v3 0 (fun y3 => (if (lg_cmp y3 x6.toInt64) = 0 then bd S call dflT E_L_law n 2773 [some (v0), some (v1), some (v2), some (v3), some (.int x4), some (.int x5), some (.int x6)] [] h1 else zR 0 (some (.inl (some (.int 0)), h1))))) else bd S call dflT E_L_law n 2773 [some (v0), some (v1), some (v2), some (v3), some (.int x4), some (.int x5), some (.int x6)] [] h1) else zR 0 (some (.inl (some (.int 0)), h1))))))) := rfl
set_option maxRecDepth 100000 in
theorem g_L_law_955 (S : sT) (call : cT) (n : Nat) (v0 : Value) (v1 : Value) (v2 : Value) (v3 : Value) (x4 : Int32) (o5 : Option Value) (o6 : Option Value) (h : pH) : bd S call dflT E_L_law (n + 1) 955 [some (v0), some (v1), some (v2), some (v3), some (.int x4), o5, o6] [] h = (iA v1 (iA v0 (xL S v0 (x4 + 1) (fun y1 => iA v0 (xL S v0 (x4 + 2) (fun y2 => iA v3 (cIx tN (call 164 [v1, .int y1, .int y2, v3] h) (fun y4 h3 => bd S call dflT E_L_law n 972 [some (v0), some (v1), some (v2), some (v3), some (.int x4), o5, o6] [.int y4] h3)))))))) := rfl
set_option maxRecDepth 100000 in
theorem g_L_law_972 (S : sT) (call : cT) (n : Nat) (v0 : Value) (v1 : Value) (v2 : Value) (v3 : Value) (x4 : Int32) (o5 : Option Value) (o6 : Option Value) (y0 : Int32) (h : pH) : bd S call dflT E_L_law (n + 1) 972 [some (v0), some (v1), some (v2), some (v3), some (.int x4), o5, o6] [.int y0] h = (iA v2 (iA v0 (xL S v0 (x4 + 1) (fun y1 => iA v0 (xL S v0 (x4 + 2) (fun y2 => rC h v2 15 (cIx (thrH 2 7 [] [some (v0), some (v1), some (v2), some (v3), some (.int x4), some (.int y0), o6] (bd S call dflT E_L_law n)) (call 167 [v2, .int y1, .int y2] h) (fun y4 h3 => iA v2 (rC h3 v2 15 (cIx (thrH 2 7 [] [some (v0), some (v1), some (v2), some (v3), some (.int x4), some (.int y0), some (.int y4)] (bd S call dflT E_L_law n)) (call 33 [v2] h3) (fun y6 h5 => (if y6 = y0 then (if y0 = 0 then iA v3 (aJ h5 v3 0 (fun y7 => (if y4 = 0 then (if (lg_cmp y7 0) = 0 then bd S call dflT E_L_law n 2773 [some (v0), some (v1), some (v2), some (v3), some (.int x4), some (.int y0), some (.int y4)] [] h5 else zR 0 (some (.inl (some (.int 0)), h5))) else (if (lg_cmp y7 1) = 0 then bd S call dflT E_L_law n 2773 [some (v0), some (v1), some (v2), some (v3), some (.int x4), some (.int y0), some (.int y4)] [] h5 else zR 0 (some (.inl (some (.int 0)), h5)))))) else bd S call dflT E_L_law n 2773 [some (v0), some (v1), some (v2), some (v3), some (.int x4), some (.int y0), some (.int y4)] [] h5) else zR 0 (some (.inl (some (.int 0)), h5)))))))))))))) := rfl
set_option maxRecDepth 100000 in
theorem g_L_law_1030 (S : sT) (call : cT) (n : Nat) (v0 : Value) (v1 : Value) (v2 : Value) (v3 : Value) (x4 : Int32) (o5 : Option Value) (o6 : Option Value) (h : pH) : bd S call dflT E_L_law (n + 1) 1030 [some (v0), some (v1), some (v2), some (v3), some (.int x4), o5, o6] [] h = (iA v1 (iA v0 (xL S v0 (x4 + 1) (fun y1 => iA v3 (cIx tN (call 170 [v1, .int y1, v3] h) (fun y3 h2 => bd S call dflT E_L_law n 1041 [some (v0), some (v1), some (v2), some (v3), some (.int x4), o5, o6] [.int y3] h2)))))) := rfl
set_option maxRecDepth 100000 in
theorem g_L_law_1041 (S : sT) (call : cT) (n : Nat) (v0 : Value) (v1 : Value) (v2 : Value) (v3 : Value) (x4 : Int32) (o5 : Option Value) (o6 : Option Value) (y0 : Int32) (h : pH) : bd S call dflT E_L_law (n + 1) 1041 [some (v0), some (v1), some (v2), some (v3), some (.int x4), o5, o6] [.int y0] h = (iA v2 (iA v0 (xL S v0 (x4 + 1) (fun y1 => rC h v2 15 (cIx (thrH 2 7 [] [some (v0), some (v1), some (v2), some (v3), some (.int x4), some (.int y0), o6] (bd S call dflT E_L_law n)) (call 173 [v2, .int y1] h) (fun y3 h2 => iA v2 (rC h2 v2 15 (cIx (thrH 2 7 [] [some (v0), some (v1), some (v2), some (v3), some (.int x4), some (.int y0), some (.int y3)] (bd S call dflT E_L_law n)) (call 33 [v2] h2) (fun y5 h4 => (if y5 = y0 then (if y0 = 0 then iA v3 (aJ h4 v3 0 (fun y6 => (if y3 = 0 then (if (lg_cmp y6 0) = 0 then bd S call dflT E_L_law n 2773 [some (v0), some (v1), some (v2), some (v3), some (.int x4), some (.int y0), some (.int y3)] [] h4 else zR 0 (some (.inl (some (.int 0)), h4))) else (if (lg_cmp y6 1) = 0 then bd S call dflT E_L_law n 2773 [some (v0), some (v1), some (v2), some (v3), some (.int x4), some (.int y0), some (.int y3)] [] h4 else zR 0 (some (.inl (some (.int 0)), h4)))))) else bd S call dflT E_L_law n 2773 [some (v0), some (v1), some (v2), some (v3), some (.int x4), some (.int y0), some (.int y3)] [] h4) else zR 0 (some (.inl (some (.int 0)), h4)))))))))))) := rfl
set_option maxRecDepth 100000 in
theorem g_L_law_1093 (S : sT) (call : cT) (n : Nat) (v0 : Value) (v1 : Value) (v2 : Value) (v3 : Value) (x4 : Int32) (o5 : Option Value) (o6 : Option Value) (h : pH) : bd S call dflT E_L_law (n + 1) 1093 [some (v0), some (v1), some (v2), some (v3), some (.int x4), o5, o6] [] h = (iA v1 (iA v0 (xL S v0 (x4 + 1) (fun y1 => iA v3 (cIx tN (call 177 [v1, .int y1, v3] h) (fun y3 h2 => bd S call dflT E_L_law n 1104 [some (v0), some (v1), some (v2), some (v3), some (.int x4), o5, o6] [.int y3] h2)))))) := rfl
set_option maxRecDepth 100000 in
theorem g_L_law_1104 (S : sT) (call : cT) (n : Nat) (v0 : Value) (v1 : Value) (v2 : Value) (v3 : Value) (x4 : Int32) (o5 : Option Value) (o6 : Option Value) (y0 : Int32) (h : pH) : bd S call dflT E_L_law (n + 1) 1104 [some (v0), some (v1), some (v2), some (v3), some (.int x4), o5, o6] [.int y0] h = (iA v2 (iA v0 (xL S v0 (x4 + 1) (fun y1 => rC h v2 15 (cIx (thrH 2 7 [] [some (v0), some (v1), some (v2), some (v3), some (.int x4), some (.int y0), o6] (bd S call dflT E_L_law n)) (call 180 [v2, .int y1] h) (fun y3 h2 => iA v2 (rC h2 v2 15 (cIx (thrH 2 7 [] [some (v0), some (v1), some (v2), some (v3), some (.int x4), some (.int y0), some (.int y3)] (bd S call dflT E_L_law n)) (call 33 [v2] h2) (fun y5 h4 => (if y5 = y0 then (if y0 = 0 then iA v3 (aJ h4 v3 0 (fun y6 => (if (lg_cmp y6 y3.toInt64) = 0 then bd S call dflT E_L_law n 2773 [some (v0), some (v1), some (v2), some (v3), some (.int x4), some (.int y0), some (.int y3)] [] h4 else zR 0 (some (.inl (some (.int 0)), h4))))) else bd S call dflT E_L_law n 2773 [some (v0), some (v1), some (v2), some (v3), some (.int x4), some (.int y0), some (.int y3)] [] h4) else zR 0 (some (.inl (some (.int 0)), h4)))))))))))) := rfl
set_option maxRecDepth 100000 in
theorem g_L_law_1149 (S : sT) (call : cT) (n : Nat) (v0 : Value) (v1 : Value) (v2 : Value) (v3 : Value) (x4 : Int32) (o5 : Option Value) (o6 : Option Value) (h : pH) : bd S call dflT E_L_law (n + 1) 1149 [some (v0), some (v1), some (v2), some (v3), some (.int x4), o5, o6] [] h = (iA v1 (iA v0 (xL S v0 (x4 + 1) (fun y1 => iA v3 (cIx tN (call 230 [v1, .int y1, v3] h) (fun y3 h2 => bd S call dflT E_L_law n 1160 [some (v0), some (v1), some (v2), some (v3), some (.int x4), o5, o6] [.int y3] h2)))))) := rfl
set_option maxRecDepth 100000 in
theorem g_L_law_1160 (S : sT) (call : cT) (n : Nat) (v0 : Value) (v1 : Value) (v2 : Value) (v3 : Value) (x4 : Int32) (o5 : Option Value) (o6 : Option Value) (y0 : Int32) (h : pH) : bd S call dflT E_L_law (n + 1) 1160 [some (v0), some (v1), some (v2), some (v3), some (.int x4), o5, o6] [.int y0] h = (iA v2 (iA v0 (xL S v0 (x4 + 1) (fun y1 => rC h v2 15 (cIx (thrH 2 7 [] [some (v0), some (v1), some (v2), some (v3), some (.int x4), some (.int y0), o6] (bd S call dflT E_L_law n)) (call 256 [v2, .int y1] h) (fun y3 h2 => iA v2 (rC h2 v2 15 (cIx (thrH 2 7 [] [some (v0), some (v1), some (v2), some (v3), some (.int x4), some (.int y0), some (.int y3)] (bd S call dflT E_L_law n)) (call 33 [v2] h2) (fun y5 h4 => (if y5 = y0 then (if y0 = 0 then iA v3 (aJ h4 v3 0 (fun y6 => (if (lg_cmp y6 y3.toInt64) = 0 then bd S call dflT E_L_law n 2773 [some (v0), some (v1), some (v2), some (v3), some (.int x4), some (.int y0), some (.int y3)] [] h4 else zR 0 (some (.inl (some (.int 0)), h4))))) else bd S call dflT E_L_law n 2773 [some (v0), some (v1), some (v2), some (v3), some (.int x4), some (.int y0), some (.int y3)] [] h4) else zR 0 (some (.inl (some (.int 0)), h4)))))))))))) := rfl
set_option maxRecDepth 100000 in
theorem g_L_law_1205 (S : sT) (call : cT) (n : Nat) (v0 : Value) (v1 : Value) (v2 : Value) (v3 : Value) (x4 : Int32) (o5 : Option Value) (o6 : Option Value) (h : pH) : bd S call dflT E_L_law (n + 1) 1205 [some (v0), some (v1), some (v2), some (v3), some (.int x4), o5, o6] [] h = (iA v1 (iA v0 (xL S v0 (x4 + 1) (fun y1 => iA v0 (xL S v0 (x4 + 2) (fun y2 => iA v3 (cIx tN (call 261 [v1, .int y1, .int y2, v3] h) (fun y4 h3 => bd S call dflT E_L_law n 1222 [some (v0), some (v1), some (v2), some (v3), some (.int x4), o5, o6] [.int y4] h3)))))))) := rfl
set_option maxRecDepth 100000 in
theorem g_L_law_1222 (S : sT) (call : cT) (n : Nat) (v0 : Value) (v1 : Value) (v2 : Value) (v3 : Value) (x4 : Int32) (o5 : Option Value) (o6 : Option Value) (y0 : Int32) (h : pH) : bd S call dflT E_L_law (n + 1) 1222 [some (v0), some (v1), some (v2), some (v3), some (.int x4), o5, o6] [.int y0] h = (iA v2 (iA v0 (xL S v0 (x4 + 1) (fun y1 => iA v0 (xL S v0 (x4 + 2) (fun y2 => rC h v2 15 (cIx (thrH 2 7 [] [some (v0), some (v1), some (v2), some (v3), some (.int x4), some (.int y0), o6] (bd S call dflT E_L_law n)) (call 263 [v2, .int y1, .int y2] h) (fun y4 h3 => iA v2 (rC h3 v2 15 (cIx (thrH 2 7 [] [some (v0), some (v1), some (v2), some (v3), some (.int x4), some (.int y0), some (.int y4)] (bd S call dflT E_L_law n)) (call 33 [v2] h3) (fun y6 h5 => (if y6 = y0 then (if y0 = 0 then iA v3 (aJ h5 v3 0 (fun y7 => (if (lg_cmp y7 y4.toInt64) = 0 then bd S call dflT E_L_law n 2773 [some (v0), some (v1), some (v2), some (v3), some (.int x4), some (.int y0), some (.int y4)] [] h5 else zR 0 (some (.inl (some (.int 0)), h5))))) else bd S call dflT E_L_law n 2773 [some (v0), some (v1), some (v2), some (v3), some (.int x4), some (.int y0), some (.int y4)] [] h5) else zR 0 (some (.inl (some (.int 0)), h5)))))))))))))) := rfl
set_option maxRecDepth 100000 in
theorem g_L_law_1273 (S : sT) (call : cT) (n : Nat) (v0 : Value) (v1 : Value) (v2 : Value) (v3 : Value) (x4 : Int32) (o5 : Option Value) (o6 : Option Value) (h : pH) : bd S call dflT E_L_law (n + 1) 1273 [some (v0), some (v1), some (v2), some (v3), some (.int x4), o5, o6] [] h = (iA v1 (iA v0 (xL S v0 (x4 + 1) (fun y1 => iA v0 (xL S v0 (x4 + 2) (fun y2 => iA v3 (cIx tN (call 265 [v1, .int y1, .int y2, v3] h) (fun y4 h3 => bd S call dflT E_L_law n 1290 [some (v0), some (v1), some (v2), some (v3), some (.int x4), o5, o6] [.int y4] h3)))))))) := rfl
set_option maxRecDepth 100000 in
theorem g_L_law_1290 (S : sT) (call : cT) (n : Nat) (v0 : Value) (v1 : Value) (v2 : Value) (v3 : Value) (x4 : Int32) (o5 : Option Value) (o6 : Option Value) (y0 : Int32) (h : pH) : bd S call dflT E_L_law (n + 1) 1290 [some (v0), some (v1), some (v2), some (v3), some (.int x4), o5, o6] [.int y0] h = (iA v2 (iA v0 (xL S v0 (x4 + 1) (fun y1 => iA v0 (xL S v0 (x4 + 2) (fun y2 => rC h v2 15 (cIx (thrH 2 7 [] [some (v0), some (v1), some (v2), some (v3), some (.int x4), some (.int y0), o6] (bd S call dflT E_L_law n)) (call 266 [v2, .int y1, .int y2] h) (fun y4 h3 => iA v2 (rC h3 v2 15 (cIx (thrH 2 7 [] [some (v0), some (v1), some (v2), some (v3), some (.int x4), some (.int y0), some (.int y4)] (bd S call dflT E_L_law n)) (call 33 [v2] h3) (fun y6 h5 => (if y6 = y0 then (if y0 = 0 then iA v3 (aJ h5 v3 0 (fun y7 => (if (lg_cmp y7 y4.toInt64) = 0 then bd S call dflT E_L_law n 2773 [some (v0), some (v1), some (v2), some (v3), some (.int x4), some (.int y0), some (.int y4)] [] h5 else zR 0 (some (.inl (some (.int 0)), h5))))) else bd S call dflT E_L_law n 2773 [some (v0), some (v1), some (v2), some (v3), some (.int x4), some (.int y0), some (.int y4)] [] h5) else zR 0 (some (.inl (some (.int 0)), h5)))))))))))))) := rfl
set_option maxRecDepth 100000 in
theorem g_L_law_1341 (S : sT) (call : cT) (n : Nat) (v0 : Value) (v1 : Value) (v2 : Value) (v3 : Value) (x4 : Int32) (o5 : Option Value) (o6 : Option Value) (h : pH) : bd S call dflT E_L_law (n + 1) 1341 [some (v0), some (v1), some (v2), some (v3), some (.int x4), o5, o6] [] h = (iA v1 (iA v0 (xL S v0 (x4 + 1) (fun y1 => iA v3 (cIx tN (call 268 [v1, .int y1, v3] h) (fun y3 h2 => bd S call dflT E_L_law n 1352 [some (v0), some (v1), some (v2), some (v3), some (.int x4), o5, o6] [.int y3] h2)))))) := rfl
set_option maxRecDepth 100000 in
theorem g_L_law_1352 (S : sT) (call : cT) (n : Nat) (v0 : Value) (v1 : Value) (v2 : Value) (v3 : Value) (x4 : Int32) (o5 : Option Value) (o6 : Option Value) (y0 : Int32) (h : pH) : bd S call dflT E_L_law (n + 1) 1352 [some (v0), some (v1), some (v2), some (v3), some (.int x4), o5, o6] [.int y0] h = (iA v2 (iA v0 (xL S v0 (x4 + 1) (fun y1 => rC h v2 15 (cIx (thrH 2 7 [] [some (v0), some (v1), some (v2), some (v3), some (.int x4), some (.int y0), o6] (bd S call dflT E_L_law n)) (call 269 [v2, .int y1] h) (fun y3 h2 => iA v2 (rC h2 v2 15 (cIx (thrH 2 7 [] [some (v0), some (v1), some (v2), some (v3), some (.int x4), some (.int y0), some (.int y3)] (bd S call dflT E_L_law n)) (call 33 [v2] h2) (fun y5 h4 => (if y5 = y0 then (if y0 = 0 then iA v3 (aJ h4 v3 0 (fun y6 => (if (lg_cmp y6 y3.toInt64) = 0 then bd S call dflT E_L_law n 2773 [some (v0), some (v1), some (v2), some (v3), some (.int x4), some (.int y0), some (.int y3)] [] h4 else zR 0 (some (.inl (some (.int 0)), h4))))) else bd S call dflT E_L_law n 2773 [some (v0), some (v1), some (v2), some (v3), some (.int x4), some (.int y0), some (.int y3)] [] h4) else zR 0 (some (.inl (some (.int 0)), h4)))))))))))) := rfl
set_option maxRecDepth 100000 in
theorem g_L_law_1397 (S : sT) (call : cT) (n : Nat) (v0 : Value) (v1 : Value) (v2 : Value) (v3 : Value) (x4 : Int32) (o5 : Option Value) (o6 : Option Value) (h : pH) : bd S call dflT E_L_law (n + 1) 1397 [some (v0), some (v1), some (v2), some (v3), some (.int x4), o5, o6] [] h = (iA v1 (iA v0 (xL S v0 (x4 + 1) (fun y1 => iA v3 (cIx tN (call 271 [v1, .int y1, v3] h) (fun y3 h2 => bd S call dflT E_L_law n 1408 [some (v0), some (v1), some (v2), some (v3), some (.int x4), o5, o6] [.int y3] h2)))))) := rfl
set_option maxRecDepth 100000 in
theorem g_L_law_1408 (S : sT) (call : cT) (n : Nat) (v0 : Value) (v1 : Value) (v2 : Value) (v3 : Value) (x4 : Int32) (o5 : Option Value) (o6 : Option Value) (y0 : Int32) (h : pH) : bd S call dflT E_L_law (n + 1) 1408 [some (v0), some (v1), some (v2), some (v3), some (.int x4), o5, o6] [.int y0] h = (iA v2 (iA v0 (xL S v0 (x4 + 1) (fun y1 => rC h v2 15 (cIx (thrH 2 7 [] [some (v0), some (v1), some (v2), some (v3), some (.int x4), some (.int y0), o6] (bd S call dflT E_L_law n)) (call 272 [v2, .int y1] h) (fun y3 h2 => iA v2 (rC h2 v2 15 (cIx (thrH 2 7 [] [some (v0), some (v1), some (v2), some (v3), some (.int x4), some (.int y0), some (.int y3)] (bd S call dflT E_L_law n)) (call 33 [v2] h2) (fun y5 h4 => (if y5 = y0 then (if y0 = 0 then iA v3 (aJ h4 v3 0 (fun y6 => (if (lg_cmp y6 y3.toInt64) = 0 then bd S call dflT E_L_law n 2773 [some (v0), some (v1), some (v2), some (v3), some (.int x4), some (.int y0), some (.int y3)] [] h4 else zR 0 (some (.inl (some (.int 0)), h4))))) else bd S call dflT E_L_law n 2773 [some (v0), some (v1), some (v2), some (v3), some (.int x4), some (.int y0), some (.int y3)] [] h4) else zR 0 (some (.inl (some (.int 0)), h4)))))))))))) := rfl
set_option maxRecDepth 100000 in
theorem g_L_law_1453 (S : sT) (call : cT) (n : Nat) (v0 : Value) (v1 : Value) (v2 : Value) (v3 : Value) (x4 : Int32) (o5 : Option Value) (o6 : Option Value) (h : pH) : bd S call dflT E_L_law (n + 1) 1453 [some (v0), some (v1), some (v2), some (v3), some (.int x4), o5, o6] [] h = (iA v1 (iA v0 (xL S v0 (x4 + 1) (fun y1 => rC h v1 14 (cIx (thrH 2 7 [] [some (v0), some (v1), some (v2), some (v3), some (.int x4), o5, o6] (bd S call dflT E_L_law n)) (call 275 [v1, .int y1] h) (fun y3 h2 => iA v2 (iA v0 (xL S v0 (x4 + 1) (fun y4 => rC h2 v2 15 (cIx (thrH 2 7 [] [some (v0), some (v1), some (v2), some (v3), some (.int x4), o5, o6] (bd S call dflT E_L_law n)) (call 276 [v2, .int y4] h2) (fun y6 h5 => (if y3 = y6 then bd S call dflT E_L_law n 2773 [some (v0), some (v1), some (v2), some (v3), some (.int x4), o5, o6] [] h5 else zR 0 (some (.inl (some (.int 0)), h5)))))))))))))) := rfl
set_option maxRecDepth 100000 in
theorem g_L_law_1478 (S : sT) (call : cT) (n : Nat) (v0 : Value) (v1 : Value) (v2 : Value) (v3 : Value) (x4 : Int32) (o5 : Option Value) (o6 : Option Value) (h : pH) : bd S call dflT E_L_law (n + 1) 1478 [some (v0), some (v1), some (v2), some (v3), some (.int x4), o5, o6] [] h = (iA v1 (iA v0 (xL S v0 (x4 + 1) (fun y1 => iA v3 (cIx tN (call 280 [v1, .int y1, v3] h) (fun y3 h2 => bd S call dflT E_L_law n 1489 [some (v0), some (v1), some (v2), some (v3), some (.int x4), o5, o6] [.int y3] h2)))))) := rfl
set_option maxRecDepth 100000 in
theorem g_L_law_1489 (S : sT) (call : cT) (n : Nat) (v0 : Value) (v1 : Value) (v2 : Value) (v3 : Value) (x4 : Int32) (o5 : Option Value) (o6 : Option Value) (y0 : Int32) (h : pH) : bd S call dflT E_L_law (n + 1) 1489 [some (v0), some (v1), some (v2), some (v3), some (.int x4), o5, o6] [.int y0] h = (iA v2 (iA v0 (xL S v0 (x4 + 1) (fun y1 => rC h v2 15 (cIx (thrH 2 7 [] [some (v0), some (v1), some (v2), some (v3), some (.int x4), some (.int y0), o6] (bd S call dflT E_L_law n)) (call 281 [v2, .int y1] h) (fun y3 h2 => iA v2 (rC h2 v2 15 (cIx (thrH 2 7 [] [some (v0), some (v1), some (v2), some (v3), some (.int x4), some (.int y0), some (.int y3)] (bd S call dflT E_L_law n)) (call 33 [v2] h2) (fun y5 h4 => (if y5 = y0 then (if y0 = 0 then iA v3 (aJ h4 v3 0 (fun y6 => (if (lg_cmp y6 y3.toInt64) = 0 then bd S call dflT E_L_law n 2773 [some (v0), some (v1), some (v2), some (v3), some (.int x4), some (.int y0), some (.int y3)] [] h4 else zR 0 (some (.inl (some (.int 0)), h4))))) else bd S call dflT E_L_law n 2773 [some (v0), some (v1), some (v2), some (v3), some (.int x4), some (.int y0), some (.int y3)] [] h4) else zR 0 (some (.inl (some (.int 0)), h4)))))))))))) := rfl
set_option maxRecDepth 100000 in
theorem g_L_law_1534 (S : sT) (call : cT) (n : Nat) (v0 : Value) (v1 : Value) (v2 : Value) (v3 : Value) (x4 : Int32) (o5 : Option Value) (o6 : Option Value) (h : pH) : bd S call dflT E_L_law (n + 1) 1534 [some (v0), some (v1), some (v2), some (v3), some (.int x4), o5, o6] [] h = (iA v1 (rC h v1 14 (cIx (thrH 2 7 [] [some (v0), some (v1), some (v2), some (v3), some (.int x4), o5, o6] (bd S call dflT E_L_law n)) (call 282 [v1] h) (fun y2 h1 => iA v2 (rC h1 v2 15 (cIx (thrH 2 7 [] [some (v0), some (v1), some (v2), some (v3), some (.int x4), o5, o6] (bd S call dflT E_L_law n)) (call 283 [v2] h1) (fun y4 h3 => (if y2 = y4 then bd S call dflT E_L_law n 2773 [some (v0), some (v1), some (v2), some (v3), some (.int x4), o5, o6] [] h3 else zR 0 (some (.inl (some (.int 0)), h3)))))))))) := rfl
set_option maxRecDepth 100000 in
theorem g_L_law_1547 (S : sT) (call : cT) (n : Nat) (v0 : Value) (v1 : Value) (v2 : Value) (v3 : Value) (x4 : Int32) (o5 : Option Value) (o6 : Option Value) (h : pH) : bd S call dflT E_L_law (n + 1) 1547 [some (v0), some (v1), some (v2), some (v3), some (.int x4), o5, o6] [] h = (iA v1 (iA v0 (xL S v0 (x4 + 1) (fun y1 => iA v0 (xL S v0 (x4 + 2) (fun y2 => iA v3 (cIx tN (call 290 [v1, .int y1, .int y2, v3] h) (fun y4 h3 => bd S call dflT E_L_law n 1564 [some (v0), some (v1), some (v2), some (v3), some (.int x4), o5, o6] [.int y4] h3)))))))) := rfl
set_option maxRecDepth 100000 in
theorem g_L_law_1564 (S : sT) (call : cT) (n : Nat) (v0 : Value) (v1 : Value) (v2 : Value) (v3 : Value) (x4 : Int32) (o5 : Option Value) (o6 : Option Value) (y0 : Int32) (h : pH) : bd S call dflT E_L_law (n + 1) 1564 [some (v0), some (v1), some (v2), some (v3), some (.int x4), o5, o6] [.int y0] h = (iA v2 (iA v0 (xL S v0 (x4 + 1) (fun y1 => iA v0 (xL S v0 (x4 + 2) (fun y2 => rC h v2 15 (cIx (thrH 2 7 [] [some (v0), some (v1), some (v2), some (v3), some (.int x4), some (.int y0), o6] (bd S call dflT E_L_law n)) (call 293 [v2, .int y1, .int y2] h) (fun y4 h3 => iA v2 (rC h3 v2 15 (cIx (thrH 2 7 [] [some (v0), some (v1), some (v2), some (v3), some (.int x4), some (.int y0), some (.int y4)] (bd S call dflT E_L_law n)) (call 33 [v2] h3) (fun y6 h5 => (if y6 = y0 then (if y0 = 0 then iA v3 (aJ h5 v3 0 (fun y7 => (if (lg_cmp y7 y4.toInt64) = 0 then bd S call dflT E_L_law n 2773 [some (v0), some (v1), some (v2), some (v3), some (.int x4), some (.int y0), some (.int y4)] [] h5 else zR 0 (some (.inl (some (.int 0)), h5))))) else bd S call dflT E_L_law n 2773 [some (v0), some (v1), some (v2), some (v3), some (.int x4), some (.int y0), some (.int y4)] [] h5) else zR 0 (some (.inl (some (.int 0)), h5)))))))))))))) := rfl
set_option maxRecDepth 100000 in
theorem g_L_law_1615 (S : sT) (call : cT) (n : Nat) (v0 : Value) (v1 : Value) (v2 : Value) (v3 : Value) (x4 : Int32) (o5 : Option Value) (o6 : Option Value) (h : pH) : bd S call dflT E_L_law (n + 1) 1615 [some (v0), some (v1), some (v2), some (v3), some (.int x4), o5, o6] [] h = (iA v1 (iA v0 (xL S v0 (x4 + 1) (fun y1 => iA v0 (xL S v0 (x4 + 2) (fun y2 => iA v3 (cIx tN (call 296 [v1, .int y1, .int y2, v3] h) (fun y4 h3 => bd S call dflT E_L_law n 1632 [some (v0), some (v1), some (v2), some (v3), some (.int x4), o5, o6] [.int y4] h3)))))))) := rfl
set_option maxRecDepth 100000 in
theorem g_L_law_1632 (S : sT) (call : cT) (n : Nat) (v0 : Value) (v1 : Value) (v2 : Value) (v3 : Value) (x4 : Int32) (o5 : Option Value) (o6 : Option Value) (y0 : Int32) (h : pH) : bd S call dflT E_L_law (n + 1) 1632 [some (v0), some (v1), some (v2), some (v3), some (.int x4), o5, o6] [.int y0] h = (iA v2 (iA v0 (xL S v0 (x4 + 1) (fun y1 => iA v0 (xL S v0 (x4 + 2) (fun y2 => rC h v2 15 (cIx (thrH 2 7 [] [some (v0), some (v1), some (v2), some (v3), some (.int x4), some (.int y0), o6] (bd S call dflT E_L_law n)) (call 297 [v2, .int y1, .int y2] h) (fun y4 h3 => iA v2 (rC h3 v2 15 (cIx (thrH 2 7 [] [some (v0), some (v1), some (v2), some (v3), some (.int x4), some (.int y0), some (.int y4)] (bd S call dflT E_L_law n)) (call 33 [v2] h3) (fun y6 h5 => (if y6 = y0 then (if y0 = 0 then iA v3 (aJ h5 v3 0 (fun y7 => (if (lg_cmp y7 y4.toInt64) = 0 then bd S call dflT E_L_law n 2773 [some (v0), some (v1), some (v2), some (v3), some (.int x4), some (.int y0), some (.int y4)] [] h5 else zR 0 (some (.inl (some (.int 0)), h5))))) else bd S call dflT E_L_law n 2773 [some (v0), some (v1), some (v2), some (v3), some (.int x4), some (.int y0), some (.int y4)] [] h5) else zR 0 (some (.inl (some (.int 0)), h5)))))))))))))) := rfl
set_option maxRecDepth 100000 in
theorem g_L_law_1683 (S : sT) (call : cT) (n : Nat) (v0 : Value) (v1 : Value) (v2 : Value) (v3 : Value) (x4 : Int32) (o5 : Option Value) (o6 : Option Value) (h : pH) : bd S call dflT E_L_law (n + 1) 1683 [some (v0), some (v1), some (v2), some (v3), some (.int x4), o5, o6] [] h = (iA v1 (iA v0 (xL S v0 (x4 + 1) (fun y1 => iA v0 (xL S v0 (x4 + 2) (fun y2 => (if y2 = 0 then iA v3 (cIx tN (call 299 [v1, .int y1, .int 0, v3] h) (fun y4 h3 => bd S call dflT E_L_law n 1708 [some (v0), some (v1), some (v2), some (v3), some (.int x4), o5, o6] [.int y4] h3)) else iA v3 (cIx tN (call 299 [v1, .int y1, .int 1, v3] h) (fun y6 h5 => bd S call dflT E_L_law n 1708 [some (v0), some (v1), some (v2), some (v3), some (.int x4), o5, o6] [.int y6] h5))))))))) := rfl
set_option maxRecDepth 100000 in
theorem g_L_law_1708 (S : sT) (call : cT) (n : Nat) (v0 : Value) (v1 : Value) (v2 : Value) (v3 : Value) (x4 : Int32) (o5 : Option Value) (o6 : Option Value) (y0 : Int32) (h : pH) : bd S call dflT E_L_law (n + 1) 1708 [some (v0), some (v1), some (v2), some (v3), some (.int x4), o5, o6] [.int y0] h = (iA v2 (iA v0 (xL S v0 (x4 + 1) (fun y1 => iA v0 (xL S v0 (x4 + 2) (fun y2 => (if y2 = 0 then bd S call dflT E_L_law n 1731 [some (v0), some (v1), some (v2), some (v3), some (.int x4), some (.int y0), o6] [.int 0, .int y1, v2] h else bd S call dflT E_L_law n 1731 [some (v0), some (v1), some (v2), some (v3), some (.int x4), some (.int y0), o6] [.int 1, .int y1, v2] h))))))) := rfl
set_option maxRecDepth 100000 in
theorem g_L_law_1731 (S : sT) (call : cT) (n : Nat) (v0 : Value) (v1 : Value) (v2 : Value) (v3 : Value) (x4 : Int32) (x5 : Int32) (o6 : Option Value) (u0 : Value) (y1 : Int32) (y2 : Int32) (h : pH) : bd S call dflT E_L_law (n + 1) 1731 [some (v0), some (v1), some (v2), some (v3), some (.int x4), some (.int x5), o6] [.int y2, .int y1, u0] h = (rC h u0 15 (cIx (thrH 2 7 [] [some (v0), some (v1), some (v2), some (v3), some (.int x4), some (.int x5), o6] (bd S call dflT E_L_law n)) (call 300 [u0, .int y1, .int y2] h) (fun y2 h1 => iA v2 (rC h1 v2 15 (cIx (thrH 2 7 [] [some (v0), some (v1), some (v2), some (v3), some (.int x4), some (.int x5), some (.int y2)] (bd S call dflT E_L_law n)) (call 33 [v2] h1) (fun y4 h3 => (if y4 = x5 then (if x5 = 0 then iA v3 (aJ h3 v3 0 (fun y5 => (if (lg_cmp y5 y2.toInt64) = 0 then bd S call dflT E_L_law n 2773 [some (v0), some (v1), some (v2), some (v3), some (.int x4), some (.int x5), some (.int y2)] [] h3 else zR 0 (some (.inl (some (.int 0)), h3))))) else bd S call dflT E_L_law n 2773 [some (v0), some (v1), some (v2), some (v3), some (.int x4), some (.int x5), some (.int y2)] [] h3) else zR 0 (some (.inl (some (.int 0)), h3))))))))) := rfl
set_option maxRecDepth 100000 in
theorem g_L_law_1767 (S : sT) (call : cT) (n : Nat) (v0 : Value) (v1 : Value) (v2 : Value) (v3 : Value) (x4 : Int32) (o5 : Option Value) (o6 : Option Value) (h : pH) : bd S call dflT E_L_law (n + 1) 1767 [some (v0), some (v1), some (v2), some (v3), some (.int x4), o5, o6] [] h = (iA v1 (iA v0 (xL S v0 (x4 + 1) (fun y1 => iA v0 (xL S v0 (x4 + 2) (fun y2 => iA v0 (xL S v0 (x4 + 3) (fun y3 => iA v0 (xL S v0 (x4 + 4) (fun y4 => (if y4 = 0 then iA v3 (cIx tN (call 304 [v1, .int y1, .int y2, .int y3, .int 0, v3] h) (fun y6 h5 => bd S call dflT E_L_law n 1804 [some (v0), some (v1), some (v2), some (v3), some (.int x4), o5, o6] [.int y6] h5)) else iA v3 (cIx tN (call 304 [v1, .int y1, .int y2, .int y3, .int 1, v3] h) (fun y8 h7 => bd S call dflT E_L_law n 1804 [some (v0), some (v1), some (v2), some (v3), some (.int x4), o5, o6] [.int y8] h7))))))))))))) := rfl
set_option maxRecDepth 100000 in
theorem g_L_law_1804 (S : sT) (call : cT) (n : Nat) (v0 : Value) (v1 : Value) (v2 : Value) (v3 : Value) (x4 : Int32) (o5 : Option Value) (o6 : Option Value) (y0 : Int32) (h : pH) : bd S call dflT E_L_law (n + 1) 1804 [some (v0), some (v1), some (v2), some (v3), some (.int x4), o5, o6] [.int y0] h = (iA v2 (iA v0 (xL S v0 (x4 + 1) (fun y1 => iA v0 (xL S v0 (x4 + 2) (fun y2 => iA v0 (xL S v0 (x4 + 3) (fun y3 => iA v0 (xL S v0 (x4 + 4) (fun y4 => (if y4 = 0 then bd S call dflT E_L_law n 1839 [some (v0), some (v1), some (v2), some (v3), some (.int x4), some (.int y0), o6] [.int 0, .int y3, .int y2, .int y1, v2] h else bd S call dflT E_L_law n 1839 [some (v0), some (v1), some (v2), some (v3), some (.int x4), some (.int y0), o6] [.int 1, .int y3, .int y2, .int y1, v2] h))))))))))) := rfl
set_option maxRecDepth 100000 in
theorem g_L_law_1839 (S : sT) (call : cT) (n : Nat) (v0 : Value) (v1 : Value) (v2 : Value) (v3 : Value) (x4 : Int32) (x5 : Int32) (o6 : Option Value) (u0 : Value) (y1 : Int32) (y2 : Int32) (y3 : Int32) (y4 : Int32) (h : pH) : bd S call dflT E_L_law (n + 1) 1839 [some (v0), some (v1), some (v2), some (v3), some (.int x4), some (.int x5), o6] [.int y4, .int y3, .int y2, .int y1, u0] h = (rC h u0 15 (cIx (thrH 2 7 [] [some (v0), some (v1), some (v2), some (v3), some (.int x4), some (.int x5), o6] (bd S call dflT E_L_law n)) (call 306 [u0, .int y1, .int y2, .int y3, .int y4] h) (fun y2 h1 => iA v2 (rC h1 v2 15 (cIx (thrH 2 7 [] [some (v0), some (v1), some (v2), some (v3), some (.int x4), some (.int x5), some (.int y2)] (bd S call dflT E_L_law n)) (call 33 [v2] h1) (fun y4 h3 => (if y4 = x5 then (if x5 = 0 then iA v3 (aJ h3 v3 0 (fun y5 => (if (lg_cmp y5 y2.toInt64) = 0 then bd S call dflT E_L_law n 2773 [some (v0), some (v1), some (v2), some (v3), some (.int x4), some (.int x5), some (.int y2)] [] h3 else zR 0 (some (.inl (some (.int 0)), h3))))) else bd S call dflT E_L_law n 2773 [some (v0), some (v1), some (v2), some (v3), some (.int x4), some (.int x5), some (.int y2)] [] h3) else zR 0 (some (.inl (some (.int 0)), h3))))))))) := rfl
set_option maxRecDepth 100000 in
theorem g_L_law_1875 (S : sT) (call : cT) (n : Nat) (v0 : Value) (v1 : Value) (v2 : Value) (v3 : Value) (x4 : Int32) (o5 : Option Value) (o6 : Option Value) (h : pH) : bd S call dflT E_L_law (n + 1) 1875 [some (v0), some (v1), some (v2), some (v3), some (.int x4), o5, o6] [] h = (iA v1 (iA v0 (xL S v0 (x4 + 1) (fun y1 => iA v3 (cIx tN (call 308 [v1, .int y1, v3] h) (fun y3 h2 => bd S call dflT E_L_law n 1886 [some (v0), some (v1), some (v2), some (v3), some (.int x4), o5, o6] [.int y3] h2)))))) := rfl
set_option maxRecDepth 100000 in
theorem g_L_law_1886 (S : sT) (call : cT) (n : Nat) (v0 : Value) (v1 : Value) (v2 : Value) (v3 : Value) (x4 : Int32) (o5 : Option Value) (o6 : Option Value) (y0 : Int32) (h : pH) : bd S call dflT E_L_law (n + 1) 1886 [some (v0), some (v1), some (v2), some (v3), some (.int x4), o5, o6] [.int y0] h = (iA v2 (iA v0 (xL S v0 (x4 + 1) (fun y1 => rC h v2 15 (cIx (thrH 2 7 [] [some (v0), some (v1), some (v2), some (v3), some (.int x4), some (.int y0), o6] (bd S call dflT E_L_law n)) (call 309 [v2, .int y1] h) (fun y3 h2 => iA v2 (rC h2 v2 15 (cIx (thrH 2 7 [] [some (v0), some (v1), some (v2), some (v3), some (.int x4), some (.int y0), some (.int y3)] (bd S call dflT E_L_law n)) (call 33 [v2] h2) (fun y5 h4 => (if y5 = y0 then (if y0 = 0 then iA v3 (aJ h4 v3 0 (fun y6 => (if (lg_cmp y6 y3.toInt64) = 0 then bd S call dflT E_L_law n 2773 [some (v0), some (v1), some (v2), some (v3), some (.int x4), some (.int y0), some (.int y3)] [] h4 else zR 0 (some (.inl (some (.int 0)), h4))))) else bd S call dflT E_L_law n 2773 [some (v0), some (v1), some (v2), some (v3), some (.int x4), some (.int y0), some (.int y3)] [] h4) else zR 0 (some (.inl (some (.int 0)), h4)))))))))))) := rfl
set_option maxRecDepth 100000 in
theorem g_L_law_1931 (S : sT) (call : cT) (n : Nat) (v0 : Value) (v1 : Value) (v2 : Value) (v3 : Value) (x4 : Int32) (o5 : Option Value) (o6 : Option Value) (h : pH) : bd S call dflT E_L_law (n + 1) 1931 [some (v0), some (v1), some (v2), some (v3), some (.int x4), o5, o6] [] h = (iA v1 (iA v0 (xL S v0 (x4 + 1) (fun y1 => iA v0 (xL S v0 (x4 + 2) (fun y2 => (if y2 = 0 then iA v3 (cIx tN (call 312 [v1, .int y1, .int 0, v3] h) (fun y4 h3 => bd S call dflT E_L_law n 1956 [some (v0), some (v1), some (v2), some (v3), some (.int x4), o5, o6] [.int y4] h3)) else iA v3 (cIx tN (call 312 [v1, .int y1, .int 1, v3] h) (fun y6 h5 => bd S call dflT E_L_law n 1956 [some (v0), some (v1), some (v2), some (v3), some (.int x4), o5, o6] [.int y6] h5))))))))) := rfl
set_option maxRecDepth 100000 in
theorem g_L_law_1956 (S : sT) (call : cT) (n : Nat) (v0 : Value) (v1 : Value) (v2 : Value) (v3 : Value) (x4 : Int32) (o5 : Option Value) (o6 : Option Value) (y0 : Int32) (h : pH) : bd S call dflT E_L_law (n + 1) 1956 [some (v0), some (v1), some (v2), some (v3), some (.int x4), o5, o6] [.int y0] h = (iA v2 (iA v0 (xL S v0 (x4 + 1) (fun y1 => iA v0 (xL S v0 (x4 + 2) (fun y2 => (if y2 = 0 then bd S call dflT E_L_law n 1979 [some (v0), some (v1), some (v2), some (v3), some (.int x4), some (.int y0), o6] [.int 0, .int y1, v2] h else bd S call dflT E_L_law n 1979 [some (v0), some (v1), some (v2), some (v3), some (.int x4), some (.int y0), o6] [.int 1, .int y1, v2] h))))))) := rfl
set_option maxRecDepth 100000 in
theorem g_L_law_1979 (S : sT) (call : cT) (n : Nat) (v0 : Value) (v1 : Value) (v2 : Value) (v3 : Value) (x4 : Int32) (x5 : Int32) (o6 : Option Value) (u0 : Value) (y1 : Int32) (y2 : Int32) (h : pH) : bd S call dflT E_L_law (n + 1) 1979 [some (v0), some (v1), some (v2), some (v3), some (.int x4), some (.int x5), o6] [.int y2, .int y1, u0] h = (rC h u0 15 (cIx (thrH 2 7 [] [some (v0), some (v1), some (v2), some (v3), some (.int x4), some (.int x5), o6] (bd S call dflT E_L_law n)) (call 313 [u0, .int y1, .int y2] h) (fun y2 h1 => iA v2 (rC h1 v2 15 (cIx (thrH 2 7 [] [some (v0), some (v1), some (v2), some (v3), some (.int x4), some (.int x5), some (.int y2)] (bd S call dflT E_L_law n)) (call 33 [v2] h1) (fun y4 h3 => (if y4 = x5 then (if x5 = 0 then iA v3 (aJ h3 v3 0 (fun y5 => (if y2 = 0 then (if (lg_cmp y5 0) = 0 then bd S call dflT E_L_law n 2773 [some (v0), some (v1), some (v2), some (v3), some (.int x4), some (.int x5), some (.int y2)] [] h3 else zR 0 (some (.inl (some (.int 0)), h3))) else (if (lg_cmp y5 1) = 0 then bd S call dflT E_L_law n 2773 [some (v0), some (v1), some (v2), some (v3), some (.int x4), some (.int x5), some (.int y2)] [] h3 else zR 0 (some (.inl (some (.int 0)), h3)))))) else bd S call dflT E_L_law n 2773 [some (v0), some (v1), some (v2), some (v3), some (.int x4), some (.int x5), some (.int y2)] [] h3) else zR 0 (some (.inl (some (.int 0)), h3))))))))) := rfl
set_option maxRecDepth 100000 in
theorem g_L_law_2022 (S : sT) (call : cT) (n : Nat) (v0 : Value) (v1 : Value) (v2 : Value) (v3 : Value) (x4 : Int32) (o5 : Option Value) (o6 : Option Value) (h : pH) : bd S call dflT E_L_law (n + 1) 2022 [some (v0), some (v1), some (v2), some (v3), some (.int x4), o5, o6] [] h = (iA v1 (iA v0 (xL S v0 (x4 + 1) (fun y1 => iA v0 (xL S v0 (x4 + 2) (fun y2 => (if y2 = 0 then iA v3 (cIx tN (call 315 [v1, .int y1, .int 0, v3] h) (fun y4 h3 => bd S call dflT E_L_law n 2047 [some (v0), some (v1), some (v2), some (v3), some (.int x4), o5, o6] [.int y4] h3)) else iA v3 (cIx tN (call 315 [v1, .int y1, .int 1, v3] h) (fun y6 h5 => bd S call dflT E_L_law n 2047 [some (v0), some (v1), some (v2), some (v3), some (.int x4), o5, o6] [.int y6] h5))))))))) := rfl
set_option maxRecDepth 100000 in
theorem g_L_law_2047 (S : sT) (call : cT) (n : Nat) (v0 : Value) (v1 : Value) (v2 : Value) (v3 : Value) (x4 : Int32) (o5 : Option Value) (o6 : Option Value) (y0 : Int32) (h : pH) : bd S call dflT E_L_law (n + 1) 2047 [some (v0), some (v1), some (v2), some (v3), some (.int x4), o5, o6] [.int y0] h = (iA v2 (iA v0 (xL S v0 (x4 + 1) (fun y1 => iA v0 (xL S v0 (x4 + 2) (fun y2 => (if y2 = 0 then bd S call dflT E_L_law n 2070 [some (v0), some (v1), some (v2), some (v3), some (.int x4), some (.int y0), o6] [.int 0, .int y1, v2] h else bd S call dflT E_L_law n 2070 [some (v0), some (v1), some (v2), some (v3), some (.int x4), some (.int y0), o6] [.int 1, .int y1, v2] h))))))) := rfl
set_option maxRecDepth 100000 in
theorem g_L_law_2070 (S : sT) (call : cT) (n : Nat) (v0 : Value) (v1 : Value) (v2 : Value) (v3 : Value) (x4 : Int32) (x5 : Int32) (o6 : Option Value) (u0 : Value) (y1 : Int32) (y2 : Int32) (h : pH) : bd S call dflT E_L_law (n + 1) 2070 [some (v0), some (v1), some (v2), some (v3), some (.int x4), some (.int x5), o6] [.int y2, .int y1, u0] h = (rC h u0 15 (cIx (thrH 2 7 [] [some (v0), some (v1), some (v2), some (v3), some (.int x4), some (.int x5), o6] (bd S call dflT E_L_law n)) (call 316 [u0, .int y1, .int y2] h) (fun y2 h1 => iA v2 (rC h1 v2 15 (cIx (thrH 2 7 [] [some (v0), some (v1), some (v2), some (v3), some (.int x4), some (.int x5), some (.int y2)] (bd S call dflT E_L_law n)) (call 33 [v2] h1) (fun y4 h3 => (if y4 = x5 then (if x5 = 0 then iA v3 (aJ h3 v3 0 (fun y5 => (if (lg_cmp y5 y2.toInt64) = 0 then bd S call dflT E_L_law n 2773 [some (v0), some (v1), some (v2), some (v3), some (.int x4), some (.int x5), some (.int y2)] [] h3 else zR 0 (some (.inl (some (.int 0)), h3))))) else bd S call dflT E_L_law n 2773 [some (v0), some (v1), some (v2), some (v3), some (.int x4), some (.int x5), some (.int y2)] [] h3) else zR 0 (some (.inl (some (.int 0)), h3))))))))) := rfl
set_option maxRecDepth 100000 in
theorem g_L_law_2106 (S : sT) (call : cT) (n : Nat) (v0 : Value) (v1 : Value) (v2 : Value) (v3 : Value) (x4 : Int32) (o5 : Option Value) (o6 : Option Value) (h : pH) : bd S call dflT E_L_law (n + 1) 2106 [some (v0), some (v1), some (v2), some (v3), some (.int x4), o5, o6] [] h = (iA v1 (rC h v1 14 (cIx (thrH 2 7 [] [some (v0), some (v1), some (v2), some (v3), some (.int x4), o5, o6] (bd S call dflT E_L_law n)) (call 318 [v1] h) (fun y2 h1 => iA v2 (rC h1 v2 15 (cIx (thrH 2 7 [] [some (v0), some (v1), some (v2), some (v3), some (.int x4), o5, o6] (bd S call dflT E_L_law n)) (call 319 [v2] h1) (fun y4 h3 => (if y2 = y4 then bd S call dflT E_L_law n 2773 [some (v0), some (v1), some (v2), some (v3), some (.int x4), o5, o6] [] h3 else zR 0 (some (.inl (some (.int 0)), h3)))))))))) := rfl
set_option maxRecDepth 100000 in
theorem g_L_law_2119 (S : sT) (call : cT) (n : Nat) (v0 : Value) (v1 : Value) (v2 : Value) (v3 : Value) (x4 : Int32) (o5 : Option Value) (o6 : Option Value) (h : pH) : bd S call dflT E_L_law (n + 1) 2119 [some (v0), some (v1), some (v2), some (v3), some (.int x4), o5, o6] [] h = (iA v1 (iA v0 (xL S v0 (x4 + 1) (fun y1 => iA v0 (xL S v0 (x4 + 2) (fun y2 => iA v3 (cIx tN (call 322 [v1, .int y1, .int y2, v3] h) (fun y4 h3 => bd S call dflT E_L_law n 2136 [some (v0), some (v1), some (v2), some (v3), some (.int x4), o5, o6] [.int y4] h3)))))))) := rfl
set_option maxRecDepth 100000 in
theorem g_L_law_2136 (S : sT) (call : cT) (n : Nat) (v0 : Value) (v1 : Value) (v2 : Value) (v3 : Value) (x4 : Int32) (o5 : Option Value) (o6 : Option Value) (y0 : Int32) (h : pH) : bd S call dflT E_L_law (n + 1) 2136 [some (v0), some (v1), some (v2), some (v3), some (.int x4), o5, o6] [.int y0] h = (iA v2 (iA v0 (xL S v0 (x4 + 1) (fun y1 => iA v0 (xL S v0 (x4 + 2) (fun y2 => rC h v2 15 (cIx (thrH 2 7 [] [some (v0), some (v1), some (v2), some (v3), some (.int x4), some (.int y0), o6] (bd S call dflT E_L_law n)) (call 323 [v2, .int y1, .int y2] h) (fun y4 h3 => iA v2 (rC h3 v2 15 (cIx (thrH 2 7 [] [some (v0), some (v1), some (v2), some (v3), some (.int x4), some (.int y0), some (.int y4)] (bd S call dflT E_L_law n)) (call 33 [v2] h3) (fun y6 h5 => (if y6 = y0 then (if y0 = 0 then iA v3 (aJ h5 v3 0 (fun y7 => (if (lg_cmp y7 y4.toInt64) = 0 then bd S call dflT E_L_law n 2773 [some (v0), some (v1), some (v2), some (v3), some (.int x4), some (.int y0), some (.int y4)] [] h5 else zR 0 (some (.inl (some (.int 0)), h5))))) else bd S call dflT E_L_law n 2773 [some (v0), some (v1), some (v2), some (v3), some (.int x4), some (.int y0), some (.int y4)] [] h5) else zR 0 (some (.inl (some (.int 0)), h5)))))))))))))) := rfl
set_option maxRecDepth 100000 in
theorem g_L_law_2187 (S : sT) (call : cT) (n : Nat) (v0 : Value) (v1 : Value) (v2 : Value) (v3 : Value) (x4 : Int32) (o5 : Option Value) (o6 : Option Value) (h : pH) : bd S call dflT E_L_law (n + 1) 2187 [some (v0), some (v1), some (v2), some (v3), some (.int x4), o5, o6] [] h = (iA v1 (iA v0 (xL S v0 (x4 + 1) (fun y1 => iA v0 (xL S v0 (x4 + 2) (fun y2 => iA v0 (xL S v0 (x4 + 3) (fun y3 => iA v3 (cIx tN (call 326 [v1, .int y1, .int y2, .int y3, v3] h) (fun y5 h4 => bd S call dflT E_L_law n 2210 [some (v0), some (v1), some (v2), some (v3), some (.int x4), o5, o6] [.int y5] h4)))))))))) := rfl
set_option maxRecDepth 100000 in
theorem g_L_law_2210 (S : sT) (call : cT) (n : Nat) (v0 : Value) (v1 : Value) (v2 : Value) (v3 : Value) (x4 : Int32) (o5 : Option Value) (o6 : Option Value) (y0 : Int32) (h : pH) : bd S call dflT E_L_law (n + 1) 2210 [some (v0), some (v1), some (v2), some (v3), some (.int x4), o5, o6] [.int y0] h = (iA v2 (iA v0 (xL S v0 (x4 + 1) (fun y1 => iA v0 (xL S v0 (x4 + 2) (fun y2 => iA v0 (xL S v0 (x4 + 3) (fun y3 => rC h v2 15 (cIx (thrH 2 7 [] [some (v0), some (v1), some (v2), some (v3), some (.int x4), some (.int y0), o6] (bd S call dflT E_L_law n)) (call 327 [v2, .int y1, .int y2, .int y3] h) (fun y5 h4 => iA v2 (rC h4 v2 15 (cIx (thrH 2 7 [] [some (v0), some (v1), some (v2), some (v3), some (.int x4), some (.int y0), some (.int y5)] (bd S call dflT E_L_law n)) (call 33 [v2] h4) (fun y7 h6 => (if y7 = y0 then (if y0 = 0 then iA v3 (aJ h6 v3 0 (fun y8 => (if (lg_cmp y8 y5.toInt64) = 0 then bd S call dflT E_L_law n 2773 [some (v0), some (v1), some (v2), some (v3), some (.int x4), some (.int y0), some (.int y5)] [] h6 else zR 0 (some (.inl (some (.int 0)), h6))))) else bd S call dflT E_L_law n 2773 [some (v0), some (v1), some (v2), some (v3), some (.int x4), some (.int y0), some (.int y5)] [] h6) else zR 0 (some (.inl (some (.int 0)), h6)))))))))))))))) := rfl
set_option maxRecDepth 100000 in
theorem g_L_law_2267 (S : sT) (call : cT) (n : Nat) (v0 : Value) (v1 : Value) (v2 : Value) (v3 : Value) (x4 : Int32) (o5 : Option Value) (o6 : Option Value) (h : pH) : bd S call dflT E_L_law (n + 1) 2267 [some (v0), some (v1), some (v2), some (v3), some (.int x4), o5, o6] [] h = (iA v1 (iA v0 (xL S v0 (x4 + 1) (fun y1 => iA v0 (xL S v0 (x4 + 2) (fun y2 => iA v3 (cIx tN (call 330 [v1, .int y1, .int y2, v3] h) (fun y4 h3 => bd S call dflT E_L_law n 2284 [some (v0), some (v1), some (v2), some (v3), some (.int x4), o5, o6] [.int y4] h3)))))))) := rfl
set_option maxRecDepth 100000 in
theorem g_L_law_2284 (S : sT) (call : cT) (n : Nat) (v0 : Value) (v1 : Value) (v2 : Value) (v3 : Value) (x4 : Int32) (o5 : Option Value) (o6 : Option Value) (y0 : Int32) (h : pH) : bd S call dflT E_L_law (n + 1) 2284 [some (v0), some (v1), some (v2), some (v3), some (.int x4), o5, o6] [.int y0] h = (iA v2 (iA v0 (xL S v0 (x4 + 1) (fun y1 => iA v0 (xL S v0 (x4 + 2) (fun y2 => rC h v2 15 (cIx (thrH 2 7 [] [some (v0), some (v1), some (v2), some (v3), some (.int x4), some (.int y0), o6] (bd S call dflT E_L_law n)) (call 331 [v2, .int y1, .int y2] h) (fun y4 h3 => iA v2 (rC h3 v2 15 (cIx (thrH 2 7 [] [some (v0), some (v1), some (v2), some (v3), some (.int x4), some (.int y0), some (.int y4)] (bd S call dflT E_L_law n)) (call 33 [v2] h3) (fun y6 h5 => (if y6 = y0 then (if y0 = 0 then iA v3 (aJ h5 v3 0 (fun y7 => (if (lg_cmp y7 y4.toInt64) = 0 then bd S call dflT E_L_law n 2773 [some (v0), some (v1), some (v2), some (v3), some (.int x4), some (.int y0), some (.int y4)] [] h5 else zR 0 (some (.inl (some (.int 0)), h5))))) else bd S call dflT E_L_law n 2773 [some (v0), some (v1), some (v2), some (v3), some (.int x4), some (.int y0), some (.int y4)] [] h5) else zR 0 (some (.inl (some (.int 0)), h5)))))))))))))) := rfl
set_option maxRecDepth 100000 in
theorem g_L_law_2335 (S : sT) (call : cT) (n : Nat) (v0 : Value) (v1 : Value) (v2 : Value) (v3 : Value) (x4 : Int32) (o5 : Option Value) (o6 : Option Value) (h : pH) : bd S call dflT E_L_law (n + 1) 2335 [some (v0), some (v1), some (v2), some (v3), some (.int x4), o5, o6] [] h = (iA v1 (iA v0 (xL S v0 (x4 + 1) (fun y1 => iA v0 (xL S v0 (x4 + 2) (fun y2 => iA v0 (xL S v0 (x4 + 3) (fun y3 => iA v3 (cIx tN (call 336 [v1, .int y1, .int y2, .int y3, v3] h) (fun y5 h4 => bd S call dflT E_L_law n 2358 [some (v0), some (v1), some (v2), some (v3), some (.int x4), o5, o6] [.int y5] h4)))))))))) := rfl
set_option maxRecDepth 100000 in
theorem g_L_law_2358 (S : sT) (call : cT) (n : Nat) (v0 : Value) (v1 : Value) (v2 : Value) (v3 : Value) (x4 : Int32) (o5 : Option Value) (o6 : Option Value) (y0 : Int32) (h : pH) : bd S call dflT E_L_law (n + 1) 2358 [some (v0), some (v1), some (v2), some (v3), some (.int x4), o5, o6] [.int y0] h = (iA v2 (iA v0 (xL S v0 (x4 + 1) (fun y1 => iA v0 (xL S v0 (x4 + 2) (fun y2 => iA v0 (xL S v0 (x4 + 3) (fun y3 => rC h v2 15 (cIx (thrH 2 7 [] [some (v0), some (v1), some (v2), some (v3), some (.int x4), some (.int y0), o6] (bd S call dflT E_L_law n)) (call 340 [v2, .int y1, .int y2, .int y3] h) (fun y5 h4 => bd S call dflT E_L_law n 2384 [some (v0), some (v1), some (v2), some (v3), some (.int x4), some (.int y0), some (.int y5)] [] h4)))))))))) := rfl
set_option maxRecDepth 100000 in
theorem g_L_law_2384 (S : sT) (call : cT) (n : Nat) (v0 : Value) (v1 : Value) (v2 : Value) (v3 : Value) (x4 : Int32) (x5 : Int32) (x6 : Int32) (h : pH) : bd S call dflT E_L_law (n + 1) 2384 [some (v0), some (v1), some (v2), some (v3), some (.int x4), some (.int x5), some (.int x6)] [] h = (iA v2 (rC h v2 15 (cIx (thrH 2 7 [] [some (v0), some (v1), some (v2), some (v3), some (.int x4), some (.int x5), some (.int x6)] (bd S call dflT E_L_law n)) (call 33 [v2] h) (fun y2 h1 => (if y2 = x5 then (if x5 = 0 then iA v3 (aJ h1 v3 0 (fun y3 => (if (lg_cmp y3 x6.toInt64) = 0 then bd S call dflT E_L_law n 2773 [some (v0), some (v1), some (v2), some (v3), some (.int x4), some (.int x5), some (.int x6)] [] h1 else zR 0 (some (.inl (some (.int 0)), h1))))) else bd S call dflT E_L_law n 2773 [some (v0), some (v1), some (v2), some (v3), some (.int x4), some (.int x5), some (.int x6)] [] h1) else zR 0 (some (.inl (some (.int 0)), h1))))))) := rfl
set_option maxRecDepth 100000 in
theorem g_L_law_2415 (S : sT) (call : cT) (n : Nat) (v0 : Value) (v1 : Value) (v2 : Value) (v3 : Value) (x4 : Int32) (o5 : Option Value) (o6 : Option Value) (h : pH) : bd S call dflT E_L_law (n + 1) 2415 [some (v0), some (v1), some (v2), some (v3), some (.int x4), o5, o6] [] h = (iA v1 (iA v0 (xL S v0 (x4 + 1) (fun y1 => iA v0 (xL S v0 (x4 + 2) (fun y2 => iA v3 (cIx tN (call 344 [v1, .int y1, .int y2, v3] h) (fun y4 h3 => bd S call dflT E_L_law n 2432 [some (v0), some (v1), some (v2), some (v3), some (.int x4), o5, o6] [.int y4] h3)))))))) := rfl
set_option maxRecDepth 100000 in
theorem g_L_law_2432 (S : sT) (call : cT) (n : Nat) (v0 : Value) (v1 : Value) (v2 : Value) (v3 : Value) (x4 : Int32) (o5 : Option Value) (o6 : Option Value) (y0 : Int32) (h : pH) : bd S call dflT E_L_law (n + 1) 2432 [some (v0), some (v1), some (v2), some (v3), some (.int x4), o5, o6] [.int y0] h = (iA v2 (iA v0 (xL S v0 (x4 + 1) (fun y1 => iA v0 (xL S v0 (x4 + 2) (fun y2 => rC h v2 15 (cIx (thrH 2 7 [] [some (v0), some (v1), some (v2), some (v3), some (.int x4), some (.int y0), o6] (bd S call dflT E_L_law n)) (call 345 [v2, .int y1, .int y2] h) (fun y4 h3 => iA v2 (rC h3 v2 15 (cIx (thrH 2 7 [] [some (v0), some (v1), some (v2), some (v3), some (.int x4), some (.int y0), some (.int y4)] (bd S call dflT E_L_law n)) (call 33 [v2] h3) (fun y6 h5 => (if y6 = y0 then (if y0 = 0 then iA v3 (aJ h5 v3 0 (fun y7 => (if (lg_cmp y7 y4.toInt64) = 0 then bd S call dflT E_L_law n 2773 [some (v0), some (v1), some (v2), some (v3), some (.int x4), some (.int y0), some (.int y4)] [] h5 else zR 0 (some (.inl (some (.int 0)), h5))))) else bd S call dflT E_L_law n 2773 [some (v0), some (v1), some (v2), some (v3), some (.int x4), some (.int y0), some (.int y4)] [] h5) else zR 0 (some (.inl (some (.int 0)), h5)))))))))))))) := rfl
set_option maxRecDepth 100000 in
theorem g_L_law_2483 (S : sT) (call : cT) (n : Nat) (v0 : Value) (v1 : Value) (v2 : Value) (v3 : Value) (x4 : Int32) (o5 : Option Value) (o6 : Option Value) (h : pH) : bd S call dflT E_L_law (n + 1) 2483 [some (v0), some (v1), some (v2), some (v3), some (.int x4), o5, o6] [] h = (iA v1 (iA v0 (xL S v0 (x4 + 1) (fun y1 => iA v0 (xL S v0 (x4 + 2) (fun y2 => iA v0 (xL S v0 (x4 + 3) (fun y3 => iA v3 (cIx tN (call 351 [v1, .int y1, .int y2, .int y3, v3] h) (fun y5 h4 => bd S call dflT E_L_law n 2506 [some (v0), some (v1), some (v2), some (v3), some (.int x4), o5, o6] [.int y5] h4)))))))))) := rfl
set_option maxRecDepth 100000 in
theorem g_L_law_2506 (S : sT) (call : cT) (n : Nat) (v0 : Value) (v1 : Value) (v2 : Value) (v3 : Value) (x4 : Int32) (o5 : Option Value) (o6 : Option Value) (y0 : Int32) (h : pH) : bd S call dflT E_L_law (n + 1) 2506 [some (v0), some (v1), some (v2), some (v3), some (.int x4), o5, o6] [.int y0] h = (iA v2 (iA v0 (xL S v0 (x4 + 1) (fun y1 => iA v0 (xL S v0 (x4 + 2) (fun y2 => iA v0 (xL S v0 (x4 + 3) (fun y3 => rC h v2 15 (cIx (thrH 2 7 [] [some (v0), some (v1), some (v2), some (v3), some (.int x4), some (.int y0), o6] (bd S call dflT E_L_law n)) (call 354 [v2, .int y1, .int y2, .int y3] h) (fun y5 h4 => bd S call dflT E_L_law n 2532 [some (v0), some (v1), some (v2), some (v3), some (.int x4), some (.int y0), some (.int y5)] [] h4)))))))))) := rfl
set_option maxRecDepth 100000 in
theorem g_L_law_2532 (S : sT) (call : cT) (n : Nat) (v0 : Value) (v1 : Value) (v2 : Value) (v3 : Value) (x4 : Int32) (x5 : Int32) (x6 : Int32) (h : pH) : bd S call dflT E_L_law (n + 1) 2532 [some (v0), some (v1), some (v2), some (v3), some (.int x4), some (.int x5), some (.int x6)] [] h = (iA v2 (rC h v2 15 (cIx (thrH 2 7 [] [some (v0), some (v1), some (v2), some (v3), some (.int x4), some (.int x5), some (.int x6)] (bd S call dflT E_L_law n)) (call 33 [v2] h) (fun y2 h1 => (if y2 = x5 then (if x5 = 0 then iA v3 (aJ h1 v3 0 (fun y3 => (if (lg_cmp y3 x6.toInt64) = 0 then bd S call dflT E_L_law n 2773 [some (v0), some (v1), some (v2), some (v3), some (.int x4), some (.int x5), some (.int x6)] [] h1 else zR 0 (some (.inl (some (.int 0)), h1))))) else bd S call dflT E_L_law n 2773 [some (v0), some (v1), some (v2), some (v3), some (.int x4), some (.int x5), some (.int x6)] [] h1) else zR 0 (some (.inl (some (.int 0)), h1))))))) := rfl
set_option maxRecDepth 100000 in
theorem g_L_law_2563 (S : sT) (call : cT) (n : Nat) (v0 : Value) (v1 : Value) (v2 : Value) (v3 : Value) (x4 : Int32) (o5 : Option Value) (o6 : Option Value) (h : pH) : bd S call dflT E_L_law (n + 1) 2563 [some (v0), some (v1), some (v2), some (v3), some (.int x4), o5, o6] [] h = (iA v1 (iA v0 (xL S v0 (x4 + 1) (fun y1 => iA v0 (xL S v0 (x4 + 2) (fun y2 => iA v3 (cIx tN (call 356 [v1, .int y1, .int y2, v3] h) (fun y4 h3 => bd S call dflT E_L_law n 2580 [some (v0), some (v1), some (v2), some (v3), some (.int x4), o5, o6] [.int y4] h3)))))))) := rfl
set_option maxRecDepth 100000 in
theorem g_L_law_2580 (S : sT) (call : cT) (n : Nat) (v0 : Value) (v1 : Value) (v2 : Value) (v3 : Value) (x4 : Int32) (o5 : Option Value) (o6 : Option Value) (y0 : Int32) (h : pH) : bd S call dflT E_L_law (n + 1) 2580 [some (v0), some (v1), some (v2), some (v3), some (.int x4), o5, o6] [.int y0] h = (iA v2 (iA v0 (xL S v0 (x4 + 1) (fun y1 => iA v0 (xL S v0 (x4 + 2) (fun y2 => rC h v2 15 (cIx (thrH 2 7 [] [some (v0), some (v1), some (v2), some (v3), some (.int x4), some (.int y0), o6] (bd S call dflT E_L_law n)) (call 358 [v2, .int y1, .int y2] h) (fun y4 h3 => iA v2 (rC h3 v2 15 (cIx (thrH 2 7 [] [some (v0), some (v1), some (v2), some (v3), some (.int x4), some (.int y0), some (.int y4)] (bd S call dflT E_L_law n)) (call 33 [v2] h3) (fun y6 h5 => (if y6 = y0 then (if y0 = 0 then iA v3 (aJ h5 v3 0 (fun y7 => (if (lg_cmp y7 y4.toInt64) = 0 then bd S call dflT E_L_law n 2773 [some (v0), some (v1), some (v2), some (v3), some (.int x4), some (.int y0), some (.int y4)] [] h5 else zR 0 (some (.inl (some (.int 0)), h5))))) else bd S call dflT E_L_law n 2773 [some (v0), some (v1), some (v2), some (v3), some (.int x4), some (.int y0), some (.int y4)] [] h5) else zR 0 (some (.inl (some (.int 0)), h5)))))))))))))) := rfl
set_option maxRecDepth 100000 in
theorem g_L_law_2631 (S : sT) (call : cT) (n : Nat) (v0 : Value) (v1 : Value) (v2 : Value) (v3 : Value) (x4 : Int32) (o5 : Option Value) (o6 : Option Value) (h : pH) : bd S call dflT E_L_law (n + 1) 2631 [some (v0), some (v1), some (v2), some (v3), some (.int x4), o5, o6] [] h = (iA v1 (iA v0 (xL S v0 (x4 + 1) (fun y1 => iA v0 (xL S v0 (x4 + 2) (fun y2 => iA v0 (xL S v0 (x4 + 3) (fun y3 => iA v3 (cIx tN (call 360 [v1, .int y1, .int y2, .int y3, v3] h) (fun y5 h4 => bd S call dflT E_L_law n 2654 [some (v0), some (v1), some (v2), some (v3), some (.int x4), o5, o6] [.int y5] h4)))))))))) := rfl
set_option maxRecDepth 100000 in
theorem g_L_law_2654 (S : sT) (call : cT) (n : Nat) (v0 : Value) (v1 : Value) (v2 : Value) (v3 : Value) (x4 : Int32) (o5 : Option Value) (o6 : Option Value) (y0 : Int32) (h : pH) : bd S call dflT E_L_law (n + 1) 2654 [some (v0), some (v1), some (v2), some (v3), some (.int x4), o5, o6] [.int y0] h = (iA v2 (iA v0 (xL S v0 (x4 + 1) (fun y1 => iA v0 (xL S v0 (x4 + 2) (fun y2 => iA v0 (xL S v0 (x4 + 3) (fun y3 => rC h v2 15 (cIx (thrH 2 7 [] [some (v0), some (v1), some (v2), some (v3), some (.int x4), some (.int y0), o6] (bd S call dflT E_L_law n)) (call 361 [v2, .int y1, .int y2, .int y3] h) (fun y5 h4 => bd S call dflT E_L_law n 2680 [some (v0), some (v1), some (v2), some (v3), some (.int x4), some (.int y0), some (.int y5)] [] h4)))))))))) := rfl
set_option maxRecDepth 100000 in
theorem g_L_law_2680 (S : sT) (call : cT) (n : Nat) (v0 : Value) (v1 : Value) (v2 : Value) (v3 : Value) (x4 : Int32) (x5 : Int32) (x6 : Int32) (h : pH) : bd S call dflT E_L_law (n + 1) 2680 [some (v0), some (v1), some (v2), some (v3), some (.int x4), some (.int x5), some (.int x6)] [] h = (iA v2 (rC h v2 15 (cIx (thrH 2 7 [] [some (v0), some (v1), some (v2), some (v3), some (.int x4), some (.int x5), some (.int x6)] (bd S call dflT E_L_law n)) (call 33 [v2] h) (fun y2 h1 => (if y2 = x5 then (if x5 = 0 then iA v3 (aJ h1 v3 0 (fun y3 => (if (lg_cmp y3 x6.toInt64) = 0 then bd S call dflT E_L_law n 2773 [some (v0), some (v1), some (v2), some (v3), some (.int x4), some (.int x5), some (.int x6)] [] h1 else zR 0 (some (.inl (some (.int 0)), h1))))) else bd S call dflT E_L_law n 2773 [some (v0), some (v1), some (v2), some (v3), some (.int x4), some (.int x5), some (.int x6)] [] h1) else zR 0 (some (.inl (some (.int 0)), h1))))))) := rfl
set_option maxRecDepth 100000 in
theorem g_L_law_2711 (S : sT) (call : cT) (n : Nat) (v0 : Value) (v1 : Value) (v2 : Value) (v3 : Value) (x4 : Int32) (o5 : Option Value) (o6 : Option Value) (h : pH) : bd S call dflT E_L_law (n + 1) 2711 [some (v0), some (v1), some (v2), some (v3), some (.int x4), o5, o6] [] h = (iA v1 (rC h v1 14 (cIx (thrH 2 7 [] [some (v0), some (v1), some (v2), some (v3), some (.int x4), o5, o6] (bd S call dflT E_L_law n)) (call 363 [v1] h) (fun y2 h1 => iA v2 (rC h1 v2 15 (cIx (thrH 2 7 [] [some (v0), some (v1), some (v2), some (v3), some (.int x4), o5, o6] (bd S call dflT E_L_law n)) (call 364 [v2] h1) (fun y4 h3 => (if y2 = y4 then bd S call dflT E_L_law n 2773 [some (v0), some (v1), some (v2), some (v3), some (.int x4), o5, o6] [] h3 else zR 0 (some (.inl (some (.int 0)), h3)))))))))) := rfl
set_option maxRecDepth 100000 in
theorem g_L_law_2724 (S : sT) (call : cT) (n : Nat) (v0 : Value) (v1 : Value) (v2 : Value) (v3 : Value) (x4 : Int32) (o5 : Option Value) (o6 : Option Value) (h : pH) : bd S call dflT E_L_law (n + 1) 2724 [some (v0), some (v1), some (v2), some (v3), some (.int x4), o5, o6] [] h = (iA v1 (rC h v1 14 (cUx (thrH 2 7 [] [some (v0), some (v1), some (v2), some (v3), some (.int x4), o5, o6] (bd S call dflT E_L_law n)) (call 373 [v1] h) (fun h1 => iA v2 (rC h1 v2 15 (cUx (thrH 2 7 [] [some (v0), some (v1), some (v2), some (v3), some (.int x4), o5, o6] (bd S call dflT E_L_law n)) (call 374 [v2] h1) (fun h2 => bd S call dflT E_L_law n 2773 [some (v0), some (v1), some (v2), some (v3), some (.int x4), o5, o6] [] h2))))))) := rfl
set_option maxRecDepth 100000 in
theorem g_L_law_2735 (S : sT) (call : cT) (n : Nat) (v0 : Value) (v1 : Value) (v2 : Value) (v3 : Value) (x4 : Int32) (o5 : Option Value) (o6 : Option Value) (h : pH) : bd S call dflT E_L_law (n + 1) 2735 [some (v0), some (v1), some (v2), some (v3), some (.int x4), o5, o6] [] h = (iA v1 (rC h v1 14 (cIx (thrH 2 7 [] [some (v0), some (v1), some (v2), some (v3), some (.int x4), o5, o6] (bd S call dflT E_L_law n)) (call 375 [v1] h) (fun y2 h1 => iA v2 (rC h1 v2 15 (cIx (thrH 2 7 [] [some (v0), some (v1), some (v2), some (v3), some (.int x4), o5, o6] (bd S call dflT E_L_law n)) (call 376 [v2] h1) (fun y4 h3 => (if y2 = y4 then bd S call dflT E_L_law n 2773 [some (v0), some (v1), some (v2), some (v3), some (.int x4), o5, o6] [] h3 else zR 0 (some (.inl (some (.int 0)), h3)))))))))) := rfl
set_option maxRecDepth 100000 in
theorem g_L_law_2748 (S : sT) (call : cT) (n : Nat) (v0 : Value) (v1 : Value) (v2 : Value) (v3 : Value) (x4 : Int32) (o5 : Option Value) (o6 : Option Value) (h : pH) : bd S call dflT E_L_law (n + 1) 2748 [some (v0), some (v1), some (v2), some (v3), some (.int x4), o5, o6] [] h = (iA v1 (iA v0 (xL S v0 (x4 + 1) (fun y1 => rC h v1 14 (cIx (thrH 2 7 [] [some (v0), some (v1), some (v2), some (v3), some (.int x4), o5, o6] (bd S call dflT E_L_law n)) (call 383 [v1, .int y1] h) (fun y3 h2 => iA v2 (iA v0 (xL S v0 (x4 + 1) (fun y4 => rC h2 v2 15 (cIx (thrH 2 7 [] [some (v0), some (v1), some (v2), some (v3), some (.int x4), o5, o6] (bd S call dflT E_L_law n)) (call 386 [v2, .int y4] h2) (fun y6 h5 => (if y3 = y6 then bd S call dflT E_L_law n 2773 [some (v0), some (v1), some (v2), some (v3), some (.int x4), o5, o6] [] h5 else zR 0 (some (.inl (some (.int 0)), h5)))))))))))))) := rfl
set_option maxRecDepth 100000 in
theorem g_L_law_2773 (S : sT) (call : cT) (n : Nat) (v0 : Value) (v1 : Value) (v2 : Value) (v3 : Value) (x4 : Int32) (o5 : Option Value) (o6 : Option Value) (h : pH) : bd S call dflT E_L_law (n + 1) 2773 [some (v0), some (v1), some (v2), some (v3), some (.int x4), o5, o6] [] h = (nl v3 (bd S call dflT E_L_law n 23 [some (v0), some (v1), some (v2), some (v3), some (.int (x4 + 7)), o5, o6] [] h)) := rfl
